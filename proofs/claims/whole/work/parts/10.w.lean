/-! Jx4a65c_size_8abf5: size ()I -/
abbrev rmJx4a65c_size_8abf5 : Room := { frames := 0, cells := 0, slots := 0, locals := 0 }
def wJx4a65c_size_8abf5_0 (z : Nat × Nat) (b : Nat) (Q : Int32 → jM → Prop)  (μ : jM) : Prop :=
  ∃ v1 : Int32, jg μ (some b) 2 2 = some (.int v1) ∧ (Q v1 μ)
def wJx4a65c_size_8abf5 (z : Nat × Nat) (b : Nat)  (μ : jM) (Q : Int32 → jM → Prop) : Prop := wJx4a65c_size_8abf5_0 z b Q  μ
/-! J3_checkIndex_8e157: checkIndex (IILjava/util/function/BiFunction;)I -/
abbrev rmJ3_checkIndex_8e157 : Room := { frames := 0, cells := 0, slots := 0, locals := 0 }
def wJ3_checkIndex_8e157_0 (z : Nat × Nat) (Q : Int32 → jM → Prop) (x0 : Int32) (x1 : Int32) (x2 : Option Nat) (μ : jM) : Prop :=
  ((x0 < 0) → (False)) ∧ (¬ (x0 < 0) → (((x0 < x1) → (Q x0 μ)) ∧ (¬ (x0 < x1) → (False))))
def wJ3_checkIndex_8e157 (z : Nat × Nat) (x0 : Int32) (x1 : Int32) (x2 : Option Nat) (μ : jM) (Q : Int32 → jM → Prop) : Prop := wJ3_checkIndex_8e157_0 z Q x0 x1 x2 μ
/-! J15_checkIndex_7cf53: checkIndex (II)I -/
abbrev rmJ15_checkIndex_7cf53 : Room := { frames := 1, cells := 0, slots := 0, locals := 22 }
def wJ15_checkIndex_7cf53_0 (z : Nat × Nat) (Q : Int32 → jM → Prop) (x0 : Int32) (x1 : Int32) (μ : jM) : Prop :=
  wJ3_checkIndex_8e157 z x0 x1 none μ (fun v1 μ2 => Q v1 μ2)
def wJ15_checkIndex_7cf53 (z : Nat × Nat) (x0 : Int32) (x1 : Int32) (μ : jM) (Q : Int32 → jM → Prop) : Prop := wJ15_checkIndex_7cf53_0 z Q x0 x1 μ
/-! Jx4a65c_elementData_915e3: elementData (I)Ljava/lang/Object; -/
abbrev rmJx4a65c_elementData_915e3 : Room := { frames := 0, cells := 0, slots := 0, locals := 0 }
def wJx4a65c_elementData_915e3_0 (z : Nat × Nat) (b : Nat) (Q : Option Nat → jM → Prop) (x1 : Int32) (μ : jM) : Prop :=
  ∃ v1 : Option Nat, jg μ (some b) 2 1 = some (va_rf v1) ∧ (∃ v2 : Option Nat, jaq μ v1 x1 = some v2 ∧ (Q v2 μ))
def wJx4a65c_elementData_915e3 (z : Nat × Nat) (b : Nat) (x1 : Int32) (μ : jM) (Q : Option Nat → jM → Prop) : Prop := wJx4a65c_elementData_915e3_0 z b Q x1 μ
/-! Jx4a65c_get_915e3: get (I)Ljava/lang/Object; -/
abbrev rmJx4a65c_get_915e3 : Room := { frames := 2, cells := 0, slots := 0, locals := 43 }
def wJx4a65c_get_915e3_0 (z : Nat × Nat) (b : Nat) (Q : Option Nat → jM → Prop) (x1 : Int32) (μ : jM) : Prop :=
  ∃ v1 : Int32, jg μ (some b) 2 2 = some (.int v1) ∧ (wJ15_checkIndex_7cf53 z x1 v1 μ (fun v2 μ3 => (∃ fs, μ3 b = some (.inr (2, fs))) ∧ wJx4a65c_elementData_915e3 z b x1 μ3 (fun v4 μ5 => Q v4 μ5)))
def wJx4a65c_get_915e3 (z : Nat × Nat) (b : Nat) (x1 : Int32) (μ : jM) (Q : Option Nat → jM → Prop) : Prop := wJx4a65c_get_915e3_0 z b Q x1 μ
/-! X9_bankAt: bankAt (I)LCashPools$Bank; -/
abbrev rmX9_bankAt : Room := { frames := 6, cells := 1, slots := 6, locals := 92 }
def wX9_bankAt_0 (z : Nat × Nat) (b : Nat) (Q : Option Nat → jM → Prop) (X : String → jM → Prop) (x1 : Int32) (μ : jM) : Prop :=
  ((x1 < 0) → (X "java/lang/IllegalArgumentException" μ)) ∧ (¬ (x1 < 0) → (∃ v1 : Option Nat, jg μ (some b) 11 0 = some (va_rf v1) ∧ (∃ v2 : Option Nat, jg μ v1 6 4 = some (va_rf v2) ∧ (∃ b5 : Nat, (v2 = some b5 ∧ ∃ fs, μ b5 = some (.inr (2, fs))) ∧ wJx4a65c_size_8abf5 z b5  μ (fun v3 μ4 => ((x1 < v3) → (∃ v6 : Option Nat, jg μ4 (some b) 11 0 = some (va_rf v6) ∧ (∃ v7 : Option Nat, jg μ4 v6 6 4 = some (va_rf v7) ∧ (∃ b10 : Nat, (v7 = some b10 ∧ ∃ fs, μ4 b10 = some (.inr (2, fs))) ∧ wJx4a65c_get_915e3 z b10 x1 μ4 (fun v8 μ9 => jc μ9 v8 4 ∧ (Q v8 μ9)))))) ∧ (¬ (x1 < v3) → (X "java/lang/IllegalArgumentException" μ4)))))))
def wX9_bankAt (z : Nat × Nat) (b : Nat) (x1 : Int32) (μ : jM) (Q : Option Nat → jM → Prop) (X : String → jM → Prop) : Prop := wX9_bankAt_0 z b Q X x1 μ
/-! X9_requireWithin: requireWithin (III)V -/
abbrev rmX9_requireWithin : Room := { frames := 6, cells := 1, slots := 6, locals := 92 }
def wX9_requireWithin_0 (z : Nat × Nat) (Q : Unit → jM → Prop) (X : String → jM → Prop) (x0 : Int32) (x1 : Int32) (x2 : Int32) (μ : jM) : Prop :=
  ((x0 < x1) → (X "java/lang/IllegalArgumentException" μ)) ∧ (¬ (x0 < x1) → (((x0 ≤ x2) → (Q () μ)) ∧ (¬ (x0 ≤ x2) → (X "java/lang/IllegalArgumentException" μ))))
def wX9_requireWithin (z : Nat × Nat) (x0 : Int32) (x1 : Int32) (x2 : Int32) (μ : jM) (Q : Unit → jM → Prop) (X : String → jM → Prop) : Prop := wX9_requireWithin_0 z Q X x0 x1 x2 μ
/-! X9_requireAccountLeft: requireAccountLeft ()V -/
abbrev rmX9_requireAccountLeft : Room := { frames := 6, cells := 1, slots := 6, locals := 92 }
def wX9_requireAccountLeft_0 (z : Nat × Nat) (b : Nat) (Q : Unit → jM → Prop) (X : String → jM → Prop)  (μ : jM) : Prop :=
  ∃ v1 : Option Nat, jg μ (some b) 11 0 = some (va_rf v1) ∧ (∃ v2 : Option Nat, jg μ v1 6 0 = some (va_rf v2) ∧ (∃ b5 : Nat, (v2 = some b5 ∧ ∃ fs, μ b5 = some (.inr (2, fs))) ∧ wJx4a65c_size_8abf5 z b5  μ (fun v3 μ4 => ((v3 < (10 : Int32)) → (Q () μ4)) ∧ (¬ (v3 < (10 : Int32)) → (X "java/lang/IllegalStateException" μ4)))))
def wX9_requireAccountLeft (z : Nat × Nat) (b : Nat)  (μ : jM) (Q : Unit → jM → Prop) (X : String → jM → Prop) : Prop := wX9_requireAccountLeft_0 z b Q X  μ
/-! Jxa1e45_init_da8c8: <init> ()V -/
abbrev rmJxa1e45_init_da8c8 : Room := { frames := 1, cells := 0, slots := 0, locals := 110 }
def wJxa1e45_init_da8c8_0 (z : Nat × Nat) (b : Nat) (Q : Unit → jM → Prop)  (μ : jM) : Prop :=
  Q () μ
def wJxa1e45_init_da8c8 (z : Nat × Nat) (b : Nat)  (μ : jM) (Q : Unit → jM → Prop) : Prop := wJxa1e45_init_da8c8_0 z b Q  μ
/-! Jxc12de_init_da8c8: <init> ()V -/
abbrev rmJxc12de_init_da8c8 : Room := { frames := 2, cells := 0, slots := 0, locals := 130 }
def wJxc12de_init_da8c8_0 (z : Nat × Nat) (b : Nat) (Q : Unit → jM → Prop)  (μ : jM) : Prop :=
  wJxa1e45_init_da8c8 z b  μ (fun _ μ2 => ∃ μ3 : jM, jp μ2 (some b) 2 0 (.int (0 : Int32)) = some μ3 ∧ (Q () μ3))
def wJxc12de_init_da8c8 (z : Nat × Nat) (b : Nat)  (μ : jM) (Q : Unit → jM → Prop) : Prop := wJxc12de_init_da8c8_0 z b Q  μ
/-! Jx4a65c_init_da8c8: <init> ()V -/
abbrev rmJx4a65c_init_da8c8 : Room := { frames := 3, cells := 0, slots := 0, locals := 150 }
def wJx4a65c_init_da8c8_0 (z : Nat × Nat) (b : Nat) (Q : Unit → jM → Prop)  (μ : jM) : Prop :=
  wJxc12de_init_da8c8 z b  μ (fun _ μ2 => ∃ μ3 : jM, jp μ2 (some b) 2 1 (va_rf (some z.1)) = some μ3 ∧ (Q () μ3))
def wJx4a65c_init_da8c8 (z : Nat × Nat) (b : Nat)  (μ : jM) (Q : Unit → jM → Prop) : Prop := wJx4a65c_init_da8c8_0 z b Q  μ
/-! X7_init: <init> (II)V -/
abbrev rmX7_init : Room := { frames := 1, cells := 4, slots := 40, locals := 110 }
def wX7_init_0 (z : Nat × Nat) (b : Nat) (Q : Unit → jM → Prop) (x1 : Int32) (x2 : Int32) (μ : jM) : Prop :=
  ∀ q1 : Nat, μ q1 = none → (∃ μ2 : jM, jp (va_up μ q1 (some (.inl (1, 10, .inr (.inl (fun _ => 0)))))) (some b) 10 4 (va_rf (some q1)) = some μ2 ∧ (∀ q3 : Nat, μ2 q3 = none → (∃ μ4 : jM, jp (va_up μ2 q3 (some (.inl (1, 10, .inr (.inl (fun _ => 0)))))) (some b) 10 5 (va_rf (some q3)) = some μ4 ∧ (∀ q5 : Nat, μ4 q5 = none → (∃ μ6 : jM, jp (va_up μ4 q5 (some (.inl (1, 10, .inr (.inl (fun _ => 0)))))) (some b) 10 6 (va_rf (some q5)) = some μ6 ∧ (∀ q7 : Nat, μ6 q7 = none → (∃ μ8 : jM, jp (va_up μ6 q7 (some (.inl (1, 10, .inr (.inl (fun _ => 0)))))) (some b) 10 9 (va_rf (some q7)) = some μ8 ∧ (∃ μ9 : jM, jp μ8 (some b) 10 0 (.int x1) = some μ9 ∧ (∃ μ10 : jM, jp μ9 (some b) 10 1 (.int x2) = some μ10 ∧ (Q () μ10))))))))))
def wX7_init (z : Nat × Nat) (b : Nat) (x1 : Int32) (x2 : Int32) (μ : jM) (Q : Unit → jM → Prop) : Prop := wX7_init_0 z b Q x1 x2 μ
/-! X6_init: <init> (III)V -/
abbrev rmX6_init : Room := { frames := 4, cells := 12, slots := 106, locals := 170 }
def wX6_init_0 (z : Nat × Nat) (b : Nat) (Q : Unit → jM → Prop) (x1 : Int32) (x2 : Int32) (x3 : Int32) (μ : jM) : Prop :=
  ∀ q1 : Nat, μ q1 = none → (wJx4a65c_init_da8c8 z q1  (va_up μ q1 (some (.inr (2, jfJx4a65c)))) (fun _ μ3 => ∃ μ4 : jM, jp μ3 (some b) 9 3 (va_rf (some q1)) = some μ4 ∧ (∀ q5 : Nat, μ4 q5 = none → (wJx4a65c_init_da8c8 z q5  (va_up μ4 q5 (some (.inr (2, jfJx4a65c)))) (fun _ μ7 => ∃ μ8 : jM, jp μ7 (some b) 9 4 (va_rf (some q5)) = some μ8 ∧ (∃ μ9 : jM, jp μ8 (some b) 9 0 (.int x1) = some μ9 ∧ (∀ q10 : Nat, μ9 q10 = none → (wX7_init z q10 x2 (1 : Int32) (va_up μ9 q10 (some (.inr (10, jfX7)))) (fun _ μ12 => ∃ μ13 : jM, jp μ12 (some b) 9 1 (va_rf (some q10)) = some μ13 ∧ (∀ q14 : Nat, μ13 q14 = none → (wX7_init z q14 x3 (-1 : Int32) (va_up μ13 q14 (some (.inr (10, jfX7)))) (fun _ μ16 => ∃ μ17 : jM, jp μ16 (some b) 9 2 (va_rf (some q14)) = some μ17 ∧ (Q () μ17)))))))))))))
def wX6_init (z : Nat × Nat) (b : Nat) (x1 : Int32) (x2 : Int32) (x3 : Int32) (μ : jM) (Q : Unit → jM → Prop) : Prop := wX6_init_0 z b Q x1 x2 x3 μ
/-! X0_init: <init> (ILCashPools$Account;LCashPools$Pool;LCashPools$Bank;)V -/
abbrev rmX0_init : Room := { frames := 4, cells := 1, slots := 3, locals := 170 }
def wX0_init_0 (z : Nat × Nat) (b : Nat) (Q : Unit → jM → Prop) (x1 : Int32) (x2 : Option Nat) (x3 : Option Nat) (x4 : Option Nat) (μ : jM) : Prop :=
  ∀ q1 : Nat, μ q1 = none → (wJx4a65c_init_da8c8 z q1  (va_up μ q1 (some (.inr (2, jfJx4a65c)))) (fun _ μ3 => ∃ μ4 : jM, jp μ3 (some b) 3 4 (va_rf (some q1)) = some μ4 ∧ (∃ μ5 : jM, jp μ4 (some b) 3 0 (.int x1) = some μ5 ∧ (∃ μ6 : jM, jp μ5 (some b) 3 1 (va_rf x2) = some μ6 ∧ (∃ μ7 : jM, jp μ6 (some b) 3 2 (va_rf x3) = some μ7 ∧ (∃ μ8 : jM, jp μ7 (some b) 3 3 (va_rf x4) = some μ8 ∧ (Q () μ8)))))))
def wX0_init (z : Nat × Nat) (b : Nat) (x1 : Int32) (x2 : Option Nat) (x3 : Option Nat) (x4 : Option Nat) (μ : jM) (Q : Unit → jM → Prop) : Prop := wX0_init_0 z b Q x1 x2 x3 x4 μ
/-! J8_hugeLength_7cf53: hugeLength (II)I -/
abbrev rmJ8_hugeLength_7cf53 : Room := { frames := 0, cells := 0, slots := 0, locals := 0 }
def wJ8_hugeLength_7cf53_0 (z : Nat × Nat) (Q : Int32 → jM → Prop) (x0 : Int32) (x1 : Int32) (μ : jM) : Prop :=
  ∀ v1 : Int32, v1 = (x0 + x1) → (((0 ≤ v1) → ((((2147483639 : Int32) < v1) → (Q v1 μ)) ∧ (¬ ((2147483639 : Int32) < v1) → (Q (2147483639 : Int32) μ)))) ∧ (¬ (0 ≤ v1) → (False)))
def wJ8_hugeLength_7cf53 (z : Nat × Nat) (x0 : Int32) (x1 : Int32) (μ : jM) (Q : Int32 → jM → Prop) : Prop := wJ8_hugeLength_7cf53_0 z Q x0 x1 μ
/-! J8_newLength_cabcc: newLength (III)I -/
abbrev rmJ8_newLength_cabcc : Room := { frames := 1, cells := 0, slots := 0, locals := 110 }
def wJ8_newLength_cabcc_21 (z : Nat × Nat) (Q : Int32 → jM → Prop) (x0 : Int32) (x1 : Int32) (μ : jM) : Prop :=
  wJ8_hugeLength_7cf53 z x0 x1 μ (fun v1 μ2 => Q v1 μ2)
def wJ8_newLength_cabcc_0 (z : Nat × Nat) (Q : Int32 → jM → Prop) (x0 : Int32) (x1 : Int32) (x2 : Int32) (μ : jM) : Prop :=
  ∀ v1 : Int32, v1 = (x0 + (if x1 < x2 then x2 else x1)) → (((v1 ≤ (0 : Int32)) → (wJ8_newLength_cabcc_21 z Q x0 x1 μ)) ∧ (¬ (v1 ≤ (0 : Int32)) → ((((2147483639 : Int32) < v1) → (wJ8_newLength_cabcc_21 z Q x0 x1 μ)) ∧ (¬ ((2147483639 : Int32) < v1) → (Q v1 μ)))))
def wJ8_newLength_cabcc (z : Nat × Nat) (x0 : Int32) (x1 : Int32) (x2 : Int32) (μ : jM) (Q : Int32 → jM → Prop) : Prop := wJ8_newLength_cabcc_0 z Q x0 x1 x2 μ
/-! J7_copyOf_6403c: copyOf ([Ljava/lang/Object;ILjava/lang/Class;)[Ljava/lang/Object; -/
abbrev rmJ7_copyOf_6403c : Room := { frames := 1, cells := 1, slots := 32, locals := 110 }
def wJ7_copyOf_6403c_24 (z : Nat × Nat) (Q : Option Nat → jM → Prop) (x0 : Option Nat) (x1 : Int32) (t0 : Option Nat) (μ : jM) : Prop :=
  ∃ v1 : Nat, jal μ x0 = some v1 ∧ (∃ μ2 : jM, jcpq μ x0 (0 : Int32) t0 (0 : Int32) (if x1 < (Int32.ofNat v1) then x1 else (Int32.ofNat v1)) μ2 ∧ (Q t0 μ2))
def wJ7_copyOf_6403c_0 (z : Nat × Nat) (Q : Option Nat → jM → Prop) (x0 : Option Nat) (x1 : Int32) (x2 : Option Nat) (μ : jM) : Prop :=
  ((¬ x2 = (some z.2)) → (False)) ∧ (x2 = (some z.2) → (∃ N2 : Nat, (x1).toNatClampNeg = N2 ∧ ¬ x1 < 0 ∧ N2 ≤ 32 ∧ ∀ q1 : Nat, μ q1 = none → (wJ7_copyOf_6403c_24 z Q x0 x1 (some q1) (va_up μ q1 (some (.inl (3, N2, .inr (.inr (.inr (.inr (fun _ => none)))))))))))
def wJ7_copyOf_6403c (z : Nat × Nat) (x0 : Option Nat) (x1 : Int32) (x2 : Option Nat) (μ : jM) (Q : Option Nat → jM → Prop) : Prop := wJ7_copyOf_6403c_0 z Q x0 x1 x2 μ
/-! J7_copyOf_1904c: copyOf ([Ljava/lang/Object;I)[Ljava/lang/Object; -/
abbrev rmJ7_copyOf_1904c : Room := { frames := 2, cells := 1, slots := 32, locals := 133 }
def wJ7_copyOf_1904c_0 (z : Nat × Nat) (Q : Option Nat → jM → Prop) (x0 : Option Nat) (x1 : Int32) (μ : jM) : Prop :=
  (∃ a n f, x0 = some a ∧ μ a = some (.inl (3, n, f))) ∧ (wJ7_copyOf_6403c z x0 x1 (some z.2) μ (fun v1 μ2 => Q v1 μ2))
def wJ7_copyOf_1904c (z : Nat × Nat) (x0 : Option Nat) (x1 : Int32) (μ : jM) (Q : Option Nat → jM → Prop) : Prop := wJ7_copyOf_1904c_0 z Q x0 x1 μ
/-! Jx4a65c_grow_92f84: grow (I)[Ljava/lang/Object; -/
abbrev rmJx4a65c_grow_92f84 : Room := { frames := 3, cells := 1, slots := 32, locals := 154 }
def wJx4a65c_grow_92f84_20 (z : Nat × Nat) (b : Nat) (Q : Option Nat → jM → Prop) (x1 : Int32) (x2 : Int32) (μ : jM) : Prop :=
  wJ8_newLength_cabcc z x2 (x1 - x2) (x2 >>> ((1 : Int32) &&& 31)) μ (fun v1 μ2 => ∃ v3 : Option Nat, jg μ2 (some b) 2 1 = some (va_rf v3) ∧ (wJ7_copyOf_1904c z v3 v1 μ2 (fun v4 μ5 => ∃ μ6 : jM, jp μ5 (some b) 2 1 (va_rf v4) = some μ6 ∧ (Q v4 μ6))))
def wJx4a65c_grow_92f84_0 (z : Nat × Nat) (b : Nat) (Q : Option Nat → jM → Prop) (x1 : Int32) (μ : jM) : Prop :=
  ∃ v1 : Option Nat, jg μ (some b) 2 1 = some (va_rf v1) ∧ (∃ v2 : Nat, jal μ v1 = some v2 ∧ (∀ v3 : Int32, v3 = (Int32.ofNat v2) → (((0 < v3) → (wJx4a65c_grow_92f84_20 z b Q x1 v3 μ)) ∧ (¬ (0 < v3) → (∃ v4 : Option Nat, jg μ (some b) 2 1 = some (va_rf v4) ∧ (((v4 = (some z.1)) → (∃ N6 : Nat, ((if (10 : Int32) < x1 then x1 else (10 : Int32))).toNatClampNeg = N6 ∧ ¬ (if (10 : Int32) < x1 then x1 else (10 : Int32)) < 0 ∧ N6 ≤ 32 ∧ ∀ q5 : Nat, μ q5 = none → (∃ μ7 : jM, jp (va_up μ q5 (some (.inl (3, N6, .inr (.inr (.inr (.inr (fun _ => none)))))))) (some b) 2 1 (va_rf (some q5)) = some μ7 ∧ (Q (some q5) μ7)))) ∧ (¬ (v4 = (some z.1)) → (wJx4a65c_grow_92f84_20 z b Q x1 v3 μ))))))))
def wJx4a65c_grow_92f84 (z : Nat × Nat) (b : Nat) (x1 : Int32) (μ : jM) (Q : Option Nat → jM → Prop) : Prop := wJx4a65c_grow_92f84_0 z b Q x1 μ
/-! Jx4a65c_grow_d5877: grow ()[Ljava/lang/Object; -/
abbrev rmJx4a65c_grow_d5877 : Room := { frames := 4, cells := 1, slots := 32, locals := 177 }
def wJx4a65c_grow_d5877_0 (z : Nat × Nat) (b : Nat) (Q : Option Nat → jM → Prop)  (μ : jM) : Prop :=
  ∃ v1 : Int32, jg μ (some b) 2 2 = some (.int v1) ∧ ((∃ fs, μ b = some (.inr (2, fs))) ∧ wJx4a65c_grow_92f84 z b (v1 + (1 : Int32)) μ (fun v2 μ3 => Q v2 μ3))
def wJx4a65c_grow_d5877 (z : Nat × Nat) (b : Nat)  (μ : jM) (Q : Option Nat → jM → Prop) : Prop := wJx4a65c_grow_d5877_0 z b Q  μ
/-! Jx4a65c_add_72be8: add (Ljava/lang/Object;[Ljava/lang/Object;I)V -/
abbrev rmJx4a65c_add_72be8 : Room := { frames := 5, cells := 1, slots := 32, locals := 197 }
def wJx4a65c_add_72be8_11 (z : Nat × Nat) (b : Nat) (Q : Unit → jM → Prop) (x1 : Option Nat) (x2 : Option Nat) (x3 : Int32) (μ : jM) : Prop :=
  (∃ v ci fs, x1 = some v ∧ μ v = some (.inr (ci, fs))) ∧ ∃ μ1 : jM, jsq μ x2 x3 x1 = some μ1 ∧ (∃ μ2 : jM, jp μ1 (some b) 2 2 (.int (x3 + (1 : Int32))) = some μ2 ∧ (Q () μ2))
def wJx4a65c_add_72be8_0 (z : Nat × Nat) (b : Nat) (Q : Unit → jM → Prop) (x1 : Option Nat) (x2 : Option Nat) (x3 : Int32) (μ : jM) : Prop :=
  ∃ v1 : Nat, jal μ x2 = some v1 ∧ (((¬ x3 = (Int32.ofNat v1)) → (wJx4a65c_add_72be8_11 z b Q x1 x2 x3 μ)) ∧ (x3 = (Int32.ofNat v1) → ((∃ fs, μ b = some (.inr (2, fs))) ∧ wJx4a65c_grow_d5877 z b  μ (fun v2 μ3 => wJx4a65c_add_72be8_11 z b Q x1 v2 x3 μ3))))
def wJx4a65c_add_72be8 (z : Nat × Nat) (b : Nat) (x1 : Option Nat) (x2 : Option Nat) (x3 : Int32) (μ : jM) (Q : Unit → jM → Prop) : Prop := wJx4a65c_add_72be8_0 z b Q x1 x2 x3 μ
/-! Jx4a65c_add_9ea2d: add (Ljava/lang/Object;)Z -/
abbrev rmJx4a65c_add_9ea2d : Room := { frames := 6, cells := 1, slots := 32, locals := 220 }
def wJx4a65c_add_9ea2d_0 (z : Nat × Nat) (b : Nat) (Q : Int32 → jM → Prop) (x1 : Option Nat) (μ : jM) : Prop :=
  ∃ v1 : Int32, jg μ (some b) 2 0 = some (.int v1) ∧ (∃ μ2 : jM, jp μ (some b) 2 0 (.int (v1 + (1 : Int32))) = some μ2 ∧ (∃ v3 : Option Nat, jg μ2 (some b) 2 1 = some (va_rf v3) ∧ (∃ v4 : Int32, jg μ2 (some b) 2 2 = some (.int v4) ∧ ((∃ fs, μ2 b = some (.inr (2, fs))) ∧ wJx4a65c_add_72be8 z b x1 v3 v4 μ2 (fun _ μ6 => Q (1 : Int32) μ6)))))
def wJx4a65c_add_9ea2d (z : Nat × Nat) (b : Nat) (x1 : Option Nat) (μ : jM) (Q : Int32 → jM → Prop) : Prop := wJx4a65c_add_9ea2d_0 z b Q x1 μ
/-! X3_enter: enter (LCashPools$Account;)V -/
abbrev rmX3_enter : Room := { frames := 7, cells := 2, slots := 64, locals := 241 }
def wX3_enter_0 (z : Nat × Nat) (b : Nat) (Q : Unit → jM → Prop) (x1 : Option Nat) (μ : jM) : Prop :=
  ∃ v1 : Option Nat, jg μ (some b) 6 0 = some (va_rf v1) ∧ (∃ b4 : Nat, (v1 = some b4 ∧ ∃ fs, μ b4 = some (.inr (2, fs))) ∧ wJx4a65c_add_9ea2d z b4 x1 μ (fun v2 μ3 => ∃ v5 : Option Nat, jg μ3 x1 3 2 = some (va_rf v5) ∧ (∃ v6 : Option Nat, jg μ3 v5 9 3 = some (va_rf v6) ∧ (∃ b9 : Nat, (v6 = some b9 ∧ ∃ fs, μ3 b9 = some (.inr (2, fs))) ∧ wJx4a65c_add_9ea2d z b9 x1 μ3 (fun v7 μ8 => Q () μ8)))))
def wX3_enter (z : Nat × Nat) (b : Nat) (x1 : Option Nat) (μ : jM) (Q : Unit → jM → Prop) : Prop := wX3_enter_0 z b Q x1 μ
/-! X3_openPool: openPool (LCashPools$Bank;II)I -/
abbrev rmX3_openPool : Room := { frames := 8, cells := 18, slots := 222, locals := 262 }
def wX3_openPool_0 (z : Nat × Nat) (b : Nat) (Q : Int32 → jM → Prop) (x1 : Option Nat) (x2 : Int32) (x3 : Int32) (μ : jM) : Prop :=
  ∃ v1 : Option Nat, jg μ (some b) 6 0 = some (va_rf v1) ∧ (∃ b4 : Nat, (v1 = some b4 ∧ ∃ fs, μ b4 = some (.inr (2, fs))) ∧ wJx4a65c_size_8abf5 z b4  μ (fun v2 μ3 => ∀ q5 : Nat, μ3 q5 = none → (wX6_init z q5 v2 x2 x3 (va_up μ3 q5 (some (.inr (9, jfX6)))) (fun _ μ7 => ∀ q8 : Nat, μ7 q8 = none → (wX0_init z q8 v2 none (some q5) x1 (va_up μ7 q8 (some (.inr (3, jfX0)))) (fun _ μ10 => ∃ v11 : Option Nat, jg μ10 (some b) 6 1 = some (va_rf v11) ∧ (∃ b14 : Nat, (v11 = some b14 ∧ ∃ fs, μ10 b14 = some (.inr (2, fs))) ∧ wJx4a65c_add_9ea2d z b14 (some q8) μ10 (fun v12 μ13 => (∃ fs, μ13 b = some (.inr (6, fs))) ∧ wX3_enter z b (some q8) μ13 (fun _ μ16 => Q v2 μ16)))))))))
def wX3_openPool (z : Nat × Nat) (b : Nat) (x1 : Option Nat) (x2 : Int32) (x3 : Int32) (μ : jM) (Q : Int32 → jM → Prop) : Prop := wX3_openPool_0 z b Q x1 x2 x3 μ
/-! X9_addPool: addPool (III)I -/
abbrev rmX9_addPool : Room := { frames := 9, cells := 22, slots := 246, locals := 288 }
def wX9_addPool_0 (z : Nat × Nat) (b : Nat) (Q : Int32 → jM → Prop) (X : String → jM → Prop) (x1 : Int32) (x2 : Int32) (x3 : Int32) (μ : jM) : Prop :=
  (∃ fs, μ b = some (.inr (11, fs))) ∧ wX9_bankAt z b x1 μ (fun v1 μ2 => wX9_requireWithin z x2 (0 : Int32) (1000 : Int32) μ2 (fun _ μ4 => wX9_requireWithin z x3 (0 : Int32) (1000 : Int32) μ4 (fun _ μ6 => (∃ fs, μ6 b = some (.inr (11, fs))) ∧ wX9_requireAccountLeft z b  μ6 (fun _ μ8 => ∃ v9 : Option Nat, jg μ8 (some b) 11 0 = some (va_rf v9) ∧ (∃ b12 : Nat, (v9 = some b12 ∧ ∃ fs, μ8 b12 = some (.inr (6, fs))) ∧ wX3_openPool z b12 v1 x2 x3 μ8 (fun v10 μ11 => Q v10 μ11))) X) X) X) X
def wX9_addPool (z : Nat × Nat) (b : Nat) (x1 : Int32) (x2 : Int32) (x3 : Int32) (μ : jM) (Q : Int32 → jM → Prop) (X : String → jM → Prop) : Prop := wX9_addPool_0 z b Q X x1 x2 x3 μ
/-! L_addPool: addPool (LCashPools;III[J)I -/
abbrev rmL_addPool : Room := { frames := 10, cells := 22, slots := 246, locals := 312 }
def wL_addPool_0 (z : Nat × Nat) (Q : Int32 → jM → Prop) (x0 : Option Nat) (x1 : Int32) (x2 : Int32) (x3 : Int32) (x4 : Option Nat) (μ : jM) : Prop :=
  ∃ b3 : Nat, (x0 = some b3 ∧ ∃ fs, μ b3 = some (.inr (11, fs))) ∧ wX9_addPool z b3 x1 x2 x3 μ (fun v1 μ2 => ∃ μ4 : jM, jsj μ2 x4 (0 : Int32) (Int32.toInt64 v1) = some μ4 ∧ (Q (0 : Int32) μ4)) (fun E μE => (E = "java/lang/IllegalArgumentException" → (Q (1 : Int32) μE)) ∧ (E = "java/lang/IllegalStateException" → (Q (2 : Int32) μE)) ∧ (E = "java/lang/IllegalArgumentException" ∨ E = "java/lang/IllegalStateException"))
def wL_addPool (z : Nat × Nat) (x0 : Option Nat) (x1 : Int32) (x2 : Int32) (x3 : Int32) (x4 : Option Nat) (μ : jM) (Q : Int32 → jM → Prop) : Prop := wL_addPool_0 z Q x0 x1 x2 x3 x4 μ
/-! X9_accountAt: accountAt (I)LCashPools$Account; -/
abbrev rmX9_accountAt : Room := { frames := 6, cells := 1, slots := 6, locals := 92 }
def wX9_accountAt_0 (z : Nat × Nat) (b : Nat) (Q : Option Nat → jM → Prop) (X : String → jM → Prop) (x1 : Int32) (μ : jM) : Prop :=
  ((x1 < 0) → (X "java/lang/IndexOutOfBoundsException" μ)) ∧ (¬ (x1 < 0) → (∃ v1 : Option Nat, jg μ (some b) 11 0 = some (va_rf v1) ∧ (∃ v2 : Option Nat, jg μ v1 6 0 = some (va_rf v2) ∧ (∃ b5 : Nat, (v2 = some b5 ∧ ∃ fs, μ b5 = some (.inr (2, fs))) ∧ wJx4a65c_size_8abf5 z b5  μ (fun v3 μ4 => ((x1 < v3) → (∃ v6 : Option Nat, jg μ4 (some b) 11 0 = some (va_rf v6) ∧ (∃ v7 : Option Nat, jg μ4 v6 6 0 = some (va_rf v7) ∧ (∃ b10 : Nat, (v7 = some b10 ∧ ∃ fs, μ4 b10 = some (.inr (2, fs))) ∧ wJx4a65c_get_915e3 z b10 x1 μ4 (fun v8 μ9 => jc μ9 v8 3 ∧ (Q v8 μ9)))))) ∧ (¬ (x1 < v3) → (X "java/lang/IndexOutOfBoundsException" μ4)))))))
def wX9_accountAt (z : Nat × Nat) (b : Nat) (x1 : Int32) (μ : jM) (Q : Option Nat → jM → Prop) (X : String → jM → Prop) : Prop := wX9_accountAt_0 z b Q X x1 μ
/-! X3_openAccount: openAccount (LCashPools$Account;LCashPools$Bank;)I -/
abbrev rmX3_openAccount : Room := { frames := 8, cells := 5, slots := 111, locals := 262 }
def wX3_openAccount_0 (z : Nat × Nat) (b : Nat) (Q : Int32 → jM → Prop) (x1 : Option Nat) (x2 : Option Nat) (μ : jM) : Prop :=
  ∃ v1 : Option Nat, jg μ (some b) 6 0 = some (va_rf v1) ∧ (∃ b4 : Nat, (v1 = some b4 ∧ ∃ fs, μ b4 = some (.inr (2, fs))) ∧ wJx4a65c_size_8abf5 z b4  μ (fun v2 μ3 => ∀ q5 : Nat, μ3 q5 = none → (∃ v6 : Option Nat, jg (va_up μ3 q5 (some (.inr (3, jfX0)))) x1 3 2 = some (va_rf v6) ∧ (wX0_init z q5 v2 x1 v6 x2 (va_up μ3 q5 (some (.inr (3, jfX0)))) (fun _ μ8 => ∃ v9 : Option Nat, jg μ8 x1 3 4 = some (va_rf v9) ∧ (∃ b12 : Nat, (v9 = some b12 ∧ ∃ fs, μ8 b12 = some (.inr (2, fs))) ∧ wJx4a65c_add_9ea2d z b12 (some q5) μ8 (fun v10 μ11 => (∃ fs, μ11 b = some (.inr (6, fs))) ∧ wX3_enter z b (some q5) μ11 (fun _ μ14 => Q v2 μ14))))))))
def wX3_openAccount (z : Nat × Nat) (b : Nat) (x1 : Option Nat) (x2 : Option Nat) (μ : jM) (Q : Int32 → jM → Prop) : Prop := wX3_openAccount_0 z b Q x1 x2 μ
/-! X9_addAccount: addAccount (II)I -/
abbrev rmX9_addAccount : Room := { frames := 9, cells := 8, slots := 129, locals := 286 }
def wX9_addAccount_0 (z : Nat × Nat) (b : Nat) (Q : Int32 → jM → Prop) (X : String → jM → Prop) (x1 : Int32) (x2 : Int32) (μ : jM) : Prop :=
  (∃ fs, μ b = some (.inr (11, fs))) ∧ wX9_accountAt z b x1 μ (fun v1 μ2 => (∃ fs, μ2 b = some (.inr (11, fs))) ∧ wX9_bankAt z b x2 μ2 (fun v3 μ4 => (∃ fs, μ4 b = some (.inr (11, fs))) ∧ wX9_requireAccountLeft z b  μ4 (fun _ μ6 => ∃ v7 : Option Nat, jg μ6 (some b) 11 0 = some (va_rf v7) ∧ (∃ b10 : Nat, (v7 = some b10 ∧ ∃ fs, μ6 b10 = some (.inr (6, fs))) ∧ wX3_openAccount z b10 v1 v3 μ6 (fun v8 μ9 => Q v8 μ9))) X) X) X
def wX9_addAccount (z : Nat × Nat) (b : Nat) (x1 : Int32) (x2 : Int32) (μ : jM) (Q : Int32 → jM → Prop) (X : String → jM → Prop) : Prop := wX9_addAccount_0 z b Q X x1 x2 μ
/-! L_addAccount: addAccount (LCashPools;II[J)I -/
abbrev rmL_addAccount : Room := { frames := 10, cells := 8, slots := 129, locals := 310 }
def wL_addAccount_0 (z : Nat × Nat) (Q : Int32 → jM → Prop) (x0 : Option Nat) (x1 : Int32) (x2 : Int32) (x3 : Option Nat) (μ : jM) : Prop :=
  ∃ b3 : Nat, (x0 = some b3 ∧ ∃ fs, μ b3 = some (.inr (11, fs))) ∧ wX9_addAccount z b3 x1 x2 μ (fun v1 μ2 => ∃ μ4 : jM, jsj μ2 x3 (0 : Int32) (Int32.toInt64 v1) = some μ4 ∧ (Q (0 : Int32) μ4)) (fun E μE => (E = "java/lang/IndexOutOfBoundsException" → (Q (1 : Int32) μE)) ∧ (E = "java/lang/IllegalArgumentException" → (Q (2 : Int32) μE)) ∧ (E = "java/lang/IllegalStateException" → (Q (3 : Int32) μE)) ∧ (E = "java/lang/IndexOutOfBoundsException" ∨ E = "java/lang/IllegalArgumentException" ∨ E = "java/lang/IllegalStateException"))
def wL_addAccount (z : Nat × Nat) (x0 : Option Nat) (x1 : Int32) (x2 : Int32) (x3 : Option Nat) (μ : jM) (Q : Int32 → jM → Prop) : Prop := wL_addAccount_0 z Q x0 x1 x2 x3 μ
/-! X9_setRule: setRule (III)I -/
abbrev rmX9_setRule : Room := { frames := 7, cells := 4, slots := 24, locals := 114 }
def wX9_setRule_0 (z : Nat × Nat) (b : Nat) (Q : Int32 → jM → Prop) (X : String → jM → Prop) (x1 : Int32) (x2 : Int32) (x3 : Int32) (μ : jM) : Prop :=
  (∃ fs, μ b = some (.inr (11, fs))) ∧ wX9_accountAt z b x1 μ (fun v1 μ2 => wX9_requireWithin z x2 (0 : Int32) (3 : Int32) μ2 (fun _ μ4 => wX9_requireWithin z x3 (-1000000 : Int32) (1000000 : Int32) μ4 (fun _ μ6 => ∃ v7 : Option Nat, jg μ6 v1 3 1 = some (va_rf v7) ∧ (((¬ v7 = none) → (∃ v8 : Int32, jg μ6 v1 3 5 = some (.int v8) ∧ (∃ μ9 : jM, jp μ6 v1 3 5 (.int x2) = some μ9 ∧ (∃ μ10 : jM, jp μ9 v1 3 6 (.int x3) = some μ10 ∧ (Q v8 μ10))))) ∧ (v7 = none → (X "java/lang/IllegalStateException" μ6)))) X) X) X
def wX9_setRule (z : Nat × Nat) (b : Nat) (x1 : Int32) (x2 : Int32) (x3 : Int32) (μ : jM) (Q : Int32 → jM → Prop) (X : String → jM → Prop) : Prop := wX9_setRule_0 z b Q X x1 x2 x3 μ
/-! L_setRule: setRule (LCashPools;III[J)I -/
abbrev rmL_setRule : Room := { frames := 8, cells := 4, slots := 24, locals := 139 }
def wL_setRule_0 (z : Nat × Nat) (Q : Int32 → jM → Prop) (x0 : Option Nat) (x1 : Int32) (x2 : Int32) (x3 : Int32) (x4 : Option Nat) (μ : jM) : Prop :=
  ∃ b3 : Nat, (x0 = some b3 ∧ ∃ fs, μ b3 = some (.inr (11, fs))) ∧ wX9_setRule z b3 x1 x2 x3 μ (fun v1 μ2 => ∃ μ4 : jM, jsj μ2 x4 (0 : Int32) (Int32.toInt64 v1) = some μ4 ∧ (Q (0 : Int32) μ4)) (fun E μE => (E = "java/lang/IndexOutOfBoundsException" → (Q (1 : Int32) μE)) ∧ (E = "java/lang/IllegalArgumentException" → (Q (2 : Int32) μE)) ∧ (E = "java/lang/IllegalStateException" → (Q (3 : Int32) μE)) ∧ (E = "java/lang/IndexOutOfBoundsException" ∨ E = "java/lang/IllegalArgumentException" ∨ E = "java/lang/IllegalStateException"))
def wL_setRule (z : Nat × Nat) (x0 : Option Nat) (x1 : Int32) (x2 : Int32) (x3 : Int32) (x4 : Option Nat) (μ : jM) (Q : Int32 → jM → Prop) : Prop := wL_setRule_0 z Q x0 x1 x2 x3 x4 μ
/-! X9_setFloor: setFloor (II)I -/
abbrev rmX9_setFloor : Room := { frames := 7, cells := 2, slots := 12, locals := 114 }
def wX9_setFloor_0 (z : Nat × Nat) (b : Nat) (Q : Int32 → jM → Prop) (X : String → jM → Prop) (x1 : Int32) (x2 : Int32) (μ : jM) : Prop :=
  (∃ fs, μ b = some (.inr (11, fs))) ∧ wX9_accountAt z b x1 μ (fun v1 μ2 => wX9_requireWithin z x2 (-1000000 : Int32) (1000000 : Int32) μ2 (fun _ μ4 => ∃ v5 : Int32, jg μ4 v1 3 7 = some (.int v5) ∧ (∃ μ6 : jM, jp μ4 v1 3 7 (.int x2) = some μ6 ∧ (Q v5 μ6))) X) X
def wX9_setFloor (z : Nat × Nat) (b : Nat) (x1 : Int32) (x2 : Int32) (μ : jM) (Q : Int32 → jM → Prop) (X : String → jM → Prop) : Prop := wX9_setFloor_0 z b Q X x1 x2 μ
/-! L_setFloor: setFloor (LCashPools;II[J)I -/
abbrev rmL_setFloor : Room := { frames := 8, cells := 2, slots := 12, locals := 138 }
def wL_setFloor_0 (z : Nat × Nat) (Q : Int32 → jM → Prop) (x0 : Option Nat) (x1 : Int32) (x2 : Int32) (x3 : Option Nat) (μ : jM) : Prop :=
  ∃ b3 : Nat, (x0 = some b3 ∧ ∃ fs, μ b3 = some (.inr (11, fs))) ∧ wX9_setFloor z b3 x1 x2 μ (fun v1 μ2 => ∃ μ4 : jM, jsj μ2 x3 (0 : Int32) (Int32.toInt64 v1) = some μ4 ∧ (Q (0 : Int32) μ4)) (fun E μE => (E = "java/lang/IndexOutOfBoundsException" → (Q (1 : Int32) μE)) ∧ (E = "java/lang/IllegalArgumentException" → (Q (2 : Int32) μE)) ∧ (E = "java/lang/IndexOutOfBoundsException" ∨ E = "java/lang/IllegalArgumentException"))
def wL_setFloor (z : Nat × Nat) (x0 : Option Nat) (x1 : Int32) (x2 : Int32) (x3 : Option Nat) (μ : jM) (Q : Int32 → jM → Prop) : Prop := wL_setFloor_0 z Q x0 x1 x2 x3 μ
/-! X9_requireTop: requireTop (LCashPools$Account;)V -/
abbrev rmX9_requireTop : Room := { frames := 6, cells := 1, slots := 6, locals := 92 }
def wX9_requireTop_0 (z : Nat × Nat) (Q : Unit → jM → Prop) (X : String → jM → Prop) (x0 : Option Nat) (μ : jM) : Prop :=
  ∃ v1 : Option Nat, jg μ x0 3 1 = some (va_rf v1) ∧ (((v1 = none) → (Q () μ)) ∧ (¬ (v1 = none) → (X "java/lang/IllegalStateException" μ)))
def wX9_requireTop (z : Nat × Nat) (x0 : Option Nat) (μ : jM) (Q : Unit → jM → Prop) (X : String → jM → Prop) : Prop := wX9_requireTop_0 z Q X x0 μ
/-! X5_init: <init> (LCashPools$Account;II)V -/
abbrev rmX5_init : Room := { frames := 1, cells := 0, slots := 0, locals := 110 }
def wX5_init_0 (z : Nat × Nat) (b : Nat) (Q : Unit → jM → Prop) (x1 : Option Nat) (x2 : Int32) (x3 : Int32) (μ : jM) : Prop :=
  ∃ μ1 : jM, jp μ (some b) 8 0 (va_rf x1) = some μ1 ∧ (∃ μ2 : jM, jp μ1 (some b) 8 1 (.int x2) = some μ2 ∧ (∃ μ3 : jM, jp μ2 (some b) 8 2 (.int x3) = some μ3 ∧ (Q () μ3)))
def wX5_init (z : Nat × Nat) (b : Nat) (x1 : Option Nat) (x2 : Int32) (x3 : Int32) (μ : jM) (Q : Unit → jM → Prop) : Prop := wX5_init_0 z b Q x1 x2 x3 μ
/-! Jx4a65c_rangeCheckForAdd_d00df: rangeCheckForAdd (I)V -/
abbrev rmJx4a65c_rangeCheckForAdd_d00df : Room := { frames := 0, cells := 0, slots := 0, locals := 0 }
def wJx4a65c_rangeCheckForAdd_d00df_0 (z : Nat × Nat) (b : Nat) (Q : Unit → jM → Prop) (x1 : Int32) (μ : jM) : Prop :=
  ∃ v1 : Int32, jg μ (some b) 2 2 = some (.int v1) ∧ (((v1 < x1) → (False)) ∧ (¬ (v1 < x1) → (((0 ≤ x1) → (Q () μ)) ∧ (¬ (0 ≤ x1) → (False)))))
def wJx4a65c_rangeCheckForAdd_d00df (z : Nat × Nat) (b : Nat) (x1 : Int32) (μ : jM) (Q : Unit → jM → Prop) : Prop := wJx4a65c_rangeCheckForAdd_d00df_0 z b Q x1 μ
/-! Jx4a65c_add_7a177: add (ILjava/lang/Object;)V -/
abbrev rmJx4a65c_add_7a177 : Room := { frames := 5, cells := 1, slots := 32, locals := 197 }
def wJx4a65c_add_7a177_38 (z : Nat × Nat) (b : Nat) (Q : Unit → jM → Prop) (x1 : Int32) (x2 : Option Nat) (x3 : Int32) (x4 : Option Nat) (μ : jM) : Prop :=
  ∃ μ1 : jM, jcpq μ x4 x1 x4 (x1 + (1 : Int32)) (x3 - x1) μ1 ∧ ((∃ v ci fs, x2 = some v ∧ μ1 v = some (.inr (ci, fs))) ∧ ∃ μ2 : jM, jsq μ1 x4 x1 x2 = some μ2 ∧ (∃ μ3 : jM, jp μ2 (some b) 2 2 (.int (x3 + (1 : Int32))) = some μ3 ∧ (Q () μ3)))
def wJx4a65c_add_7a177_0 (z : Nat × Nat) (b : Nat) (Q : Unit → jM → Prop) (x1 : Int32) (x2 : Option Nat) (μ : jM) : Prop :=
  (∃ fs, μ b = some (.inr (2, fs))) ∧ wJx4a65c_rangeCheckForAdd_d00df z b x1 μ (fun _ μ2 => ∃ v3 : Int32, jg μ2 (some b) 2 0 = some (.int v3) ∧ (∃ μ4 : jM, jp μ2 (some b) 2 0 (.int (v3 + (1 : Int32))) = some μ4 ∧ (∃ v5 : Int32, jg μ4 (some b) 2 2 = some (.int v5) ∧ (∃ v6 : Option Nat, jg μ4 (some b) 2 1 = some (va_rf v6) ∧ (∃ v7 : Nat, jal μ4 v6 = some v7 ∧ (((¬ v5 = (Int32.ofNat v7)) → (wJx4a65c_add_7a177_38 z b Q x1 x2 v5 v6 μ4)) ∧ (v5 = (Int32.ofNat v7) → ((∃ fs, μ4 b = some (.inr (2, fs))) ∧ wJx4a65c_grow_d5877 z b  μ4 (fun v8 μ9 => wJx4a65c_add_7a177_38 z b Q x1 x2 v5 v8 μ9)))))))))
def wJx4a65c_add_7a177 (z : Nat × Nat) (b : Nat) (x1 : Int32) (x2 : Option Nat) (μ : jM) (Q : Unit → jM → Prop) : Prop := wJx4a65c_add_7a177_0 z b Q x1 x2 μ
/-! X6_rank: rank (LCashPools$Line;)V -/
abbrev rmX6_rank : Room := { frames := 6, cells := 1, slots := 32, locals := 221 }
def wX6_rank_40 (z : Nat × Nat) (b : Nat) (Q : Unit → jM → Prop) (x1 : Option Nat) (x2 : Int32) (μ : jM) : Prop :=
  ∃ v1 : Option Nat, jg μ (some b) 9 4 = some (va_rf v1) ∧ (∃ b4 : Nat, (v1 = some b4 ∧ ∃ fs, μ b4 = some (.inr (2, fs))) ∧ wJx4a65c_add_7a177 z b4 x2 x1 μ (fun _ μ3 => Q () μ3))
def wX6_rank_2_b (z : Nat × Nat) (b : Nat) (Q : Unit → jM → Prop) (ih : Option Nat → Int32 → jM → Prop) (x1 : Option Nat) (x2 : Int32) (μ : jM) : Prop :=
  ∃ v1 : Option Nat, jg μ (some b) 9 4 = some (va_rf v1) ∧ (∃ b4 : Nat, (v1 = some b4 ∧ ∃ fs, μ b4 = some (.inr (2, fs))) ∧ wJx4a65c_size_8abf5 z b4  μ (fun v2 μ3 => ((v2 ≤ x2) → (wX6_rank_40 z b Q x1 x2 μ3)) ∧ (¬ (v2 ≤ x2) → (∃ v5 : Option Nat, jg μ3 (some b) 9 4 = some (va_rf v5) ∧ (∃ b8 : Nat, (v5 = some b8 ∧ ∃ fs, μ3 b8 = some (.inr (2, fs))) ∧ wJx4a65c_get_915e3 z b8 x2 μ3 (fun v6 μ7 => jc μ7 v6 8 ∧ (∃ v10 : Int32, jg μ7 v6 8 2 = some (.int v10) ∧ (∃ v11 : Int32, jg μ7 x1 8 2 = some (.int v11) ∧ (((v11 < v10) → (wX6_rank_40 z b Q x1 x2 μ7)) ∧ (¬ (v11 < v10) → (∀ v12 : Int32, v12 = x2 + (1 : Int32) → (ih x1 v12 μ7))))))))))))
def wX6_rank_2 (z : Nat × Nat) (b : Nat) (Q : Unit → jM → Prop) (n : Nat) : Option Nat → Int32 → jM → Prop := Nat.rec (motive := fun _ => Option Nat → Int32 → jM → Prop) (fun _ _ _ => False) (fun _ ih => wX6_rank_2_b z b Q ih) n
def wX6_rank_0 (z : Nat × Nat) (b : Nat) (Q : Unit → jM → Prop) (x1 : Option Nat) (μ : jM) : Prop :=
  ∀ v1 : Int32, v1 = (0 : Int32) → (∃ n2 : Nat, wX6_rank_2 z b Q n2 x1 v1 μ)
def wX6_rank (z : Nat × Nat) (b : Nat) (x1 : Option Nat) (μ : jM) (Q : Unit → jM → Prop) : Prop := wX6_rank_0 z b Q x1 μ
/-! X3_openLine: openLine (LCashPools$Account;II)I -/
abbrev rmX3_openLine : Room := { frames := 7, cells := 3, slots := 73, locals := 243 }
def wX3_openLine_0 (z : Nat × Nat) (b : Nat) (Q : Int32 → jM → Prop) (x1 : Option Nat) (x2 : Int32) (x3 : Int32) (μ : jM) : Prop :=
  ∀ q1 : Nat, μ q1 = none → (wX5_init z q1 x1 x2 x3 (va_up μ q1 (some (.inr (8, jfX5)))) (fun _ μ3 => ∃ v4 : Option Nat, jg μ3 (some b) 6 2 = some (va_rf v4) ∧ (∃ b7 : Nat, (v4 = some b7 ∧ ∃ fs, μ3 b7 = some (.inr (2, fs))) ∧ wJx4a65c_add_9ea2d z b7 (some q1) μ3 (fun v5 μ6 => ∃ v8 : Option Nat, jg μ6 x1 3 2 = some (va_rf v8) ∧ (∃ b11 : Nat, (v8 = some b11 ∧ ∃ fs, μ6 b11 = some (.inr (9, fs))) ∧ wX6_rank z b11 (some q1) μ6 (fun _ μ10 => ∃ v12 : Option Nat, jg μ10 (some b) 6 2 = some (va_rf v12) ∧ (∃ b15 : Nat, (v12 = some b15 ∧ ∃ fs, μ10 b15 = some (.inr (2, fs))) ∧ wJx4a65c_size_8abf5 z b15  μ10 (fun v13 μ14 => Q (v13 - (1 : Int32)) μ14))))))))
def wX3_openLine (z : Nat × Nat) (b : Nat) (x1 : Option Nat) (x2 : Int32) (x3 : Int32) (μ : jM) (Q : Int32 → jM → Prop) : Prop := wX3_openLine_0 z b Q x1 x2 x3 μ
/-! X9_addLine: addLine (III)I -/
abbrev rmX9_addLine : Room := { frames := 8, cells := 7, slots := 97, locals := 267 }
def wX9_addLine_0 (z : Nat × Nat) (b : Nat) (Q : Int32 → jM → Prop) (X : String → jM → Prop) (x1 : Int32) (x2 : Int32) (x3 : Int32) (μ : jM) : Prop :=
  (∃ fs, μ b = some (.inr (11, fs))) ∧ wX9_accountAt z b x1 μ (fun v1 μ2 => wX9_requireWithin z x2 (1 : Int32) (10000000 : Int32) μ2 (fun _ μ4 => wX9_requireWithin z x3 (0 : Int32) (1000 : Int32) μ4 (fun _ μ6 => wX9_requireTop z v1 μ6 (fun _ μ8 => ∃ v9 : Option Nat, jg μ8 (some b) 11 0 = some (va_rf v9) ∧ (∃ v10 : Option Nat, jg μ8 v9 6 2 = some (va_rf v10) ∧ (∃ b13 : Nat, (v10 = some b13 ∧ ∃ fs, μ8 b13 = some (.inr (2, fs))) ∧ wJx4a65c_size_8abf5 z b13  μ8 (fun v11 μ12 => ((v11 < (6 : Int32)) → (∃ v14 : Option Nat, jg μ12 (some b) 11 0 = some (va_rf v14) ∧ (∃ b17 : Nat, (v14 = some b17 ∧ ∃ fs, μ12 b17 = some (.inr (6, fs))) ∧ wX3_openLine z b17 v1 x2 x3 μ12 (fun v15 μ16 => Q v15 μ16)))) ∧ (¬ (v11 < (6 : Int32)) → (X "java/lang/IllegalStateException" μ12)))))) X) X) X) X
def wX9_addLine (z : Nat × Nat) (b : Nat) (x1 : Int32) (x2 : Int32) (x3 : Int32) (μ : jM) (Q : Int32 → jM → Prop) (X : String → jM → Prop) : Prop := wX9_addLine_0 z b Q X x1 x2 x3 μ
/-! L_addLine: addLine (LCashPools;III[J)I -/
abbrev rmL_addLine : Room := { frames := 9, cells := 7, slots := 97, locals := 291 }
def wL_addLine_0 (z : Nat × Nat) (Q : Int32 → jM → Prop) (x0 : Option Nat) (x1 : Int32) (x2 : Int32) (x3 : Int32) (x4 : Option Nat) (μ : jM) : Prop :=
  ∃ b3 : Nat, (x0 = some b3 ∧ ∃ fs, μ b3 = some (.inr (11, fs))) ∧ wX9_addLine z b3 x1 x2 x3 μ (fun v1 μ2 => ∃ μ4 : jM, jsj μ2 x4 (0 : Int32) (Int32.toInt64 v1) = some μ4 ∧ (Q (0 : Int32) μ4)) (fun E μE => (E = "java/lang/IndexOutOfBoundsException" → (Q (1 : Int32) μE)) ∧ (E = "java/lang/IllegalArgumentException" → (Q (2 : Int32) μE)) ∧ (E = "java/lang/IllegalStateException" → (Q (3 : Int32) μE)) ∧ (E = "java/lang/IndexOutOfBoundsException" ∨ E = "java/lang/IllegalArgumentException" ∨ E = "java/lang/IllegalStateException"))
def wL_addLine (z : Nat × Nat) (x0 : Option Nat) (x1 : Int32) (x2 : Int32) (x3 : Int32) (x4 : Option Nat) (μ : jM) (Q : Int32 → jM → Prop) : Prop := wL_addLine_0 z Q x0 x1 x2 x3 x4 μ
/-! X9_setBankLimit: setBankLimit (II)I -/
abbrev rmX9_setBankLimit : Room := { frames := 7, cells := 2, slots := 12, locals := 114 }
def wX9_setBankLimit_0 (z : Nat × Nat) (b : Nat) (Q : Int32 → jM → Prop) (X : String → jM → Prop) (x1 : Int32) (x2 : Int32) (μ : jM) : Prop :=
  (∃ fs, μ b = some (.inr (11, fs))) ∧ wX9_bankAt z b x1 μ (fun v1 μ2 => wX9_requireWithin z x2 (-1 : Int32) (1000000000 : Int32) μ2 (fun _ μ4 => ∃ v5 : Int32, jg μ4 v1 4 1 = some (.int v5) ∧ (∃ μ6 : jM, jp μ4 v1 4 1 (.int x2) = some μ6 ∧ (Q v5 μ6))) X) X
def wX9_setBankLimit (z : Nat × Nat) (b : Nat) (x1 : Int32) (x2 : Int32) (μ : jM) (Q : Int32 → jM → Prop) (X : String → jM → Prop) : Prop := wX9_setBankLimit_0 z b Q X x1 x2 μ
/-! L_setBankLimit: setBankLimit (LCashPools;II[J)I -/
abbrev rmL_setBankLimit : Room := { frames := 8, cells := 2, slots := 12, locals := 138 }
def wL_setBankLimit_0 (z : Nat × Nat) (Q : Int32 → jM → Prop) (x0 : Option Nat) (x1 : Int32) (x2 : Int32) (x3 : Option Nat) (μ : jM) : Prop :=
  ∃ b3 : Nat, (x0 = some b3 ∧ ∃ fs, μ b3 = some (.inr (11, fs))) ∧ wX9_setBankLimit z b3 x1 x2 μ (fun v1 μ2 => ∃ μ4 : jM, jsj μ2 x3 (0 : Int32) (Int32.toInt64 v1) = some μ4 ∧ (Q (0 : Int32) μ4)) (fun E μE => (E = "java/lang/IllegalArgumentException" → (Q (1 : Int32) μE)) ∧ (E = "java/lang/IllegalArgumentException"))
def wL_setBankLimit (z : Nat × Nat) (x0 : Option Nat) (x1 : Int32) (x2 : Int32) (x3 : Option Nat) (μ : jM) (Q : Int32 → jM → Prop) : Prop := wL_setBankLimit_0 z Q x0 x1 x2 x3 μ
/-! X2_markHoliday: markHoliday (I)V -/
abbrev rmX2_markHoliday : Room := { frames := 0, cells := 0, slots := 0, locals := 0 }
def wX2_markHoliday_0 (z : Nat × Nat) (b : Nat) (Q : Unit → jM → Prop) (x1 : Int32) (μ : jM) : Prop :=
  ((x1 < 0) → (Q () μ)) ∧ (¬ (x1 < 0) → (∃ v1 : Option Nat, jg μ (some b) 5 0 = some (va_rf v1) ∧ (∃ v2 : Nat, jal μ v1 = some v2 ∧ ((((Int32.ofNat v2) ≤ x1) → (Q () μ)) ∧ (¬ ((Int32.ofNat v2) ≤ x1) → (∃ v3 : Option Nat, jg μ (some b) 5 0 = some (va_rf v3) ∧ (∃ μ4 : jM, jsi 2 μ v3 x1 (vp_nar .boolean (1 : Int32)) = some μ4 ∧ (Q () μ4))))))))
def wX2_markHoliday (z : Nat × Nat) (b : Nat) (x1 : Int32) (μ : jM) (Q : Unit → jM → Prop) : Prop := wX2_markHoliday_0 z b Q x1 μ
/-! X2_settles: settles (I)Z -/
abbrev rmX2_settles : Room := { frames := 0, cells := 0, slots := 0, locals := 0 }
def wX2_settles_27 (z : Nat × Nat) (b : Nat) (Q : Int32 → jM → Prop) (x1 : Int32) (t0 : Int32) (μ : jM) : Prop :=
  (((5 : Int32) ≤ (x1 - x1 / (7 : Int32) * (7 : Int32))) → (Q (0 : Int32) μ)) ∧ (¬ ((5 : Int32) ≤ (x1 - x1 / (7 : Int32) * (7 : Int32))) → (((¬ t0 = 0) → (Q (0 : Int32) μ)) ∧ (t0 = 0 → (Q (1 : Int32) μ))))
def wX2_settles_26 (z : Nat × Nat) (b : Nat) (Q : Int32 → jM → Prop) (x1 : Int32) (μ : jM) : Prop :=
  wX2_settles_27 z b Q x1 (0 : Int32) μ
def wX2_settles_0 (z : Nat × Nat) (b : Nat) (Q : Int32 → jM → Prop) (x1 : Int32) (μ : jM) : Prop :=
  ((x1 < 0) → (wX2_settles_26 z b Q x1 μ)) ∧ (¬ (x1 < 0) → (∃ v1 : Option Nat, jg μ (some b) 5 0 = some (va_rf v1) ∧ (∃ v2 : Nat, jal μ v1 = some v2 ∧ ((((Int32.ofNat v2) ≤ x1) → (wX2_settles_26 z b Q x1 μ)) ∧ (¬ ((Int32.ofNat v2) ≤ x1) → (∃ v3 : Option Nat, jg μ (some b) 5 0 = some (va_rf v3) ∧ (∃ v4 : Int32, jai 2 μ v3 x1 = some v4 ∧ (((v4 = 0) → (wX2_settles_26 z b Q x1 μ)) ∧ (¬ (v4 = 0) → (wX2_settles_27 z b Q x1 (1 : Int32) μ))))))))))
def wX2_settles (z : Nat × Nat) (b : Nat) (x1 : Int32) (μ : jM) (Q : Int32 → jM → Prop) : Prop := wX2_settles_0 z b Q x1 μ
/-! X2_countSettling: countSettling ()I -/
abbrev rmX2_countSettling : Room := { frames := 1, cells := 0, slots := 0, locals := 22 }
def wX2_countSettling_4_b (z : Nat × Nat) (b : Nat) (Q : Int32 → jM → Prop) (ih : Int32 → Int32 → jM → Prop) (x1 : Int32) (x2 : Int32) (μ : jM) : Prop :=
  (((450 : Int32) < x2) → (Q x1 μ)) ∧ (¬ ((450 : Int32) < x2) → ((∃ fs, μ b = some (.inr (5, fs))) ∧ wX2_settles z b x2 μ (fun v1 μ2 => ((v1 = 0) → (∀ v3 : Int32, v3 = x2 + (1 : Int32) → (ih x1 v3 μ2))) ∧ (¬ (v1 = 0) → (∀ v4 : Int32, v4 = x1 + (1 : Int32) → (∀ v5 : Int32, v5 = x2 + (1 : Int32) → (ih v4 v5 μ2)))))))
def wX2_countSettling_4 (z : Nat × Nat) (b : Nat) (Q : Int32 → jM → Prop) (n : Nat) : Int32 → Int32 → jM → Prop := Nat.rec (motive := fun _ => Int32 → Int32 → jM → Prop) (fun _ _ _ => False) (fun _ ih => wX2_countSettling_4_b z b Q ih) n
def wX2_countSettling_0 (z : Nat × Nat) (b : Nat) (Q : Int32 → jM → Prop)  (μ : jM) : Prop :=
  ∀ v1 : Int32, v1 = (0 : Int32) → (∀ v2 : Int32, v2 = (0 : Int32) → (∃ n3 : Nat, wX2_countSettling_4 z b Q n3 v1 v2 μ))
def wX2_countSettling (z : Nat × Nat) (b : Nat)  (μ : jM) (Q : Int32 → jM → Prop) : Prop := wX2_countSettling_0 z b Q  μ
/-! X9_addHoliday: addHoliday (I)I -/
abbrev rmX9_addHoliday : Room := { frames := 7, cells := 1, slots := 6, locals := 114 }
def wX9_addHoliday_0 (z : Nat × Nat) (b : Nat) (Q : Int32 → jM → Prop) (X : String → jM → Prop) (x1 : Int32) (μ : jM) : Prop :=
  wX9_requireWithin z x1 (0 : Int32) (450 : Int32) μ (fun _ μ2 => ∃ v3 : Option Nat, jg μ2 (some b) 11 0 = some (va_rf v3) ∧ (∃ v4 : Option Nat, jg μ2 v3 6 5 = some (va_rf v4) ∧ (∃ b7 : Nat, (v4 = some b7 ∧ ∃ fs, μ2 b7 = some (.inr (5, fs))) ∧ wX2_markHoliday z b7 x1 μ2 (fun _ μ6 => ∃ v8 : Option Nat, jg μ6 (some b) 11 0 = some (va_rf v8) ∧ (∃ v9 : Option Nat, jg μ6 v8 6 5 = some (va_rf v9) ∧ (∃ b12 : Nat, (v9 = some b12 ∧ ∃ fs, μ6 b12 = some (.inr (5, fs))) ∧ wX2_countSettling z b12  μ6 (fun v10 μ11 => Q v10 μ11))))))) X
def wX9_addHoliday (z : Nat × Nat) (b : Nat) (x1 : Int32) (μ : jM) (Q : Int32 → jM → Prop) (X : String → jM → Prop) : Prop := wX9_addHoliday_0 z b Q X x1 μ
/-! L_addHoliday: addHoliday (LCashPools;I[J)I -/
abbrev rmL_addHoliday : Room := { frames := 8, cells := 1, slots := 6, locals := 135 }
def wL_addHoliday_0 (z : Nat × Nat) (Q : Int32 → jM → Prop) (x0 : Option Nat) (x1 : Int32) (x2 : Option Nat) (μ : jM) : Prop :=
  ∃ b3 : Nat, (x0 = some b3 ∧ ∃ fs, μ b3 = some (.inr (11, fs))) ∧ wX9_addHoliday z b3 x1 μ (fun v1 μ2 => ∃ μ4 : jM, jsj μ2 x2 (0 : Int32) (Int32.toInt64 v1) = some μ4 ∧ (Q (0 : Int32) μ4)) (fun E μE => (E = "java/lang/IllegalArgumentException" → (Q (1 : Int32) μE)) ∧ (E = "java/lang/IllegalArgumentException"))
def wL_addHoliday (z : Nat × Nat) (x0 : Option Nat) (x1 : Int32) (x2 : Option Nat) (μ : jM) (Q : Int32 → jM → Prop) : Prop := wL_addHoliday_0 z Q x0 x1 x2 μ
/-! X2_firstSettlingFrom: firstSettlingFrom (I)I -/
abbrev rmX2_firstSettlingFrom : Room := { frames := 1, cells := 0, slots := 0, locals := 22 }
def wX2_firstSettlingFrom_2_b (z : Nat × Nat) (b : Nat) (Q : Int32 → jM → Prop) (ih : Int32 → jM → Prop) (x2 : Int32) (μ : jM) : Prop :=
  (((450 : Int32) < x2) → (Q (-1 : Int32) μ)) ∧ (¬ ((450 : Int32) < x2) → ((∃ fs, μ b = some (.inr (5, fs))) ∧ wX2_settles z b x2 μ (fun v1 μ2 => ((v1 = 0) → (∀ v3 : Int32, v3 = x2 + (1 : Int32) → (ih v3 μ2))) ∧ (¬ (v1 = 0) → (Q x2 μ2)))))
def wX2_firstSettlingFrom_2 (z : Nat × Nat) (b : Nat) (Q : Int32 → jM → Prop) (n : Nat) : Int32 → jM → Prop := Nat.rec (motive := fun _ => Int32 → jM → Prop) (fun _ _ => False) (fun _ ih => wX2_firstSettlingFrom_2_b z b Q ih) n
def wX2_firstSettlingFrom_0 (z : Nat × Nat) (b : Nat) (Q : Int32 → jM → Prop) (x1 : Int32) (μ : jM) : Prop :=
  ∃ n1 : Nat, wX2_firstSettlingFrom_2 z b Q n1 x1 μ
def wX2_firstSettlingFrom (z : Nat × Nat) (b : Nat) (x1 : Int32) (μ : jM) (Q : Int32 → jM → Prop) : Prop := wX2_firstSettlingFrom_0 z b Q x1 μ
/-! X9_settlementDay: settlementDay (I)I -/
abbrev rmX9_settlementDay : Room := { frames := 7, cells := 1, slots := 6, locals := 114 }
def wX9_settlementDay_0 (z : Nat × Nat) (b : Nat) (Q : Int32 → jM → Prop) (X : String → jM → Prop) (x1 : Int32) (μ : jM) : Prop :=
  wX9_requireWithin z x1 (0 : Int32) (450 : Int32) μ (fun _ μ2 => ∃ v3 : Option Nat, jg μ2 (some b) 11 0 = some (va_rf v3) ∧ (∃ v4 : Option Nat, jg μ2 v3 6 5 = some (va_rf v4) ∧ (∃ b7 : Nat, (v4 = some b7 ∧ ∃ fs, μ2 b7 = some (.inr (5, fs))) ∧ wX2_firstSettlingFrom z b7 x1 μ2 (fun v5 μ6 => Q v5 μ6)))) X
def wX9_settlementDay (z : Nat × Nat) (b : Nat) (x1 : Int32) (μ : jM) (Q : Int32 → jM → Prop) (X : String → jM → Prop) : Prop := wX9_settlementDay_0 z b Q X x1 μ
/-! L_settlementDay: settlementDay (LCashPools;I[J)I -/
abbrev rmL_settlementDay : Room := { frames := 8, cells := 1, slots := 6, locals := 135 }
def wL_settlementDay_0 (z : Nat × Nat) (Q : Int32 → jM → Prop) (x0 : Option Nat) (x1 : Int32) (x2 : Option Nat) (μ : jM) : Prop :=
  ∃ b3 : Nat, (x0 = some b3 ∧ ∃ fs, μ b3 = some (.inr (11, fs))) ∧ wX9_settlementDay z b3 x1 μ (fun v1 μ2 => ∃ μ4 : jM, jsj μ2 x2 (0 : Int32) (Int32.toInt64 v1) = some μ4 ∧ (Q (0 : Int32) μ4)) (fun E μE => (E = "java/lang/IllegalArgumentException" → (Q (1 : Int32) μE)) ∧ (E = "java/lang/IllegalArgumentException"))
def wL_settlementDay (z : Nat × Nat) (x0 : Option Nat) (x1 : Int32) (x2 : Option Nat) (μ : jM) (Q : Int32 → jM → Prop) : Prop := wL_settlementDay_0 z Q x0 x1 x2 μ
/-! X4_bookUpTo: bookUpTo (I)V -/
abbrev rmX4_bookUpTo : Room := { frames := 0, cells := 0, slots := 0, locals := 0 }
def wX4_bookUpTo_0_b (z : Nat × Nat) (b : Nat) (Q : Unit → jM → Prop) (ih : Int32 → jM → Prop) (x1 : Int32) (μ : jM) : Prop :=
  ∃ v1 : Int32, jg μ (some b) 7 4 = some (.int v1) ∧ (((v1 ≤ 0) → (Q () μ)) ∧ (¬ (v1 ≤ 0) → (∃ v2 : Int32, jg μ (some b) 7 3 = some (.int v2) ∧ (((x1 < v2) → (Q () μ)) ∧ (¬ (x1 < v2) → (∃ v3 : Option Nat, jg μ (some b) 7 0 = some (va_rf v3) ∧ (∃ v4 : Int64, jg μ v3 3 8 = some (.long v4) ∧ (∃ v5 : Int32, jg μ (some b) 7 1 = some (.int v5) ∧ (∃ μ6 : jM, jp μ v3 3 8 (.long (v4 + (Int32.toInt64 v5))) = some μ6 ∧ (∃ v7 : Int32, jg μ6 (some b) 7 3 = some (.int v7) ∧ (∃ v8 : Int32, jg μ6 (some b) 7 2 = some (.int v8) ∧ (∃ μ9 : jM, jp μ6 (some b) 7 3 (.int (v7 + v8)) = some μ9 ∧ (∃ v10 : Int32, jg μ9 (some b) 7 4 = some (.int v10) ∧ (∃ μ11 : jM, jp μ9 (some b) 7 4 (.int (v10 - (1 : Int32))) = some μ11 ∧ (ih x1 μ11)))))))))))))))
def wX4_bookUpTo_0 (z : Nat × Nat) (b : Nat) (Q : Unit → jM → Prop) (n : Nat) : Int32 → jM → Prop := Nat.rec (motive := fun _ => Int32 → jM → Prop) (fun _ _ => False) (fun _ ih => wX4_bookUpTo_0_b z b Q ih) n
def wX4_bookUpTo (z : Nat × Nat) (b : Nat) (x1 : Int32) (μ : jM) (Q : Unit → jM → Prop) : Prop := ∃ n : Nat, wX4_bookUpTo_0 z b Q n x1 μ
/-! X3_bookDueFlows: bookDueFlows ()V -/
abbrev rmX3_bookDueFlows : Room := { frames := 3, cells := 0, slots := 0, locals := 64 }
def wX3_bookDueFlows_2_b (z : Nat × Nat) (b : Nat) (Q : Unit → jM → Prop) (ih : Int32 → jM → Prop) (x1 : Int32) (μ : jM) : Prop :=
  ∃ v1 : Option Nat, jg μ (some b) 6 3 = some (va_rf v1) ∧ (∃ b4 : Nat, (v1 = some b4 ∧ ∃ fs, μ b4 = some (.inr (2, fs))) ∧ wJx4a65c_size_8abf5 z b4  μ (fun v2 μ3 => ((v2 ≤ x1) → (Q () μ3)) ∧ (¬ (v2 ≤ x1) → (∃ v5 : Option Nat, jg μ3 (some b) 6 3 = some (va_rf v5) ∧ (∃ b8 : Nat, (v5 = some b8 ∧ ∃ fs, μ3 b8 = some (.inr (2, fs))) ∧ wJx4a65c_get_915e3 z b8 x1 μ3 (fun v6 μ7 => jc μ7 v6 7 ∧ (∃ v10 : Int32, jg μ7 (some b) 6 6 = some (.int v10) ∧ (∃ b13 : Nat, (v6 = some b13 ∧ ∃ fs, μ7 b13 = some (.inr (7, fs))) ∧ wX4_bookUpTo z b13 v10 μ7 (fun _ μ12 => ∀ v14 : Int32, v14 = x1 + (1 : Int32) → (ih v14 μ12))))))))))
def wX3_bookDueFlows_2 (z : Nat × Nat) (b : Nat) (Q : Unit → jM → Prop) (n : Nat) : Int32 → jM → Prop := Nat.rec (motive := fun _ => Int32 → jM → Prop) (fun _ _ => False) (fun _ ih => wX3_bookDueFlows_2_b z b Q ih) n
def wX3_bookDueFlows_0 (z : Nat × Nat) (b : Nat) (Q : Unit → jM → Prop)  (μ : jM) : Prop :=
  ∀ v1 : Int32, v1 = (0 : Int32) → (∃ n2 : Nat, wX3_bookDueFlows_2 z b Q n2 v1 μ)
def wX3_bookDueFlows (z : Nat × Nat) (b : Nat)  (μ : jM) (Q : Unit → jM → Prop) : Prop := wX3_bookDueFlows_0 z b Q  μ
/-! X0_surplusOf: surplusOf (J)J -/
abbrev rmX0_surplusOf : Room := { frames := 1, cells := 0, slots := 0, locals := 110 }
def wX0_surplusOf_0 (z : Nat × Nat) (b : Nat) (Q : Int64 → jM → Prop) (x1 : Int64) (μ : jM) : Prop :=
  ∃ v1 : Int32, jg μ (some b) 3 5 = some (.int v1) ∧ (((v1 = (1 : Int32)) → (∃ v2 : Int32, jg μ (some b) 3 6 = some (.int v2) ∧ (Q (x1 - (Int32.toInt64 v2)) μ))) ∧ (¬ (v1 = (1 : Int32)) → (((v1 = (2 : Int32)) → (∃ v3 : Int32, jg μ (some b) 3 6 = some (.int v3) ∧ (Q (if (0 : Int64) < (x1 - (Int32.toInt64 v3)) then (x1 - (Int32.toInt64 v3)) else (0 : Int64)) μ))) ∧ (¬ (v1 = (2 : Int32)) → (((v1 = (3 : Int32)) → (∃ v4 : Int32, jg μ (some b) 3 6 = some (.int v4) ∧ (Q (if (0 : Int64) < (x1 - (Int32.toInt64 v4)) then (0 : Int64) else (x1 - (Int32.toInt64 v4))) μ))) ∧ (¬ (v1 = (3 : Int32)) → (Q (0 : Int64) μ)))))))
def wX0_surplusOf (z : Nat × Nat) (b : Nat) (x1 : Int64) (μ : jM) (Q : Int64 → jM → Prop) : Prop := wX0_surplusOf_0 z b Q x1 μ
/-! X8_sweepUp: sweepUp (LCashPools$Account;I)V -/
abbrev rmX8_sweepUp (n : Nat) : Room := { frames := n + 3, cells := 0, slots := 0, locals := n * 23 + 132 }
def wX8_sweepUp_9_b (z : Nat × Nat) (RC : Option Nat → Int32 → jM → (Unit → jM → Prop) → Prop) (Q : Unit → jM → Prop) (ih : Option Nat → Int32 → Int32 → jM → Prop) (x0 : Option Nat) (x1 : Int32) (x2 : Int32) (μ : jM) : Prop :=
  ∃ v1 : Option Nat, jg μ x0 3 4 = some (va_rf v1) ∧ (∃ b4 : Nat, (v1 = some b4 ∧ ∃ fs, μ b4 = some (.inr (2, fs))) ∧ wJx4a65c_size_8abf5 z b4  μ (fun v2 μ3 => ((v2 ≤ x2) → (∃ v5 : Int64, jg μ3 x0 3 8 = some (.long v5) ∧ (∃ b8 : Nat, (x0 = some b8 ∧ ∃ fs, μ3 b8 = some (.inr (3, fs))) ∧ wX0_surplusOf z b8 v5 μ3 (fun v6 μ7 => ∀ v9 : Int64, v9 = (if (0 : Int64) < v6 then v6 else (0 : Int64)) → (∃ v10 : Option Nat, jg μ7 x0 3 1 = some (va_rf v10) ∧ (((v10 = none) → (Q () μ7)) ∧ (¬ (v10 = none) → (∃ v11 : Int64, jg μ7 x0 3 8 = some (.long v11) ∧ (∃ μ12 : jM, jp μ7 x0 3 8 (.long (v11 - v9)) = some μ12 ∧ (∃ v13 : Option Nat, jg μ12 x0 3 1 = some (va_rf v13) ∧ (∃ v14 : Int64, jg μ12 v13 3 8 = some (.long v14) ∧ (∃ μ15 : jM, jp μ12 v13 3 8 (.long (v14 + v9)) = some μ15 ∧ (Q () μ15))))))))))))) ∧ (¬ (v2 ≤ x2) → (∃ v16 : Option Nat, jg μ3 x0 3 4 = some (va_rf v16) ∧ (∃ b19 : Nat, (v16 = some b19 ∧ ∃ fs, μ3 b19 = some (.inr (2, fs))) ∧ wJx4a65c_get_915e3 z b19 x2 μ3 (fun v17 μ18 => jc μ18 v17 3 ∧ (RC v17 (x1 + (1 : Int32)) μ18 (fun _ μ22 => ∀ v23 : Int32, v23 = x2 + (1 : Int32) → (ih x0 x1 v23 μ22)))))))))
def wX8_sweepUp_9 (z : Nat × Nat) (RC : Option Nat → Int32 → jM → (Unit → jM → Prop) → Prop) (Q : Unit → jM → Prop) (n : Nat) : Option Nat → Int32 → Int32 → jM → Prop := Nat.rec (motive := fun _ => Option Nat → Int32 → Int32 → jM → Prop) (fun _ _ _ _ => False) (fun _ ih => wX8_sweepUp_9_b z RC Q ih) n
def wX8_sweepUp_0 (z : Nat × Nat) (RC : Option Nat → Int32 → jM → (Unit → jM → Prop) → Prop) (Q : Unit → jM → Prop) (x0 : Option Nat) (x1 : Int32) (μ : jM) : Prop :=
  ((x1 ≤ (10 : Int32)) → (∀ v1 : Int32, v1 = (0 : Int32) → (∃ n2 : Nat, wX8_sweepUp_9 z RC Q n2 x0 x1 v1 μ))) ∧ (¬ (x1 ≤ (10 : Int32)) → (Q () μ))
def wX8_sweepUp (z : Nat × Nat) (n : Nat) : Option Nat → Int32 → jM → (Unit → jM → Prop) → Prop := Nat.rec (motive := fun _ => Option Nat → Int32 → jM → (Unit → jM → Prop) → Prop) (fun _ _ _ _ => False) (fun _ RC x0 x1 μ Q => wX8_sweepUp_0 z RC Q x0 x1 μ) n
/-! X8_partOf: partOf (LCashPools$Account;JJ)J -/
abbrev rmX8_partOf : Room := { frames := 2, cells := 0, slots := 0, locals := 132 }
def wX8_partOf_0 (z : Nat × Nat) (Q : Int64 → jM → Prop) (x0 : Option Nat) (x1 : Int64) (x3 : Int64) (μ : jM) : Prop :=
  ∃ v1 : Option Nat, jg μ x0 3 1 = some (va_rf v1) ∧ (((¬ v1 = none) → (∃ b4 : Nat, (x0 = some b4 ∧ ∃ fs, μ b4 = some (.inr (3, fs))) ∧ wX0_surplusOf z b4 x1 μ (fun v2 μ3 => ∀ v5 : Int64, v5 = (if (0 : Int64) < (-v2) then (-v2) else (0 : Int64)) → (∃ v6 : Option Nat, jg μ3 x0 3 1 = some (va_rf v6) ∧ (∃ v7 : Int32, jg μ3 v6 3 7 = some (.int v7) ∧ (∀ v8 : Int64, v8 = (if (0 : Int64) < (x3 - (Int32.toInt64 v7)) then (x3 - (Int32.toInt64 v7)) else (0 : Int64)) → (Q (if v8 < v5 then v8 else v5) μ3))))))) ∧ (v1 = none → (Q (0 : Int64) μ)))
def wX8_partOf (z : Nat × Nat) (x0 : Option Nat) (x1 : Int64) (x3 : Int64) (μ : jM) (Q : Int64 → jM → Prop) : Prop := wX8_partOf_0 z Q x0 x1 x3 μ
/-! X8_sweepDown: sweepDown (LCashPools$Account;I)V -/
abbrev rmX8_sweepDown (n : Nat) : Room := { frames := n + 3, cells := 0, slots := 0, locals := n * 23 + 160 }
def wX8_sweepDown_55_b (z : Nat × Nat) (RC : Option Nat → Int32 → jM → (Unit → jM → Prop) → Prop) (Q : Unit → jM → Prop) (ih : Option Nat → Int32 → Int32 → jM → Prop) (x0 : Option Nat) (x1 : Int32) (x2 : Int32) (μ : jM) : Prop :=
  ∃ v1 : Option Nat, jg μ x0 3 4 = some (va_rf v1) ∧ (∃ b4 : Nat, (v1 = some b4 ∧ ∃ fs, μ b4 = some (.inr (2, fs))) ∧ wJx4a65c_size_8abf5 z b4  μ (fun v2 μ3 => ((v2 ≤ x2) → (Q () μ3)) ∧ (¬ (v2 ≤ x2) → (∃ v5 : Option Nat, jg μ3 x0 3 4 = some (va_rf v5) ∧ (∃ b8 : Nat, (v5 = some b8 ∧ ∃ fs, μ3 b8 = some (.inr (2, fs))) ∧ wJx4a65c_get_915e3 z b8 x2 μ3 (fun v6 μ7 => jc μ7 v6 3 ∧ (RC v6 (x1 + (1 : Int32)) μ7 (fun _ μ11 => ∀ v12 : Int32, v12 = x2 + (1 : Int32) → (ih x0 x1 v12 μ11)))))))))
def wX8_sweepDown_55 (z : Nat × Nat) (RC : Option Nat → Int32 → jM → (Unit → jM → Prop) → Prop) (Q : Unit → jM → Prop) (n : Nat) : Option Nat → Int32 → Int32 → jM → Prop := Nat.rec (motive := fun _ => Option Nat → Int32 → Int32 → jM → Prop) (fun _ _ _ _ => False) (fun _ ih => wX8_sweepDown_55_b z RC Q ih) n
def wX8_sweepDown_0 (z : Nat × Nat) (RC : Option Nat → Int32 → jM → (Unit → jM → Prop) → Prop) (Q : Unit → jM → Prop) (x0 : Option Nat) (x1 : Int32) (μ : jM) : Prop :=
  ((x1 ≤ (10 : Int32)) → (∃ v1 : Option Nat, jg μ x0 3 1 = some (va_rf v1) ∧ (((v1 = none) → (∀ v2 : Int32, v2 = (0 : Int32) → (∃ n3 : Nat, wX8_sweepDown_55 z RC Q n3 x0 x1 v2 μ))) ∧ (¬ (v1 = none) → (∃ v4 : Int64, jg μ x0 3 8 = some (.long v4) ∧ (∃ v5 : Option Nat, jg μ x0 3 1 = some (va_rf v5) ∧ (∃ v6 : Int64, jg μ v5 3 8 = some (.long v6) ∧ (wX8_partOf z x0 v4 v6 μ (fun v7 μ8 => ∃ v9 : Int64, jg μ8 x0 3 8 = some (.long v9) ∧ (∃ μ10 : jM, jp μ8 x0 3 8 (.long (v9 + v7)) = some μ10 ∧ (∃ v11 : Option Nat, jg μ10 x0 3 1 = some (va_rf v11) ∧ (∃ v12 : Int64, jg μ10 v11 3 8 = some (.long v12) ∧ (∃ μ13 : jM, jp μ10 v11 3 8 (.long (v12 - v7)) = some μ13 ∧ (∀ v14 : Int32, v14 = (0 : Int32) → (∃ n15 : Nat, wX8_sweepDown_55 z RC Q n15 x0 x1 v14 μ13))))))))))))))) ∧ (¬ (x1 ≤ (10 : Int32)) → (Q () μ))
def wX8_sweepDown (z : Nat × Nat) (n : Nat) : Option Nat → Int32 → jM → (Unit → jM → Prop) → Prop := Nat.rec (motive := fun _ => Option Nat → Int32 → jM → (Unit → jM → Prop) → Prop) (fun _ _ _ _ => False) (fun _ RC x0 x1 μ Q => wX8_sweepDown_0 z RC Q x0 x1 μ) n
/-! X8_sweep: sweep (LCashPools$Account;)V -/
abbrev rmX8_sweep : Room := { frames := 16, cells := 0, slots := 0, locals := 459 }
def wX8_sweep_0 (z : Nat × Nat) (Q : Unit → jM → Prop) (x0 : Option Nat) (μ : jM) : Prop :=
  wX8_sweepUp z 12 x0 (0 : Int32) μ (fun _ μ2 => wX8_sweepDown z 12 x0 (0 : Int32) μ2 (fun _ μ4 => Q () μ4))
def wX8_sweep (z : Nat × Nat) (x0 : Option Nat) (μ : jM) (Q : Unit → jM → Prop) : Prop := wX8_sweep_0 z Q x0 μ
/-! X3_sweepPools: sweepPools ()V -/
abbrev rmX3_sweepPools : Room := { frames := 17, cells := 0, slots := 0, locals := 479 }
def wX3_sweepPools_2_b (z : Nat × Nat) (b : Nat) (Q : Unit → jM → Prop) (ih : Int32 → jM → Prop) (x1 : Int32) (μ : jM) : Prop :=
  ∃ v1 : Option Nat, jg μ (some b) 6 1 = some (va_rf v1) ∧ (∃ b4 : Nat, (v1 = some b4 ∧ ∃ fs, μ b4 = some (.inr (2, fs))) ∧ wJx4a65c_size_8abf5 z b4  μ (fun v2 μ3 => ((v2 ≤ x1) → (Q () μ3)) ∧ (¬ (v2 ≤ x1) → (∃ v5 : Option Nat, jg μ3 (some b) 6 1 = some (va_rf v5) ∧ (∃ b8 : Nat, (v5 = some b8 ∧ ∃ fs, μ3 b8 = some (.inr (2, fs))) ∧ wJx4a65c_get_915e3 z b8 x1 μ3 (fun v6 μ7 => jc μ7 v6 3 ∧ (wX8_sweep z v6 μ7 (fun _ μ11 => ∀ v12 : Int32, v12 = x1 + (1 : Int32) → (ih v12 μ11)))))))))
def wX3_sweepPools_2 (z : Nat × Nat) (b : Nat) (Q : Unit → jM → Prop) (n : Nat) : Int32 → jM → Prop := Nat.rec (motive := fun _ => Int32 → jM → Prop) (fun _ _ => False) (fun _ ih => wX3_sweepPools_2_b z b Q ih) n
def wX3_sweepPools_0 (z : Nat × Nat) (b : Nat) (Q : Unit → jM → Prop)  (μ : jM) : Prop :=
  ∀ v1 : Int32, v1 = (0 : Int32) → (∃ n2 : Nat, wX3_sweepPools_2 z b Q n2 v1 μ)
def wX3_sweepPools (z : Nat × Nat) (b : Nat)  (μ : jM) (Q : Unit → jM → Prop) : Prop := wX3_sweepPools_0 z b Q  μ
/-! X6_drawMissing: drawMissing (LCashPools$Account;)V -/
abbrev rmX6_drawMissing : Room := { frames := 3, cells := 0, slots := 0, locals := 110 }
def wX6_drawMissing_2_b (z : Nat × Nat) (b : Nat) (Q : Unit → jM → Prop) (ih : Option Nat → Int32 → jM → Prop) (x1 : Option Nat) (x2 : Int32) (μ : jM) : Prop :=
  ∃ v1 : Option Nat, jg μ (some b) 9 4 = some (va_rf v1) ∧ (∃ b4 : Nat, (v1 = some b4 ∧ ∃ fs, μ b4 = some (.inr (2, fs))) ∧ wJx4a65c_size_8abf5 z b4  μ (fun v2 μ3 => ((v2 ≤ x2) → (Q () μ3)) ∧ (¬ (v2 ≤ x2) → (∃ v5 : Option Nat, jg μ3 (some b) 9 4 = some (va_rf v5) ∧ (∃ b8 : Nat, (v5 = some b8 ∧ ∃ fs, μ3 b8 = some (.inr (2, fs))) ∧ wJx4a65c_get_915e3 z b8 x2 μ3 (fun v6 μ7 => jc μ7 v6 8 ∧ (∃ v10 : Int64, jg μ7 x1 3 8 = some (.long v10) ∧ (∀ v11 : Int64, v11 = (if (0 : Int64) < (-v10) then (-v10) else (0 : Int64)) → (∃ v12 : Int32, jg μ7 v6 8 1 = some (.int v12) ∧ (∃ v13 : Int64, jg μ7 v6 8 3 = some (.long v13) ∧ (∀ v14 : Int64, v14 = (if ((Int32.toInt64 v12) - v13) < v11 then ((Int32.toInt64 v12) - v13) else v11) → (∃ v15 : Int64, jg μ7 v6 8 3 = some (.long v15) ∧ (∃ μ16 : jM, jp μ7 v6 8 3 (.long (v15 + v14)) = some μ16 ∧ (∃ v17 : Int64, jg μ16 x1 3 8 = some (.long v17) ∧ (∃ μ18 : jM, jp μ16 x1 3 8 (.long (v17 + v14)) = some μ18 ∧ (∀ v19 : Int32, v19 = x2 + (1 : Int32) → (ih x1 v19 μ18)))))))))))))))))
def wX6_drawMissing_2 (z : Nat × Nat) (b : Nat) (Q : Unit → jM → Prop) (n : Nat) : Option Nat → Int32 → jM → Prop := Nat.rec (motive := fun _ => Option Nat → Int32 → jM → Prop) (fun _ _ _ => False) (fun _ ih => wX6_drawMissing_2_b z b Q ih) n
def wX6_drawMissing_0 (z : Nat × Nat) (b : Nat) (Q : Unit → jM → Prop) (x1 : Option Nat) (μ : jM) : Prop :=
  ∀ v1 : Int32, v1 = (0 : Int32) → (∃ n2 : Nat, wX6_drawMissing_2 z b Q n2 x1 v1 μ)
def wX6_drawMissing (z : Nat × Nat) (b : Nat) (x1 : Option Nat) (μ : jM) (Q : Unit → jM → Prop) : Prop := wX6_drawMissing_0 z b Q x1 μ
/-! X6_payBack: payBack (LCashPools$Account;)V -/
abbrev rmX6_payBack : Room := { frames := 3, cells := 0, slots := 0, locals := 110 }
def wX6_payBack_10_b (z : Nat × Nat) (b : Nat) (Q : Unit → jM → Prop) (ih : Option Nat → Int32 → jM → Prop) (x1 : Option Nat) (x2 : Int32) (μ : jM) : Prop :=
  ((x2 < 0) → (Q () μ)) ∧ (¬ (x2 < 0) → (∃ v1 : Option Nat, jg μ (some b) 9 4 = some (va_rf v1) ∧ (∃ b4 : Nat, (v1 = some b4 ∧ ∃ fs, μ b4 = some (.inr (2, fs))) ∧ wJx4a65c_get_915e3 z b4 x2 μ (fun v2 μ3 => jc μ3 v2 8 ∧ (∃ v6 : Int64, jg μ3 x1 3 8 = some (.long v6) ∧ (∃ v7 : Int64, jg μ3 v2 8 3 = some (.long v7) ∧ (∀ v8 : Int64, v8 = (if v7 < (if (0 : Int64) < v6 then v6 else (0 : Int64)) then v7 else (if (0 : Int64) < v6 then v6 else (0 : Int64))) → (∃ v9 : Int64, jg μ3 v2 8 3 = some (.long v9) ∧ (∃ μ10 : jM, jp μ3 v2 8 3 (.long (v9 - v8)) = some μ10 ∧ (∃ v11 : Int64, jg μ10 x1 3 8 = some (.long v11) ∧ (∃ μ12 : jM, jp μ10 x1 3 8 (.long (v11 - v8)) = some μ12 ∧ (∀ v13 : Int32, v13 = x2 + (-1 : Int32) → (ih x1 v13 μ12)))))))))))))
def wX6_payBack_10 (z : Nat × Nat) (b : Nat) (Q : Unit → jM → Prop) (n : Nat) : Option Nat → Int32 → jM → Prop := Nat.rec (motive := fun _ => Option Nat → Int32 → jM → Prop) (fun _ _ _ => False) (fun _ ih => wX6_payBack_10_b z b Q ih) n
def wX6_payBack_0 (z : Nat × Nat) (b : Nat) (Q : Unit → jM → Prop) (x1 : Option Nat) (μ : jM) : Prop :=
  ∃ v1 : Option Nat, jg μ (some b) 9 4 = some (va_rf v1) ∧ (∃ b4 : Nat, (v1 = some b4 ∧ ∃ fs, μ b4 = some (.inr (2, fs))) ∧ wJx4a65c_size_8abf5 z b4  μ (fun v2 μ3 => ∀ v5 : Int32, v5 = (v2 - (1 : Int32)) → (∃ n6 : Nat, wX6_payBack_10 z b Q n6 x1 v5 μ3)))
def wX6_payBack (z : Nat × Nat) (b : Nat) (x1 : Option Nat) (μ : jM) (Q : Unit → jM → Prop) : Prop := wX6_payBack_0 z b Q x1 μ
/-! X3_coverPools: coverPools ()V -/
abbrev rmX3_coverPools : Room := { frames := 4, cells := 0, slots := 0, locals := 137 }
def wX3_coverPools_2_b (z : Nat × Nat) (b : Nat) (Q : Unit → jM → Prop) (ih : Int32 → jM → Prop) (x1 : Int32) (μ : jM) : Prop :=
  ∃ v1 : Option Nat, jg μ (some b) 6 1 = some (va_rf v1) ∧ (∃ b4 : Nat, (v1 = some b4 ∧ ∃ fs, μ b4 = some (.inr (2, fs))) ∧ wJx4a65c_size_8abf5 z b4  μ (fun v2 μ3 => ((v2 ≤ x1) → (Q () μ3)) ∧ (¬ (v2 ≤ x1) → (∃ v5 : Option Nat, jg μ3 (some b) 6 1 = some (va_rf v5) ∧ (∃ b8 : Nat, (v5 = some b8 ∧ ∃ fs, μ3 b8 = some (.inr (2, fs))) ∧ wJx4a65c_get_915e3 z b8 x1 μ3 (fun v6 μ7 => jc μ7 v6 3 ∧ (∃ v10 : Option Nat, jg μ7 v6 3 2 = some (va_rf v10) ∧ (∃ b13 : Nat, (v10 = some b13 ∧ ∃ fs, μ7 b13 = some (.inr (9, fs))) ∧ wX6_drawMissing z b13 v6 μ7 (fun _ μ12 => ∃ v14 : Option Nat, jg μ12 v6 3 2 = some (va_rf v14) ∧ (∃ b17 : Nat, (v14 = some b17 ∧ ∃ fs, μ12 b17 = some (.inr (9, fs))) ∧ wX6_payBack z b17 v6 μ12 (fun _ μ16 => ∀ v18 : Int32, v18 = x1 + (1 : Int32) → (ih v18 μ16))))))))))))
def wX3_coverPools_2 (z : Nat × Nat) (b : Nat) (Q : Unit → jM → Prop) (n : Nat) : Int32 → jM → Prop := Nat.rec (motive := fun _ => Int32 → jM → Prop) (fun _ _ => False) (fun _ ih => wX3_coverPools_2_b z b Q ih) n
def wX3_coverPools_0 (z : Nat × Nat) (b : Nat) (Q : Unit → jM → Prop)  (μ : jM) : Prop :=
  ∀ v1 : Int32, v1 = (0 : Int32) → (∃ n2 : Nat, wX3_coverPools_2 z b Q n2 v1 μ)
def wX3_coverPools (z : Nat × Nat) (b : Nat)  (μ : jM) (Q : Unit → jM → Prop) : Prop := wX3_coverPools_0 z b Q  μ
/-! X3_measureBanks: measureBanks ()V -/
abbrev rmX3_measureBanks : Room := { frames := 3, cells := 0, slots := 0, locals := 110 }
def wX3_measureBanks_36_b (z : Nat × Nat) (b : Nat) (Q : Unit → jM → Prop) (ih : Int32 → jM → Prop) (x1 : Int32) (μ : jM) : Prop :=
  ∃ v1 : Option Nat, jg μ (some b) 6 0 = some (va_rf v1) ∧ (∃ b4 : Nat, (v1 = some b4 ∧ ∃ fs, μ b4 = some (.inr (2, fs))) ∧ wJx4a65c_size_8abf5 z b4  μ (fun v2 μ3 => ((v2 ≤ x1) → (Q () μ3)) ∧ (¬ (v2 ≤ x1) → (∃ v5 : Option Nat, jg μ3 (some b) 6 0 = some (va_rf v5) ∧ (∃ b8 : Nat, (v5 = some b8 ∧ ∃ fs, μ3 b8 = some (.inr (2, fs))) ∧ wJx4a65c_get_915e3 z b8 x1 μ3 (fun v6 μ7 => jc μ7 v6 3 ∧ (∃ v10 : Option Nat, jg μ7 v6 3 3 = some (va_rf v10) ∧ (∃ v11 : Int64, jg μ7 v10 4 2 = some (.long v11) ∧ (∃ v12 : Int64, jg μ7 v6 3 8 = some (.long v12) ∧ (∃ μ13 : jM, jp μ7 v10 4 2 (.long (v11 + (if (0 : Int64) < v12 then v12 else (0 : Int64)))) = some μ13 ∧ (∀ v14 : Int32, v14 = x1 + (1 : Int32) → (ih v14 μ13))))))))))))
def wX3_measureBanks_36 (z : Nat × Nat) (b : Nat) (Q : Unit → jM → Prop) (n : Nat) : Int32 → jM → Prop := Nat.rec (motive := fun _ => Int32 → jM → Prop) (fun _ _ => False) (fun _ ih => wX3_measureBanks_36_b z b Q ih) n
def wX3_measureBanks_2_b (z : Nat × Nat) (b : Nat) (Q : Unit → jM → Prop) (ih : Int32 → jM → Prop) (x1 : Int32) (μ : jM) : Prop :=
  ∃ v1 : Option Nat, jg μ (some b) 6 4 = some (va_rf v1) ∧ (∃ b4 : Nat, (v1 = some b4 ∧ ∃ fs, μ b4 = some (.inr (2, fs))) ∧ wJx4a65c_size_8abf5 z b4  μ (fun v2 μ3 => ((v2 ≤ x1) → (∀ v5 : Int32, v5 = (0 : Int32) → (∃ n6 : Nat, wX3_measureBanks_36 z b Q n6 v5 μ3))) ∧ (¬ (v2 ≤ x1) → (∃ v7 : Option Nat, jg μ3 (some b) 6 4 = some (va_rf v7) ∧ (∃ b10 : Nat, (v7 = some b10 ∧ ∃ fs, μ3 b10 = some (.inr (2, fs))) ∧ wJx4a65c_get_915e3 z b10 x1 μ3 (fun v8 μ9 => jc μ9 v8 4 ∧ (∃ μ12 : jM, jp μ9 v8 4 2 (.long (0 : Int64)) = some μ12 ∧ (∀ v13 : Int32, v13 = x1 + (1 : Int32) → (ih v13 μ12)))))))))
def wX3_measureBanks_2 (z : Nat × Nat) (b : Nat) (Q : Unit → jM → Prop) (n : Nat) : Int32 → jM → Prop := Nat.rec (motive := fun _ => Int32 → jM → Prop) (fun _ _ => False) (fun _ ih => wX3_measureBanks_2_b z b Q ih) n
def wX3_measureBanks_0 (z : Nat × Nat) (b : Nat) (Q : Unit → jM → Prop)  (μ : jM) : Prop :=
  ∀ v1 : Int32, v1 = (0 : Int32) → (∃ n2 : Nat, wX3_measureBanks_2 z b Q n2 v1 μ)
def wX3_measureBanks (z : Nat × Nat) (b : Nat)  (μ : jM) (Q : Unit → jM → Prop) : Prop := wX3_measureBanks_0 z b Q  μ
/-! X1_excess: excess ()J -/
abbrev rmX1_excess : Room := { frames := 1, cells := 0, slots := 0, locals := 110 }
def wX1_excess_0 (z : Nat × Nat) (b : Nat) (Q : Int64 → jM → Prop)  (μ : jM) : Prop :=
  ∃ v1 : Int32, jg μ (some b) 4 1 = some (.int v1) ∧ (((¬ v1 = (-1 : Int32)) → (∃ v2 : Int64, jg μ (some b) 4 2 = some (.long v2) ∧ (∃ v3 : Int32, jg μ (some b) 4 1 = some (.int v3) ∧ (Q (if (0 : Int64) < (v2 - (Int32.toInt64 v3)) then (v2 - (Int32.toInt64 v3)) else (0 : Int64)) μ)))) ∧ (v1 = (-1 : Int32) → (Q (0 : Int64) μ)))
def wX1_excess (z : Nat × Nat) (b : Nat)  (μ : jM) (Q : Int64 → jM → Prop) : Prop := wX1_excess_0 z b Q  μ
/-! X1_room: room ()J -/
abbrev rmX1_room : Room := { frames := 1, cells := 0, slots := 0, locals := 110 }
def wX1_room_0 (z : Nat × Nat) (b : Nat) (Q : Int64 → jM → Prop)  (μ : jM) : Prop :=
  ∃ v1 : Int32, jg μ (some b) 4 1 = some (.int v1) ∧ (((¬ v1 = (-1 : Int32)) → (∃ v2 : Int32, jg μ (some b) 4 1 = some (.int v2) ∧ (∃ v3 : Int64, jg μ (some b) 4 2 = some (.long v3) ∧ (Q (if (0 : Int64) < ((Int32.toInt64 v2) - v3) then ((Int32.toInt64 v2) - v3) else (0 : Int64)) μ)))) ∧ (v1 = (-1 : Int32) → (Q (4611686018427387904 : Int64) μ)))
def wX1_room (z : Nat × Nat) (b : Nat)  (μ : jM) (Q : Int64 → jM → Prop) : Prop := wX1_room_0 z b Q  μ
/-! X3_findGetter: findGetter (LCashPools$Pool;)LCashPools$Account; -/
abbrev rmX3_findGetter : Room := { frames := 3, cells := 0, slots := 0, locals := 130 }
def wX3_findGetter_53 (z : Nat × Nat) (K4 : Option Nat → Option Nat → Int32 → jM → Prop) (Q : Option Nat → jM → Prop) (x0 : Option Nat) (x1 : Option Nat) (x2 : Int32) (x3 : Option Nat) (t0 : Int32) (μ : jM) : Prop :=
  ((t0 = 0) → (∀ v1 : Int32, v1 = x2 + (1 : Int32) → (K4 x0 x1 v1 μ))) ∧ (¬ (t0 = 0) → (((x1 = none) → (∀ v2 : Int32, v2 = x2 + (1 : Int32) → (K4 x0 x3 v2 μ))) ∧ (¬ (x1 = none) → (∃ v3 : Option Nat, jg μ x3 3 3 = some (va_rf v3) ∧ (∃ b6 : Nat, (v3 = some b6 ∧ ∃ fs, μ b6 = some (.inr (4, fs))) ∧ wX1_room z b6  μ (fun v4 μ5 => ∃ v7 : Option Nat, jg μ5 x1 3 3 = some (va_rf v7) ∧ (∃ b10 : Nat, (v7 = some b10 ∧ ∃ fs, μ5 b10 = some (.inr (4, fs))) ∧ wX1_room z b10  μ5 (fun v8 μ9 => ((v4 ≤ v8) → (∀ v11 : Int32, v11 = x2 + (1 : Int32) → (K4 x0 x1 v11 μ9))) ∧ (¬ (v4 ≤ v8) → (∀ v12 : Int32, v12 = x2 + (1 : Int32) → (K4 x0 x3 v12 μ9)))))))))))
def wX3_findGetter_52 (z : Nat × Nat) (K4 : Option Nat → Option Nat → Int32 → jM → Prop) (Q : Option Nat → jM → Prop) (x0 : Option Nat) (x1 : Option Nat) (x2 : Int32) (x3 : Option Nat) (μ : jM) : Prop :=
  wX3_findGetter_53 z K4 Q x0 x1 x2 x3 (0 : Int32) μ
def wX3_findGetter_4_b (z : Nat × Nat) (Q : Option Nat → jM → Prop) (ih : Option Nat → Option Nat → Int32 → jM → Prop) (x0 : Option Nat) (x1 : Option Nat) (x2 : Int32) (μ : jM) : Prop :=
  ∃ v1 : Option Nat, jg μ x0 9 3 = some (va_rf v1) ∧ (∃ b4 : Nat, (v1 = some b4 ∧ ∃ fs, μ b4 = some (.inr (2, fs))) ∧ wJx4a65c_size_8abf5 z b4  μ (fun v2 μ3 => ((v2 ≤ x2) → (Q x1 μ3)) ∧ (¬ (v2 ≤ x2) → (∃ v5 : Option Nat, jg μ3 x0 9 3 = some (va_rf v5) ∧ (∃ b8 : Nat, (v5 = some b8 ∧ ∃ fs, μ3 b8 = some (.inr (2, fs))) ∧ wJx4a65c_get_915e3 z b8 x2 μ3 (fun v6 μ7 => jc μ7 v6 3 ∧ (∃ v10 : Int64, jg μ7 v6 3 8 = some (.long v10) ∧ (((v10 < (0 : Int64)) → (wX3_findGetter_52 z ih Q x0 x1 x2 v6 μ7)) ∧ (¬ (v10 < (0 : Int64)) → (∃ v11 : Option Nat, jg μ7 v6 3 3 = some (va_rf v11) ∧ (∃ b14 : Nat, (v11 = some b14 ∧ ∃ fs, μ7 b14 = some (.inr (4, fs))) ∧ wX1_room z b14  μ7 (fun v12 μ13 => ((v12 ≤ (0 : Int64)) → (wX3_findGetter_52 z ih Q x0 x1 x2 v6 μ13)) ∧ (¬ (v12 ≤ (0 : Int64)) → (wX3_findGetter_53 z ih Q x0 x1 x2 v6 (1 : Int32) μ13))))))))))))))
def wX3_findGetter_4 (z : Nat × Nat) (Q : Option Nat → jM → Prop) (n : Nat) : Option Nat → Option Nat → Int32 → jM → Prop := Nat.rec (motive := fun _ => Option Nat → Option Nat → Int32 → jM → Prop) (fun _ _ _ _ => False) (fun _ ih => wX3_findGetter_4_b z Q ih) n
def wX3_findGetter_0 (z : Nat × Nat) (Q : Option Nat → jM → Prop) (x0 : Option Nat) (μ : jM) : Prop :=
  ∀ v1 : Int32, v1 = (0 : Int32) → (∃ n2 : Nat, wX3_findGetter_4 z Q n2 x0 none v1 μ)
def wX3_findGetter (z : Nat × Nat) (x0 : Option Nat) (μ : jM) (Q : Option Nat → jM → Prop) : Prop := wX3_findGetter_0 z Q x0 μ
/-! X3_givesBefore: givesBefore (LCashPools$Account;LCashPools$Account;)Z -/
abbrev rmX3_givesBefore : Room := { frames := 2, cells := 0, slots := 0, locals := 130 }
def wX3_givesBefore_0 (z : Nat × Nat) (Q : Int32 → jM → Prop) (x0 : Option Nat) (x1 : Option Nat) (μ : jM) : Prop :=
  ∃ v1 : Option Nat, jg μ x0 3 3 = some (va_rf v1) ∧ (∃ v2 : Int32, jg μ v1 4 0 = some (.int v2) ∧ (∃ v3 : Option Nat, jg μ x1 3 3 = some (va_rf v3) ∧ (∃ v4 : Int32, jg μ v3 4 0 = some (.int v4) ∧ (((¬ v2 = v4) → (∃ v5 : Option Nat, jg μ x0 3 3 = some (va_rf v5) ∧ (∃ b8 : Nat, (v5 = some b8 ∧ ∃ fs, μ b8 = some (.inr (4, fs))) ∧ wX1_excess z b8  μ (fun v6 μ7 => ∃ v9 : Option Nat, jg μ7 x1 3 3 = some (va_rf v9) ∧ (∃ b12 : Nat, (v9 = some b12 ∧ ∃ fs, μ7 b12 = some (.inr (4, fs))) ∧ wX1_excess z b12  μ7 (fun v10 μ11 => ((v6 = v10) → (∃ v13 : Option Nat, jg μ11 x0 3 3 = some (va_rf v13) ∧ (∃ v14 : Int32, jg μ11 v13 4 0 = some (.int v14) ∧ (∃ v15 : Option Nat, jg μ11 x1 3 3 = some (va_rf v15) ∧ (∃ v16 : Int32, jg μ11 v15 4 0 = some (.int v16) ∧ (((v16 ≤ v14) → (Q (0 : Int32) μ11)) ∧ (¬ (v16 ≤ v14) → (Q (1 : Int32) μ11)))))))) ∧ (¬ (v6 = v10) → (∃ v17 : Option Nat, jg μ11 x0 3 3 = some (va_rf v17) ∧ (∃ b20 : Nat, (v17 = some b20 ∧ ∃ fs, μ11 b20 = some (.inr (4, fs))) ∧ wX1_excess z b20  μ11 (fun v18 μ19 => ∃ v21 : Option Nat, jg μ19 x1 3 3 = some (va_rf v21) ∧ (∃ b24 : Nat, (v21 = some b24 ∧ ∃ fs, μ19 b24 = some (.inr (4, fs))) ∧ wX1_excess z b24  μ19 (fun v22 μ23 => ((v18 ≤ v22) → (Q (0 : Int32) μ23)) ∧ (¬ (v18 ≤ v22) → (Q (1 : Int32) μ23)))))))))))))) ∧ (v2 = v4 → (∃ v25 : Int64, jg μ x0 3 8 = some (.long v25) ∧ (∃ v26 : Int64, jg μ x1 3 8 = some (.long v26) ∧ (((v25 ≤ v26) → (Q (0 : Int32) μ)) ∧ (¬ (v25 ≤ v26) → (Q (1 : Int32) μ))))))))))
def wX3_givesBefore (z : Nat × Nat) (x0 : Option Nat) (x1 : Option Nat) (μ : jM) (Q : Int32 → jM → Prop) : Prop := wX3_givesBefore_0 z Q x0 x1 μ
/-! X3_findGiver: findGiver ()LCashPools$Account; -/
abbrev rmX3_findGiver : Room := { frames := 4, cells := 0, slots := 0, locals := 154 }
def wX3_findGiver_63 (z : Nat × Nat) (b : Nat) (K4 : Option Nat → Int32 → jM → Prop) (Q : Option Nat → jM → Prop) (x1 : Option Nat) (x2 : Int32) (x3 : Option Nat) (t0 : Int32) (μ : jM) : Prop :=
  ((t0 = 0) → (∀ v1 : Int32, v1 = x2 + (1 : Int32) → (K4 x1 v1 μ))) ∧ (¬ (t0 = 0) → (((x1 = none) → (∀ v2 : Int32, v2 = x2 + (1 : Int32) → (K4 x3 v2 μ))) ∧ (¬ (x1 = none) → (wX3_givesBefore z x3 x1 μ (fun v3 μ4 => ((v3 = 0) → (∀ v5 : Int32, v5 = x2 + (1 : Int32) → (K4 x1 v5 μ4))) ∧ (¬ (v3 = 0) → (∀ v6 : Int32, v6 = x2 + (1 : Int32) → (K4 x3 v6 μ4))))))))
def wX3_findGiver_62 (z : Nat × Nat) (b : Nat) (K4 : Option Nat → Int32 → jM → Prop) (Q : Option Nat → jM → Prop) (x1 : Option Nat) (x2 : Int32) (x3 : Option Nat) (μ : jM) : Prop :=
  wX3_findGiver_63 z b K4 Q x1 x2 x3 (0 : Int32) μ
def wX3_findGiver_4_b (z : Nat × Nat) (b : Nat) (Q : Option Nat → jM → Prop) (ih : Option Nat → Int32 → jM → Prop) (x1 : Option Nat) (x2 : Int32) (μ : jM) : Prop :=
  ∃ v1 : Option Nat, jg μ (some b) 6 0 = some (va_rf v1) ∧ (∃ b4 : Nat, (v1 = some b4 ∧ ∃ fs, μ b4 = some (.inr (2, fs))) ∧ wJx4a65c_size_8abf5 z b4  μ (fun v2 μ3 => ((v2 ≤ x2) → (Q x1 μ3)) ∧ (¬ (v2 ≤ x2) → (∃ v5 : Option Nat, jg μ3 (some b) 6 0 = some (va_rf v5) ∧ (∃ b8 : Nat, (v5 = some b8 ∧ ∃ fs, μ3 b8 = some (.inr (2, fs))) ∧ wJx4a65c_get_915e3 z b8 x2 μ3 (fun v6 μ7 => jc μ7 v6 3 ∧ (∃ v10 : Int64, jg μ7 v6 3 8 = some (.long v10) ∧ (((v10 ≤ (0 : Int64)) → (wX3_findGiver_62 z b ih Q x1 x2 v6 μ7)) ∧ (¬ (v10 ≤ (0 : Int64)) → (∃ v11 : Option Nat, jg μ7 v6 3 3 = some (va_rf v11) ∧ (∃ b14 : Nat, (v11 = some b14 ∧ ∃ fs, μ7 b14 = some (.inr (4, fs))) ∧ wX1_excess z b14  μ7 (fun v12 μ13 => ((v12 ≤ (0 : Int64)) → (wX3_findGiver_62 z b ih Q x1 x2 v6 μ13)) ∧ (¬ (v12 ≤ (0 : Int64)) → (∃ v15 : Option Nat, jg μ13 v6 3 2 = some (va_rf v15) ∧ (wX3_findGetter z v15 μ13 (fun v16 μ17 => ((v16 = none) → (wX3_findGiver_62 z b ih Q x1 x2 v6 μ17)) ∧ (¬ (v16 = none) → (wX3_findGiver_63 z b ih Q x1 x2 v6 (1 : Int32) μ17))))))))))))))))))
def wX3_findGiver_4 (z : Nat × Nat) (b : Nat) (Q : Option Nat → jM → Prop) (n : Nat) : Option Nat → Int32 → jM → Prop := Nat.rec (motive := fun _ => Option Nat → Int32 → jM → Prop) (fun _ _ _ => False) (fun _ ih => wX3_findGiver_4_b z b Q ih) n
def wX3_findGiver_0 (z : Nat × Nat) (b : Nat) (Q : Option Nat → jM → Prop)  (μ : jM) : Prop :=
  ∀ v1 : Int32, v1 = (0 : Int32) → (∃ n2 : Nat, wX3_findGiver_4 z b Q n2 none v1 μ)
def wX3_findGiver (z : Nat × Nat) (b : Nat)  (μ : jM) (Q : Option Nat → jM → Prop) : Prop := wX3_findGiver_0 z b Q  μ
/-! X3_moveAway: moveAway (LCashPools$Account;)Z -/
abbrev rmX3_moveAway : Room := { frames := 4, cells := 0, slots := 0, locals := 154 }
def wX3_moveAway_0 (z : Nat × Nat) (Q : Int32 → jM → Prop) (x0 : Option Nat) (μ : jM) : Prop :=
  ∃ v1 : Option Nat, jg μ x0 3 2 = some (va_rf v1) ∧ (wX3_findGetter z v1 μ (fun v2 μ3 => ((¬ v2 = none) → (∃ v4 : Int64, jg μ3 x0 3 8 = some (.long v4) ∧ (∃ v5 : Option Nat, jg μ3 v2 3 3 = some (va_rf v5) ∧ (∃ b8 : Nat, (v5 = some b8 ∧ ∃ fs, μ3 b8 = some (.inr (4, fs))) ∧ wX1_room z b8  μ3 (fun v6 μ7 => ∀ v9 : Int64, v9 = (if v6 < v4 then v6 else v4) → (∃ v10 : Option Nat, jg μ7 x0 3 3 = some (va_rf v10) ∧ (∃ b13 : Nat, (v10 = some b13 ∧ ∃ fs, μ7 b13 = some (.inr (4, fs))) ∧ wX1_excess z b13  μ7 (fun v11 μ12 => ∀ v14 : Int64, v14 = (if v9 < v11 then v9 else v11) → (∃ v15 : Int64, jg μ12 x0 3 8 = some (.long v15) ∧ (∃ μ16 : jM, jp μ12 x0 3 8 (.long (v15 - v14)) = some μ16 ∧ (∃ v17 : Int64, jg μ16 v2 3 8 = some (.long v17) ∧ (∃ μ18 : jM, jp μ16 v2 3 8 (.long (v17 + v14)) = some μ18 ∧ (Q (1 : Int32) μ18))))))))))))) ∧ (v2 = none → (Q (0 : Int32) μ3))))
def wX3_moveAway (z : Nat × Nat) (x0 : Option Nat) (μ : jM) (Q : Int32 → jM → Prop) : Prop := wX3_moveAway_0 z Q x0 μ
/-! X3_easeBanks: easeBanks ()V -/
abbrev rmX3_easeBanks : Room := { frames := 5, cells := 0, slots := 0, locals := 179 }
def wX3_easeBanks_4_b (z : Nat × Nat) (b : Nat) (Q : Unit → jM → Prop) (ih : Int32 → Int32 → jM → Prop) (x1 : Int32) (x2 : Int32) (μ : jM) : Prop :=
  ((x1 = 0) → (Q () μ)) ∧ (¬ (x1 = 0) → ((((1000000 : Int32) ≤ x2) → (Q () μ)) ∧ (¬ ((1000000 : Int32) ≤ x2) → ((∃ fs, μ b = some (.inr (6, fs))) ∧ wX3_measureBanks z b  μ (fun _ μ2 => (∃ fs, μ2 b = some (.inr (6, fs))) ∧ wX3_findGiver z b  μ2 (fun v3 μ4 => ((v3 = none) → (∀ v5 : Int32, v5 = (0 : Int32) → (∀ v6 : Int32, v6 = x2 + (1 : Int32) → (ih v5 v6 μ4)))) ∧ (¬ (v3 = none) → (wX3_moveAway z v3 μ4 (fun v7 μ8 => ((v7 = 0) → (∀ v9 : Int32, v9 = (0 : Int32) → (∀ v10 : Int32, v10 = x2 + (1 : Int32) → (ih v9 v10 μ8)))) ∧ (¬ (v7 = 0) → (∀ v11 : Int32, v11 = (1 : Int32) → (∀ v12 : Int32, v12 = x2 + (1 : Int32) → (ih v11 v12 μ8)))))))))))))
def wX3_easeBanks_4 (z : Nat × Nat) (b : Nat) (Q : Unit → jM → Prop) (n : Nat) : Int32 → Int32 → jM → Prop := Nat.rec (motive := fun _ => Int32 → Int32 → jM → Prop) (fun _ _ _ => False) (fun _ ih => wX3_easeBanks_4_b z b Q ih) n
def wX3_easeBanks_0 (z : Nat × Nat) (b : Nat) (Q : Unit → jM → Prop)  (μ : jM) : Prop :=
  ∀ v1 : Int32, v1 = (1 : Int32) → (∀ v2 : Int32, v2 = (0 : Int32) → (∃ n3 : Nat, wX3_easeBanks_4 z b Q n3 v1 v2 μ))
def wX3_easeBanks (z : Nat × Nat) (b : Nat)  (μ : jM) (Q : Unit → jM → Prop) : Prop := wX3_easeBanks_0 z b Q  μ
/-! X7_accrue: accrue (JLjava/util/ArrayList;)V -/
abbrev rmX7_accrue : Room := { frames := 3, cells := 0, slots := 0, locals := 110 }
def wX7_accrue_37_b (z : Nat × Nat) (b : Nat) (Q : Unit → jM → Prop) (ih : Option Nat → Int32 → jM → Prop) (x3 : Option Nat) (x6 : Int32) (μ : jM) : Prop :=
  ∃ b3 : Nat, (x3 = some b3 ∧ ∃ fs, μ b3 = some (.inr (2, fs))) ∧ wJx4a65c_size_8abf5 z b3  μ (fun v1 μ2 => ((v1 ≤ x6) → (Q () μ2)) ∧ (¬ (v1 ≤ x6) → (∃ v4 : Option Nat, jg μ2 (some b) 10 4 = some (va_rf v4) ∧ (∃ v5 : Nat, jal μ2 v4 = some v5 ∧ ((((Int32.ofNat v5) ≤ x6) → (Q () μ2)) ∧ (¬ ((Int32.ofNat v5) ≤ x6) → (∃ v6 : Option Nat, jg μ2 (some b) 10 4 = some (va_rf v6) ∧ (∃ v7 : Int64, jaj μ2 v6 x6 = some v7 ∧ (∃ v8 : Int32, jg μ2 (some b) 10 1 = some (.int v8) ∧ (∃ b11 : Nat, (x3 = some b11 ∧ ∃ fs, μ2 b11 = some (.inr (2, fs))) ∧ wJx4a65c_get_915e3 z b11 x6 μ2 (fun v9 μ10 => jc μ10 v9 3 ∧ (∃ v13 : Int64, jg μ10 v9 3 8 = some (.long v13) ∧ (∃ μ14 : jM, jsj μ10 v6 x6 (v7 + (if (0 : Int64) < ((Int32.toInt64 v8) * v13) then ((Int32.toInt64 v8) * v13) else (0 : Int64))) = some μ14 ∧ (∀ v15 : Int32, v15 = x6 + (1 : Int32) → (ih x3 v15 μ14)))))))))))))))
def wX7_accrue_37 (z : Nat × Nat) (b : Nat) (Q : Unit → jM → Prop) (n : Nat) : Option Nat → Int32 → jM → Prop := Nat.rec (motive := fun _ => Option Nat → Int32 → jM → Prop) (fun _ _ _ => False) (fun _ ih => wX7_accrue_37_b z b Q ih) n
def wX7_accrue_0 (z : Nat × Nat) (b : Nat) (Q : Unit → jM → Prop) (x1 : Int64) (x3 : Option Nat) (μ : jM) : Prop :=
  ∃ v1 : Int32, jg μ (some b) 10 1 = some (.int v1) ∧ (∀ v2 : Int64, v2 = ((Int32.toInt64 v1) * x1) → ((((0 : Int64) < v2) → (∃ v3 : Int64, jg μ (some b) 10 2 = some (.long v3) ∧ (∃ v4 : Int32, jg μ (some b) 10 0 = some (.int v4) ∧ (∃ μ5 : jM, jp μ (some b) 10 2 (.long (v3 + (v2 * (Int32.toInt64 v4)))) = some μ5 ∧ (∀ v6 : Int32, v6 = (0 : Int32) → (∃ n7 : Nat, wX7_accrue_37 z b Q n7 x3 v6 μ5)))))) ∧ (¬ ((0 : Int64) < v2) → (Q () μ))))
def wX7_accrue (z : Nat × Nat) (b : Nat) (x1 : Int64) (x3 : Option Nat) (μ : jM) (Q : Unit → jM → Prop) : Prop := wX7_accrue_0 z b Q x1 x3 μ
/-! X6_accrue: accrue ()V -/
abbrev rmX6_accrue : Room := { frames := 4, cells := 0, slots := 0, locals := 136 }
def wX6_accrue_4_b (z : Nat × Nat) (b : Nat) (Q : Unit → jM → Prop) (ih : Int64 → Int32 → jM → Prop) (x1 : Int64) (x3 : Int32) (μ : jM) : Prop :=
  ∃ v1 : Option Nat, jg μ (some b) 9 3 = some (va_rf v1) ∧ (∃ b4 : Nat, (v1 = some b4 ∧ ∃ fs, μ b4 = some (.inr (2, fs))) ∧ wJx4a65c_size_8abf5 z b4  μ (fun v2 μ3 => ((v2 ≤ x3) → (∃ v5 : Option Nat, jg μ3 (some b) 9 1 = some (va_rf v5) ∧ (∃ v6 : Option Nat, jg μ3 (some b) 9 3 = some (va_rf v6) ∧ (∃ b9 : Nat, (v5 = some b9 ∧ ∃ fs, μ3 b9 = some (.inr (10, fs))) ∧ wX7_accrue z b9 x1 v6 μ3 (fun _ μ8 => ∃ v10 : Option Nat, jg μ8 (some b) 9 2 = some (va_rf v10) ∧ (∃ v11 : Option Nat, jg μ8 (some b) 9 3 = some (va_rf v11) ∧ (∃ b14 : Nat, (v10 = some b14 ∧ ∃ fs, μ8 b14 = some (.inr (10, fs))) ∧ wX7_accrue z b14 x1 v11 μ8 (fun _ μ13 => Q () μ13)))))))) ∧ (¬ (v2 ≤ x3) → (∃ v15 : Option Nat, jg μ3 (some b) 9 3 = some (va_rf v15) ∧ (∃ b18 : Nat, (v15 = some b18 ∧ ∃ fs, μ3 b18 = some (.inr (2, fs))) ∧ wJx4a65c_get_915e3 z b18 x3 μ3 (fun v16 μ17 => jc μ17 v16 3 ∧ (∃ v20 : Int64, jg μ17 v16 3 8 = some (.long v20) ∧ (∀ v21 : Int64, v21 = (x1 + v20) → (∀ v22 : Int32, v22 = x3 + (1 : Int32) → (ih v21 v22 μ17))))))))))
def wX6_accrue_4 (z : Nat × Nat) (b : Nat) (Q : Unit → jM → Prop) (n : Nat) : Int64 → Int32 → jM → Prop := Nat.rec (motive := fun _ => Int64 → Int32 → jM → Prop) (fun _ _ _ => False) (fun _ ih => wX6_accrue_4_b z b Q ih) n
def wX6_accrue_0 (z : Nat × Nat) (b : Nat) (Q : Unit → jM → Prop)  (μ : jM) : Prop :=
  ∀ v1 : Int64, v1 = (0 : Int64) → (∀ v2 : Int32, v2 = (0 : Int32) → (∃ n3 : Nat, wX6_accrue_4 z b Q n3 v1 v2 μ))
def wX6_accrue (z : Nat × Nat) (b : Nat)  (μ : jM) (Q : Unit → jM → Prop) : Prop := wX6_accrue_0 z b Q  μ
/-! X5_accrue: accrue ()V -/
abbrev rmX5_accrue : Room := { frames := 0, cells := 0, slots := 0, locals := 0 }
def wX5_accrue_0 (z : Nat × Nat) (b : Nat) (Q : Unit → jM → Prop)  (μ : jM) : Prop :=
  ∃ v1 : Int64, jg μ (some b) 8 5 = some (.long v1) ∧ (∃ v2 : Int64, jg μ (some b) 8 3 = some (.long v2) ∧ (∃ v3 : Int32, jg μ (some b) 8 2 = some (.int v3) ∧ (∃ μ4 : jM, jp μ (some b) 8 5 (.long (v1 + (v2 * (Int32.toInt64 v3)))) = some μ4 ∧ (Q () μ4))))
def wX5_accrue (z : Nat × Nat) (b : Nat)  (μ : jM) (Q : Unit → jM → Prop) : Prop := wX5_accrue_0 z b Q  μ
/-! X3_accrueInterest: accrueInterest ()V -/
abbrev rmX3_accrueInterest : Room := { frames := 5, cells := 0, slots := 0, locals := 159 }
def wX3_accrueInterest_38_b (z : Nat × Nat) (b : Nat) (Q : Unit → jM → Prop) (ih : Int32 → jM → Prop) (x1 : Int32) (μ : jM) : Prop :=
  ∃ v1 : Option Nat, jg μ (some b) 6 2 = some (va_rf v1) ∧ (∃ b4 : Nat, (v1 = some b4 ∧ ∃ fs, μ b4 = some (.inr (2, fs))) ∧ wJx4a65c_size_8abf5 z b4  μ (fun v2 μ3 => ((v2 ≤ x1) → (Q () μ3)) ∧ (¬ (v2 ≤ x1) → (∃ v5 : Option Nat, jg μ3 (some b) 6 2 = some (va_rf v5) ∧ (∃ b8 : Nat, (v5 = some b8 ∧ ∃ fs, μ3 b8 = some (.inr (2, fs))) ∧ wJx4a65c_get_915e3 z b8 x1 μ3 (fun v6 μ7 => jc μ7 v6 8 ∧ (∃ b12 : Nat, (v6 = some b12 ∧ ∃ fs, μ7 b12 = some (.inr (8, fs))) ∧ wX5_accrue z b12  μ7 (fun _ μ11 => ∀ v13 : Int32, v13 = x1 + (1 : Int32) → (ih v13 μ11)))))))))
def wX3_accrueInterest_38 (z : Nat × Nat) (b : Nat) (Q : Unit → jM → Prop) (n : Nat) : Int32 → jM → Prop := Nat.rec (motive := fun _ => Int32 → jM → Prop) (fun _ _ => False) (fun _ ih => wX3_accrueInterest_38_b z b Q ih) n
def wX3_accrueInterest_2_b (z : Nat × Nat) (b : Nat) (Q : Unit → jM → Prop) (ih : Int32 → jM → Prop) (x1 : Int32) (μ : jM) : Prop :=
  ∃ v1 : Option Nat, jg μ (some b) 6 1 = some (va_rf v1) ∧ (∃ b4 : Nat, (v1 = some b4 ∧ ∃ fs, μ b4 = some (.inr (2, fs))) ∧ wJx4a65c_size_8abf5 z b4  μ (fun v2 μ3 => ((v2 ≤ x1) → (∀ v5 : Int32, v5 = (0 : Int32) → (∃ n6 : Nat, wX3_accrueInterest_38 z b Q n6 v5 μ3))) ∧ (¬ (v2 ≤ x1) → (∃ v7 : Option Nat, jg μ3 (some b) 6 1 = some (va_rf v7) ∧ (∃ b10 : Nat, (v7 = some b10 ∧ ∃ fs, μ3 b10 = some (.inr (2, fs))) ∧ wJx4a65c_get_915e3 z b10 x1 μ3 (fun v8 μ9 => jc μ9 v8 3 ∧ (∃ v12 : Option Nat, jg μ9 v8 3 2 = some (va_rf v12) ∧ (∃ b15 : Nat, (v12 = some b15 ∧ ∃ fs, μ9 b15 = some (.inr (9, fs))) ∧ wX6_accrue z b15  μ9 (fun _ μ14 => ∀ v16 : Int32, v16 = x1 + (1 : Int32) → (ih v16 μ14))))))))))
def wX3_accrueInterest_2 (z : Nat × Nat) (b : Nat) (Q : Unit → jM → Prop) (n : Nat) : Int32 → jM → Prop := Nat.rec (motive := fun _ => Int32 → jM → Prop) (fun _ _ => False) (fun _ ih => wX3_accrueInterest_2_b z b Q ih) n
def wX3_accrueInterest_0 (z : Nat × Nat) (b : Nat) (Q : Unit → jM → Prop)  (μ : jM) : Prop :=
  ∀ v1 : Int32, v1 = (0 : Int32) → (∃ n2 : Nat, wX3_accrueInterest_2 z b Q n2 v1 μ)
def wX3_accrueInterest (z : Nat × Nat) (b : Nat)  (μ : jM) (Q : Unit → jM → Prop) : Prop := wX3_accrueInterest_0 z b Q  μ
/-! X7_giveCents: giveCents (J)V -/
abbrev rmX7_giveCents : Room := { frames := 0, cells := 0, slots := 0, locals := 0 }
def wX7_giveCents_24_b (z : Nat × Nat) (b : Nat) (K2 : Int64 → Int32 → jM → Prop) (Q : Unit → jM → Prop) (ih : Int64 → Int32 → Int32 → Int32 → jM → Prop) (x1 : Int64) (x3 : Int32) (x4 : Int32) (x5 : Int32) (μ : jM) : Prop :=
  ∃ v1 : Option Nat, jg μ (some b) 10 6 = some (va_rf v1) ∧ (∃ v2 : Nat, jal μ v1 = some v2 ∧ ((((Int32.ofNat v2) ≤ x5) → (∃ v3 : Option Nat, jg μ (some b) 10 5 = some (va_rf v3) ∧ (∃ v4 : Int64, jaj μ v3 x4 = some v4 ∧ (∃ μ5 : jM, jsj μ v3 x4 (v4 + (1 : Int64)) = some μ5 ∧ (∃ v6 : Option Nat, jg μ5 (some b) 10 6 = some (va_rf v6) ∧ (∃ μ7 : jM, jsj μ5 v6 x4 (-1 : Int64) = some μ7 ∧ (∀ v8 : Int32, v8 = x3 + (1 : Int32) → (K2 x1 v8 μ7)))))))) ∧ (¬ ((Int32.ofNat v2) ≤ x5) → (∃ v9 : Option Nat, jg μ (some b) 10 6 = some (va_rf v9) ∧ (∃ v10 : Int64, jaj μ v9 x5 = some v10 ∧ (∃ v11 : Option Nat, jg μ (some b) 10 6 = some (va_rf v11) ∧ (∃ v12 : Int64, jaj μ v11 x4 = some v12 ∧ (((v10 ≤ v12) → (∀ v13 : Int32, v13 = x5 + (1 : Int32) → (ih x1 x3 x4 v13 μ))) ∧ (¬ (v10 ≤ v12) → (∀ v14 : Int32, v14 = x5 + (1 : Int32) → (ih x1 x3 x5 v14 μ)))))))))))
def wX7_giveCents_24 (z : Nat × Nat) (b : Nat) (K2 : Int64 → Int32 → jM → Prop) (Q : Unit → jM → Prop) (n : Nat) : Int64 → Int32 → Int32 → Int32 → jM → Prop := Nat.rec (motive := fun _ => Int64 → Int32 → Int32 → Int32 → jM → Prop) (fun _ _ _ _ _ => False) (fun _ ih => wX7_giveCents_24_b z b K2 Q ih) n
def wX7_giveCents_2_b (z : Nat × Nat) (b : Nat) (Q : Unit → jM → Prop) (ih : Int64 → Int32 → jM → Prop) (x1 : Int64) (x3 : Int32) (μ : jM) : Prop :=
  ((x1 ≤ (Int32.toInt64 x3)) → (Q () μ)) ∧ (¬ (x1 ≤ (Int32.toInt64 x3)) → (∃ v1 : Option Nat, jg μ (some b) 10 5 = some (va_rf v1) ∧ (∃ v2 : Nat, jal μ v1 = some v2 ∧ ((((Int32.ofNat v2) ≤ x3) → (Q () μ)) ∧ (¬ ((Int32.ofNat v2) ≤ x3) → (∀ v3 : Int32, v3 = (0 : Int32) → (∀ v4 : Int32, v4 = (1 : Int32) → (∃ n5 : Nat, wX7_giveCents_24 z b ih Q n5 x1 x3 v3 v4 μ))))))))
def wX7_giveCents_2 (z : Nat × Nat) (b : Nat) (Q : Unit → jM → Prop) (n : Nat) : Int64 → Int32 → jM → Prop := Nat.rec (motive := fun _ => Int64 → Int32 → jM → Prop) (fun _ _ _ => False) (fun _ ih => wX7_giveCents_2_b z b Q ih) n
def wX7_giveCents_0 (z : Nat × Nat) (b : Nat) (Q : Unit → jM → Prop) (x1 : Int64) (μ : jM) : Prop :=
  ∀ v1 : Int32, v1 = (0 : Int32) → (∃ n2 : Nat, wX7_giveCents_2 z b Q n2 x1 v1 μ)
def wX7_giveCents (z : Nat × Nat) (b : Nat) (x1 : Int64) (μ : jM) (Q : Unit → jM → Prop) : Prop := wX7_giveCents_0 z b Q x1 μ
/-! X7_split: split (J)V -/
abbrev rmX7_split : Room := { frames := 1, cells := 0, slots := 0, locals := 25 }
def wX7_split_52_b (z : Nat × Nat) (b : Nat) (Q : Unit → jM → Prop) (ih : Int64 → Int64 → Int64 → Int32 → jM → Prop) (x1 : Int64) (x3 : Int64) (x5 : Int64) (x7 : Int32) (μ : jM) : Prop :=
  ∃ v1 : Option Nat, jg μ (some b) 10 4 = some (va_rf v1) ∧ (∃ v2 : Nat, jal μ v1 = some v2 ∧ ((((Int32.ofNat v2) ≤ x7) → ((∃ fs, μ b = some (.inr (10, fs))) ∧ wX7_giveCents z b x5 μ (fun _ μ4 => Q () μ4))) ∧ (¬ ((Int32.ofNat v2) ≤ x7) → (∃ v5 : Option Nat, jg μ (some b) 10 4 = some (va_rf v5) ∧ (∃ v6 : Int64, jaj μ v5 x7 = some v6 ∧ (∀ v7 : Int64, v7 = (x1 * v6) → (∃ v8 : Option Nat, jg μ (some b) 10 5 = some (va_rf v8) ∧ ((¬ x3 = 0) ∧ (∃ μ10 : jM, jsj μ v8 x7 (v7 / x3) = some μ10 ∧ (∃ v11 : Option Nat, jg μ10 (some b) 10 6 = some (va_rf v11) ∧ ((¬ x3 = 0) ∧ (∃ μ13 : jM, jsj μ10 v11 x7 (v7 - v7 / x3 * x3) = some μ13 ∧ (∃ v14 : Option Nat, jg μ13 (some b) 10 5 = some (va_rf v14) ∧ (∃ v15 : Int64, jaj μ13 v14 x7 = some v15 ∧ (∀ v16 : Int64, v16 = (x5 - v15) → (∀ v17 : Int32, v17 = x7 + (1 : Int32) → (ih x1 x3 v16 v17 μ13)))))))))))))))))
def wX7_split_52 (z : Nat × Nat) (b : Nat) (Q : Unit → jM → Prop) (n : Nat) : Int64 → Int64 → Int64 → Int32 → jM → Prop := Nat.rec (motive := fun _ => Int64 → Int64 → Int64 → Int32 → jM → Prop) (fun _ _ _ _ _ => False) (fun _ ih => wX7_split_52_b z b Q ih) n
def wX7_split_5_b (z : Nat × Nat) (b : Nat) (Q : Unit → jM → Prop) (ih : Int64 → Int64 → Int32 → jM → Prop) (x1 : Int64) (x3 : Int64) (x5 : Int32) (μ : jM) : Prop :=
  ∃ v1 : Option Nat, jg μ (some b) 10 4 = some (va_rf v1) ∧ (∃ v2 : Nat, jal μ v1 = some v2 ∧ ((((Int32.ofNat v2) ≤ x5) → ((((0 : Int64) < x3) → (∀ v3 : Int32, v3 = (0 : Int32) → (∃ n4 : Nat, wX7_split_52 z b Q n4 x1 x3 x1 v3 μ))) ∧ (¬ ((0 : Int64) < x3) → (Q () μ)))) ∧ (¬ ((Int32.ofNat v2) ≤ x5) → (∃ v5 : Option Nat, jg μ (some b) 10 4 = some (va_rf v5) ∧ (∃ v6 : Int64, jaj μ v5 x5 = some v6 ∧ (∀ v7 : Int64, v7 = (x3 + v6) → (∃ v8 : Option Nat, jg μ (some b) 10 5 = some (va_rf v8) ∧ (∃ μ9 : jM, jsj μ v8 x5 (0 : Int64) = some μ9 ∧ (∀ v10 : Int32, v10 = x5 + (1 : Int32) → (ih x1 v7 v10 μ9))))))))))
def wX7_split_5 (z : Nat × Nat) (b : Nat) (Q : Unit → jM → Prop) (n : Nat) : Int64 → Int64 → Int32 → jM → Prop := Nat.rec (motive := fun _ => Int64 → Int64 → Int32 → jM → Prop) (fun _ _ _ _ => False) (fun _ ih => wX7_split_5_b z b Q ih) n
def wX7_split_0 (z : Nat × Nat) (b : Nat) (Q : Unit → jM → Prop) (x1 : Int64) (μ : jM) : Prop :=
  ∀ v1 : Int64, v1 = (0 : Int64) → (∀ v2 : Int32, v2 = (0 : Int32) → (∃ n3 : Nat, wX7_split_5 z b Q n3 x1 v1 v2 μ))
def wX7_split (z : Nat × Nat) (b : Nat) (x1 : Int64) (μ : jM) (Q : Unit → jM → Prop) : Prop := wX7_split_0 z b Q x1 μ
/-! X0_addInterest: addInterest (J)V -/
abbrev rmX0_addInterest : Room := { frames := 0, cells := 0, slots := 0, locals := 0 }
def wX0_addInterest_0 (z : Nat × Nat) (b : Nat) (Q : Unit → jM → Prop) (x1 : Int64) (μ : jM) : Prop :=
  ∃ v1 : Int64, jg μ (some b) 3 8 = some (.long v1) ∧ (∃ μ2 : jM, jp μ (some b) 3 8 (.long (v1 + x1)) = some μ2 ∧ (∃ v3 : Int64, jg μ2 (some b) 3 9 = some (.long v3) ∧ (∃ μ4 : jM, jp μ2 (some b) 3 9 (.long (v3 + x1)) = some μ4 ∧ (Q () μ4))))
def wX0_addInterest (z : Nat × Nat) (b : Nat) (x1 : Int64) (μ : jM) (Q : Unit → jM → Prop) : Prop := wX0_addInterest_0 z b Q x1 μ
/-! X7_bookTo: bookTo (Ljava/util/ArrayList;)V -/
abbrev rmX7_bookTo : Room := { frames := 3, cells := 0, slots := 0, locals := 64 }
def wX7_bookTo_41_b (z : Nat × Nat) (b : Nat) (Q : Unit → jM → Prop) (ih : Option Nat → Int32 → jM → Prop) (x1 : Option Nat) (x4 : Int32) (μ : jM) : Prop :=
  ∃ v1 : Option Nat, jg μ (some b) 10 4 = some (va_rf v1) ∧ (∃ v2 : Nat, jal μ v1 = some v2 ∧ ((((Int32.ofNat v2) ≤ x4) → (Q () μ)) ∧ (¬ ((Int32.ofNat v2) ≤ x4) → (∃ b5 : Nat, (x1 = some b5 ∧ ∃ fs, μ b5 = some (.inr (2, fs))) ∧ wJx4a65c_size_8abf5 z b5  μ (fun v3 μ4 => ((v3 ≤ x4) → (∃ v6 : Option Nat, jg μ4 (some b) 10 4 = some (va_rf v6) ∧ (∃ μ7 : jM, jsj μ4 v6 x4 (0 : Int64) = some μ7 ∧ (∀ v8 : Int32, v8 = x4 + (1 : Int32) → (ih x1 v8 μ7))))) ∧ (¬ (v3 ≤ x4) → (∃ b11 : Nat, (x1 = some b11 ∧ ∃ fs, μ4 b11 = some (.inr (2, fs))) ∧ wJx4a65c_get_915e3 z b11 x4 μ4 (fun v9 μ10 => jc μ10 v9 3 ∧ (∃ v13 : Int32, jg μ10 (some b) 10 1 = some (.int v13) ∧ (∃ v14 : Option Nat, jg μ10 (some b) 10 5 = some (va_rf v14) ∧ (∃ v15 : Int64, jaj μ10 v14 x4 = some v15 ∧ (∃ b18 : Nat, (v9 = some b18 ∧ ∃ fs, μ10 b18 = some (.inr (3, fs))) ∧ wX0_addInterest z b18 ((Int32.toInt64 v13) * v15) μ10 (fun _ μ17 => ∃ v19 : Option Nat, jg μ17 (some b) 10 4 = some (va_rf v19) ∧ (∃ μ20 : jM, jsj μ17 v19 x4 (0 : Int64) = some μ20 ∧ (∀ v21 : Int32, v21 = x4 + (1 : Int32) → (ih x1 v21 μ20))))))))))))))))
def wX7_bookTo_41 (z : Nat × Nat) (b : Nat) (Q : Unit → jM → Prop) (n : Nat) : Option Nat → Int32 → jM → Prop := Nat.rec (motive := fun _ => Option Nat → Int32 → jM → Prop) (fun _ _ _ => False) (fun _ ih => wX7_bookTo_41_b z b Q ih) n
def wX7_bookTo_0 (z : Nat × Nat) (b : Nat) (Q : Unit → jM → Prop) (x1 : Option Nat) (μ : jM) : Prop :=
  ∃ v1 : Int64, jg μ (some b) 10 2 = some (.long v1) ∧ (∀ v2 : Int64, v2 = (v1 / (3600000 : Int64)) → (∃ v3 : Int64, jg μ (some b) 10 2 = some (.long v3) ∧ (∃ μ4 : jM, jp μ (some b) 10 2 (.long (v3 - (v2 * (3600000 : Int64)))) = some μ4 ∧ (∃ v5 : Int64, jg μ4 (some b) 10 3 = some (.long v5) ∧ (∃ μ6 : jM, jp μ4 (some b) 10 3 (.long (v5 + v2)) = some μ6 ∧ ((∃ fs, μ6 b = some (.inr (10, fs))) ∧ wX7_split z b v2 μ6 (fun _ μ8 => ∀ v9 : Int32, v9 = (0 : Int32) → (∃ n10 : Nat, wX7_bookTo_41 z b Q n10 x1 v9 μ8))))))))
def wX7_bookTo (z : Nat × Nat) (b : Nat) (x1 : Option Nat) (μ : jM) (Q : Unit → jM → Prop) : Prop := wX7_bookTo_0 z b Q x1 μ
/-! X6_bookInterest: bookInterest ()V -/
abbrev rmX6_bookInterest : Room := { frames := 4, cells := 0, slots := 0, locals := 88 }
def wX6_bookInterest_0 (z : Nat × Nat) (b : Nat) (Q : Unit → jM → Prop)  (μ : jM) : Prop :=
  ∃ v1 : Option Nat, jg μ (some b) 9 1 = some (va_rf v1) ∧ (∃ v2 : Option Nat, jg μ (some b) 9 3 = some (va_rf v2) ∧ (∃ b5 : Nat, (v1 = some b5 ∧ ∃ fs, μ b5 = some (.inr (10, fs))) ∧ wX7_bookTo z b5 v2 μ (fun _ μ4 => ∃ v6 : Option Nat, jg μ4 (some b) 9 2 = some (va_rf v6) ∧ (∃ v7 : Option Nat, jg μ4 (some b) 9 3 = some (va_rf v7) ∧ (∃ b10 : Nat, (v6 = some b10 ∧ ∃ fs, μ4 b10 = some (.inr (10, fs))) ∧ wX7_bookTo z b10 v7 μ4 (fun _ μ9 => Q () μ9))))))
def wX6_bookInterest (z : Nat × Nat) (b : Nat)  (μ : jM) (Q : Unit → jM → Prop) : Prop := wX6_bookInterest_0 z b Q  μ
/-! X5_bookInterest: bookInterest ()V -/
abbrev rmX5_bookInterest : Room := { frames := 0, cells := 0, slots := 0, locals := 0 }
def wX5_bookInterest_0 (z : Nat × Nat) (b : Nat) (Q : Unit → jM → Prop)  (μ : jM) : Prop :=
  ∃ v1 : Int64, jg μ (some b) 8 5 = some (.long v1) ∧ (∀ v2 : Int64, v2 = (v1 / (3600000 : Int64)) → (∃ v3 : Int64, jg μ (some b) 8 5 = some (.long v3) ∧ (∃ μ4 : jM, jp μ (some b) 8 5 (.long (v3 - (v2 * (3600000 : Int64)))) = some μ4 ∧ (∃ v5 : Int64, jg μ4 (some b) 8 4 = some (.long v5) ∧ (∃ μ6 : jM, jp μ4 (some b) 8 4 (.long (v5 + v2)) = some μ6 ∧ (∃ v7 : Option Nat, jg μ6 (some b) 8 0 = some (va_rf v7) ∧ (∃ v8 : Int64, jg μ6 v7 3 8 = some (.long v8) ∧ (∃ μ9 : jM, jp μ6 v7 3 8 (.long (v8 - v2)) = some μ9 ∧ (Q () μ9)))))))))
def wX5_bookInterest (z : Nat × Nat) (b : Nat)  (μ : jM) (Q : Unit → jM → Prop) : Prop := wX5_bookInterest_0 z b Q  μ
/-! X3_bookInterest: bookInterest ()V -/
abbrev rmX3_bookInterest : Room := { frames := 5, cells := 0, slots := 0, locals := 108 }
def wX3_bookInterest_38_b (z : Nat × Nat) (b : Nat) (Q : Unit → jM → Prop) (ih : Int32 → jM → Prop) (x1 : Int32) (μ : jM) : Prop :=
  ∃ v1 : Option Nat, jg μ (some b) 6 2 = some (va_rf v1) ∧ (∃ b4 : Nat, (v1 = some b4 ∧ ∃ fs, μ b4 = some (.inr (2, fs))) ∧ wJx4a65c_size_8abf5 z b4  μ (fun v2 μ3 => ((v2 ≤ x1) → (Q () μ3)) ∧ (¬ (v2 ≤ x1) → (∃ v5 : Option Nat, jg μ3 (some b) 6 2 = some (va_rf v5) ∧ (∃ b8 : Nat, (v5 = some b8 ∧ ∃ fs, μ3 b8 = some (.inr (2, fs))) ∧ wJx4a65c_get_915e3 z b8 x1 μ3 (fun v6 μ7 => jc μ7 v6 8 ∧ (∃ b12 : Nat, (v6 = some b12 ∧ ∃ fs, μ7 b12 = some (.inr (8, fs))) ∧ wX5_bookInterest z b12  μ7 (fun _ μ11 => ∀ v13 : Int32, v13 = x1 + (1 : Int32) → (ih v13 μ11)))))))))
def wX3_bookInterest_38 (z : Nat × Nat) (b : Nat) (Q : Unit → jM → Prop) (n : Nat) : Int32 → jM → Prop := Nat.rec (motive := fun _ => Int32 → jM → Prop) (fun _ _ => False) (fun _ ih => wX3_bookInterest_38_b z b Q ih) n
def wX3_bookInterest_2_b (z : Nat × Nat) (b : Nat) (Q : Unit → jM → Prop) (ih : Int32 → jM → Prop) (x1 : Int32) (μ : jM) : Prop :=
  ∃ v1 : Option Nat, jg μ (some b) 6 1 = some (va_rf v1) ∧ (∃ b4 : Nat, (v1 = some b4 ∧ ∃ fs, μ b4 = some (.inr (2, fs))) ∧ wJx4a65c_size_8abf5 z b4  μ (fun v2 μ3 => ((v2 ≤ x1) → (∀ v5 : Int32, v5 = (0 : Int32) → (∃ n6 : Nat, wX3_bookInterest_38 z b Q n6 v5 μ3))) ∧ (¬ (v2 ≤ x1) → (∃ v7 : Option Nat, jg μ3 (some b) 6 1 = some (va_rf v7) ∧ (∃ b10 : Nat, (v7 = some b10 ∧ ∃ fs, μ3 b10 = some (.inr (2, fs))) ∧ wJx4a65c_get_915e3 z b10 x1 μ3 (fun v8 μ9 => jc μ9 v8 3 ∧ (∃ v12 : Option Nat, jg μ9 v8 3 2 = some (va_rf v12) ∧ (∃ b15 : Nat, (v12 = some b15 ∧ ∃ fs, μ9 b15 = some (.inr (9, fs))) ∧ wX6_bookInterest z b15  μ9 (fun _ μ14 => ∀ v16 : Int32, v16 = x1 + (1 : Int32) → (ih v16 μ14))))))))))
def wX3_bookInterest_2 (z : Nat × Nat) (b : Nat) (Q : Unit → jM → Prop) (n : Nat) : Int32 → jM → Prop := Nat.rec (motive := fun _ => Int32 → jM → Prop) (fun _ _ => False) (fun _ ih => wX3_bookInterest_2_b z b Q ih) n
def wX3_bookInterest_0 (z : Nat × Nat) (b : Nat) (Q : Unit → jM → Prop)  (μ : jM) : Prop :=
  ∀ v1 : Int32, v1 = (0 : Int32) → (∃ n2 : Nat, wX3_bookInterest_2 z b Q n2 v1 μ)
def wX3_bookInterest (z : Nat × Nat) (b : Nat)  (μ : jM) (Q : Unit → jM → Prop) : Prop := wX3_bookInterest_0 z b Q  μ
/-! X3_passDay: passDay ()V -/
abbrev rmX3_passDay : Room := { frames := 18, cells := 0, slots := 0, locals := 500 }
def wX3_passDay_30 (z : Nat × Nat) (b : Nat) (Q : Unit → jM → Prop)  (μ : jM) : Prop :=
  (∃ fs, μ b = some (.inr (6, fs))) ∧ wX3_accrueInterest z b  μ (fun _ μ2 => ∃ v3 : Int32, jg μ2 (some b) 6 6 = some (.int v3) ∧ (((¬ ((v3 + (1 : Int32)) - (v3 + (1 : Int32)) / (20 : Int32) * (20 : Int32)) = 0) → (∃ v4 : Int32, jg μ2 (some b) 6 6 = some (.int v4) ∧ (∃ μ5 : jM, jp μ2 (some b) 6 6 (.int (v4 + (1 : Int32))) = some μ5 ∧ (Q () μ5)))) ∧ (((v3 + (1 : Int32)) - (v3 + (1 : Int32)) / (20 : Int32) * (20 : Int32)) = 0 → ((∃ fs, μ2 b = some (.inr (6, fs))) ∧ wX3_bookInterest z b  μ2 (fun _ μ7 => ∃ v8 : Int32, jg μ7 (some b) 6 6 = some (.int v8) ∧ (∃ μ9 : jM, jp μ7 (some b) 6 6 (.int (v8 + (1 : Int32))) = some μ9 ∧ (Q () μ9)))))))
def wX3_passDay_0 (z : Nat × Nat) (b : Nat) (Q : Unit → jM → Prop)  (μ : jM) : Prop :=
  ∃ v1 : Option Nat, jg μ (some b) 6 5 = some (va_rf v1) ∧ (∃ v2 : Int32, jg μ (some b) 6 6 = some (.int v2) ∧ (∃ b5 : Nat, (v1 = some b5 ∧ ∃ fs, μ b5 = some (.inr (5, fs))) ∧ wX2_settles z b5 v2 μ (fun v3 μ4 => ((v3 = 0) → (wX3_passDay_30 z b Q  μ4)) ∧ (¬ (v3 = 0) → ((∃ fs, μ4 b = some (.inr (6, fs))) ∧ wX3_bookDueFlows z b  μ4 (fun _ μ7 => (∃ fs, μ7 b = some (.inr (6, fs))) ∧ wX3_sweepPools z b  μ7 (fun _ μ9 => (∃ fs, μ9 b = some (.inr (6, fs))) ∧ wX3_coverPools z b  μ9 (fun _ μ11 => (∃ fs, μ11 b = some (.inr (6, fs))) ∧ wX3_easeBanks z b  μ11 (fun _ μ13 => wX3_passDay_30 z b Q  μ13)))))))))
def wX3_passDay (z : Nat × Nat) (b : Nat)  (μ : jM) (Q : Unit → jM → Prop) : Prop := wX3_passDay_0 z b Q  μ
/-! X9_passDays: passDays (I)I -/
abbrev rmX9_passDays : Room := { frames := 19, cells := 2, slots := 12, locals := 520 }
def wX9_passDays_34_b (z : Nat × Nat) (b : Nat) (Q : Int32 → jM → Prop) (X : String → jM → Prop) (ih : Int32 → Int32 → jM → Prop) (x1 : Int32) (x2 : Int32) (μ : jM) : Prop :=
  ((x1 ≤ x2) → (∃ v1 : Option Nat, jg μ (some b) 11 0 = some (va_rf v1) ∧ (∃ v2 : Int32, jg μ v1 6 6 = some (.int v2) ∧ (Q v2 μ)))) ∧ (¬ (x1 ≤ x2) → (∃ v3 : Option Nat, jg μ (some b) 11 0 = some (va_rf v3) ∧ (∃ b6 : Nat, (v3 = some b6 ∧ ∃ fs, μ b6 = some (.inr (6, fs))) ∧ wX3_passDay z b6  μ (fun _ μ5 => ∀ v7 : Int32, v7 = x2 + (1 : Int32) → (ih x1 v7 μ5)))))
def wX9_passDays_34 (z : Nat × Nat) (b : Nat) (Q : Int32 → jM → Prop) (X : String → jM → Prop) (n : Nat) : Int32 → Int32 → jM → Prop := Nat.rec (motive := fun _ => Int32 → Int32 → jM → Prop) (fun _ _ _ => False) (fun _ ih => wX9_passDays_34_b z b Q X ih) n
def wX9_passDays_0 (z : Nat × Nat) (b : Nat) (Q : Int32 → jM → Prop) (X : String → jM → Prop) (x1 : Int32) (μ : jM) : Prop :=
  wX9_requireWithin z x1 (1 : Int32) (60 : Int32) μ (fun _ μ2 => ∃ v3 : Option Nat, jg μ2 (some b) 11 0 = some (va_rf v3) ∧ (∃ v4 : Int32, jg μ2 v3 6 6 = some (.int v4) ∧ ((((v4 + x1) ≤ (400 : Int32)) → (∀ v5 : Int32, v5 = (0 : Int32) → (∃ n6 : Nat, wX9_passDays_34 z b Q X n6 x1 v5 μ2))) ∧ (¬ ((v4 + x1) ≤ (400 : Int32)) → (X "java/lang/IllegalStateException" μ2))))) X
def wX9_passDays (z : Nat × Nat) (b : Nat) (x1 : Int32) (μ : jM) (Q : Int32 → jM → Prop) (X : String → jM → Prop) : Prop := wX9_passDays_0 z b Q X x1 μ
/-! L_passDays: passDays (LCashPools;I[J)I -/
abbrev rmL_passDays : Room := { frames := 20, cells := 2, slots := 12, locals := 542 }
def wL_passDays_0 (z : Nat × Nat) (Q : Int32 → jM → Prop) (x0 : Option Nat) (x1 : Int32) (x2 : Option Nat) (μ : jM) : Prop :=
  ∃ b3 : Nat, (x0 = some b3 ∧ ∃ fs, μ b3 = some (.inr (11, fs))) ∧ wX9_passDays z b3 x1 μ (fun v1 μ2 => ∃ μ4 : jM, jsj μ2 x2 (0 : Int32) (Int32.toInt64 v1) = some μ4 ∧ (Q (0 : Int32) μ4)) (fun E μE => (E = "java/lang/IllegalArgumentException" → (Q (1 : Int32) μE)) ∧ (E = "java/lang/IllegalStateException" → (Q (2 : Int32) μE)) ∧ (E = "java/lang/IllegalArgumentException" ∨ E = "java/lang/IllegalStateException"))
def wL_passDays (z : Nat × Nat) (x0 : Option Nat) (x1 : Int32) (x2 : Option Nat) (μ : jM) (Q : Int32 → jM → Prop) : Prop := wL_passDays_0 z Q x0 x1 x2 μ
/-! X9_requireAmount: requireAmount (I)V -/
abbrev rmX9_requireAmount : Room := { frames := 7, cells := 2, slots := 12, locals := 114 }
def wX9_requireAmount_0 (z : Nat × Nat) (Q : Unit → jM → Prop) (X : String → jM → Prop) (x0 : Int32) (μ : jM) : Prop :=
  wX9_requireWithin z x0 (-1000000 : Int32) (1000000 : Int32) μ (fun _ μ2 => ((¬ x0 = 0) → (Q () μ2)) ∧ (x0 = 0 → (X "java/lang/IllegalArgumentException" μ2))) X
def wX9_requireAmount (z : Nat × Nat) (x0 : Int32) (μ : jM) (Q : Unit → jM → Prop) (X : String → jM → Prop) : Prop := wX9_requireAmount_0 z Q X x0 μ
/-! X9_book: book (II)J -/
abbrev rmX9_book : Room := { frames := 8, cells := 3, slots := 18, locals := 134 }
def wX9_book_0 (z : Nat × Nat) (b : Nat) (Q : Int64 → jM → Prop) (X : String → jM → Prop) (x1 : Int32) (x2 : Int32) (μ : jM) : Prop :=
  (∃ fs, μ b = some (.inr (11, fs))) ∧ wX9_accountAt z b x1 μ (fun v1 μ2 => wX9_requireAmount z x2 μ2 (fun _ μ4 => ∃ v5 : Int64, jg μ4 v1 3 8 = some (.long v5) ∧ (∃ μ6 : jM, jp μ4 v1 3 8 (.long (v5 + (Int32.toInt64 x2))) = some μ6 ∧ (∃ v7 : Int64, jg μ6 v1 3 8 = some (.long v7) ∧ (Q v7 μ6)))) X) X
def wX9_book (z : Nat × Nat) (b : Nat) (x1 : Int32) (x2 : Int32) (μ : jM) (Q : Int64 → jM → Prop) (X : String → jM → Prop) : Prop := wX9_book_0 z b Q X x1 x2 μ
/-! L_book: book (LCashPools;II[J)I -/
abbrev rmL_book : Room := { frames := 9, cells := 3, slots := 18, locals := 157 }
def wL_book_0 (z : Nat × Nat) (Q : Int32 → jM → Prop) (x0 : Option Nat) (x1 : Int32) (x2 : Int32) (x3 : Option Nat) (μ : jM) : Prop :=
  ∃ b3 : Nat, (x0 = some b3 ∧ ∃ fs, μ b3 = some (.inr (11, fs))) ∧ wX9_book z b3 x1 x2 μ (fun v1 μ2 => ∃ μ4 : jM, jsj μ2 x3 (0 : Int32) v1 = some μ4 ∧ (Q (0 : Int32) μ4)) (fun E μE => (E = "java/lang/IndexOutOfBoundsException" → (Q (1 : Int32) μE)) ∧ (E = "java/lang/IllegalArgumentException" → (Q (2 : Int32) μE)) ∧ (E = "java/lang/IndexOutOfBoundsException" ∨ E = "java/lang/IllegalArgumentException"))
def wL_book (z : Nat × Nat) (x0 : Option Nat) (x1 : Int32) (x2 : Int32) (x3 : Option Nat) (μ : jM) (Q : Int32 → jM → Prop) : Prop := wL_book_0 z Q x0 x1 x2 x3 μ
/-! X4_init: <init> (LCashPools$Account;IIII)V -/
abbrev rmX4_init : Room := { frames := 1, cells := 0, slots := 0, locals := 110 }
def wX4_init_0 (z : Nat × Nat) (b : Nat) (Q : Unit → jM → Prop) (x1 : Option Nat) (x2 : Int32) (x3 : Int32) (x4 : Int32) (x5 : Int32) (μ : jM) : Prop :=
  ∃ μ1 : jM, jp μ (some b) 7 0 (va_rf x1) = some μ1 ∧ (∃ μ2 : jM, jp μ1 (some b) 7 1 (.int x2) = some μ2 ∧ (∃ μ3 : jM, jp μ2 (some b) 7 2 (.int x4) = some μ3 ∧ (∃ μ4 : jM, jp μ3 (some b) 7 3 (.int x3) = some μ4 ∧ (∃ μ5 : jM, jp μ4 (some b) 7 4 (.int x5) = some μ5 ∧ (Q () μ5)))))
def wX4_init (z : Nat × Nat) (b : Nat) (x1 : Option Nat) (x2 : Int32) (x3 : Int32) (x4 : Int32) (x5 : Int32) (μ : jM) (Q : Unit → jM → Prop) : Prop := wX4_init_0 z b Q x1 x2 x3 x4 x5 μ
/-! X9_schedule: schedule (IIIII)I -/
abbrev rmX9_schedule : Room := { frames := 8, cells := 8, slots := 75, locals := 241 }
def wX9_schedule_0 (z : Nat × Nat) (b : Nat) (Q : Int32 → jM → Prop) (X : String → jM → Prop) (x1 : Int32) (x2 : Int32) (x3 : Int32) (x4 : Int32) (x5 : Int32) (μ : jM) : Prop :=
  (∃ fs, μ b = some (.inr (11, fs))) ∧ wX9_accountAt z b x1 μ (fun v1 μ2 => wX9_requireAmount z x2 μ2 (fun _ μ4 => ∃ v5 : Option Nat, jg μ4 (some b) 11 0 = some (va_rf v5) ∧ (∃ v6 : Int32, jg μ4 v5 6 6 = some (.int v6) ∧ (wX9_requireWithin z x3 v6 (450 : Int32) μ4 (fun _ μ8 => wX9_requireWithin z x4 (1 : Int32) (100 : Int32) μ8 (fun _ μ10 => wX9_requireWithin z x5 (1 : Int32) (30 : Int32) μ10 (fun _ μ12 => ∃ v13 : Option Nat, jg μ12 (some b) 11 0 = some (va_rf v13) ∧ (∃ v14 : Option Nat, jg μ12 v13 6 3 = some (va_rf v14) ∧ (∃ b17 : Nat, (v14 = some b17 ∧ ∃ fs, μ12 b17 = some (.inr (2, fs))) ∧ wJx4a65c_size_8abf5 z b17  μ12 (fun v15 μ16 => ((v15 < (20 : Int32)) → (∃ v18 : Option Nat, jg μ16 (some b) 11 0 = some (va_rf v18) ∧ (∃ v19 : Option Nat, jg μ16 v18 6 3 = some (va_rf v19) ∧ (∀ q20 : Nat, μ16 q20 = none → (wX4_init z q20 v1 x2 x3 x4 x5 (va_up μ16 q20 (some (.inr (7, jfX4)))) (fun _ μ22 => ∃ b25 : Nat, (v19 = some b25 ∧ ∃ fs, μ22 b25 = some (.inr (2, fs))) ∧ wJx4a65c_add_9ea2d z b25 (some q20) μ22 (fun v23 μ24 => ∃ v26 : Option Nat, jg μ24 (some b) 11 0 = some (va_rf v26) ∧ (∃ v27 : Option Nat, jg μ24 v26 6 3 = some (va_rf v27) ∧ (∃ b30 : Nat, (v27 = some b30 ∧ ∃ fs, μ24 b30 = some (.inr (2, fs))) ∧ wJx4a65c_size_8abf5 z b30  μ24 (fun v28 μ29 => Q (v28 - (1 : Int32)) μ29)))))))))) ∧ (¬ (v15 < (20 : Int32)) → (X "java/lang/IllegalStateException" μ16)))))) X) X) X))) X) X
def wX9_schedule (z : Nat × Nat) (b : Nat) (x1 : Int32) (x2 : Int32) (x3 : Int32) (x4 : Int32) (x5 : Int32) (μ : jM) (Q : Int32 → jM → Prop) (X : String → jM → Prop) : Prop := wX9_schedule_0 z b Q X x1 x2 x3 x4 x5 μ
/-! L_schedule: schedule (LCashPools;IIIII[J)I -/
abbrev rmL_schedule : Room := { frames := 9, cells := 8, slots := 75, locals := 267 }
def wL_schedule_0 (z : Nat × Nat) (Q : Int32 → jM → Prop) (x0 : Option Nat) (x1 : Int32) (x2 : Int32) (x3 : Int32) (x4 : Int32) (x5 : Int32) (x6 : Option Nat) (μ : jM) : Prop :=
  ∃ b3 : Nat, (x0 = some b3 ∧ ∃ fs, μ b3 = some (.inr (11, fs))) ∧ wX9_schedule z b3 x1 x2 x3 x4 x5 μ (fun v1 μ2 => ∃ μ4 : jM, jsj μ2 x6 (0 : Int32) (Int32.toInt64 v1) = some μ4 ∧ (Q (0 : Int32) μ4)) (fun E μE => (E = "java/lang/IndexOutOfBoundsException" → (Q (1 : Int32) μE)) ∧ (E = "java/lang/IllegalArgumentException" → (Q (2 : Int32) μE)) ∧ (E = "java/lang/IllegalStateException" → (Q (3 : Int32) μE)) ∧ (E = "java/lang/IndexOutOfBoundsException" ∨ E = "java/lang/IllegalArgumentException" ∨ E = "java/lang/IllegalStateException"))
def wL_schedule (z : Nat × Nat) (x0 : Option Nat) (x1 : Int32) (x2 : Int32) (x3 : Int32) (x4 : Int32) (x5 : Int32) (x6 : Option Nat) (μ : jM) (Q : Int32 → jM → Prop) : Prop := wL_schedule_0 z Q x0 x1 x2 x3 x4 x5 x6 μ
/-! X9_flowAt: flowAt (I)LCashPools$Flow; -/
abbrev rmX9_flowAt : Room := { frames := 6, cells := 1, slots := 6, locals := 92 }
def wX9_flowAt_0 (z : Nat × Nat) (b : Nat) (Q : Option Nat → jM → Prop) (X : String → jM → Prop) (x1 : Int32) (μ : jM) : Prop :=
  ((x1 < 0) → (X "java/lang/IndexOutOfBoundsException" μ)) ∧ (¬ (x1 < 0) → (∃ v1 : Option Nat, jg μ (some b) 11 0 = some (va_rf v1) ∧ (∃ v2 : Option Nat, jg μ v1 6 3 = some (va_rf v2) ∧ (∃ b5 : Nat, (v2 = some b5 ∧ ∃ fs, μ b5 = some (.inr (2, fs))) ∧ wJx4a65c_size_8abf5 z b5  μ (fun v3 μ4 => ((x1 < v3) → (∃ v6 : Option Nat, jg μ4 (some b) 11 0 = some (va_rf v6) ∧ (∃ v7 : Option Nat, jg μ4 v6 6 3 = some (va_rf v7) ∧ (∃ b10 : Nat, (v7 = some b10 ∧ ∃ fs, μ4 b10 = some (.inr (2, fs))) ∧ wJx4a65c_get_915e3 z b10 x1 μ4 (fun v8 μ9 => jc μ9 v8 7 ∧ (Q v8 μ9)))))) ∧ (¬ (x1 < v3) → (X "java/lang/IndexOutOfBoundsException" μ4)))))))
def wX9_flowAt (z : Nat × Nat) (b : Nat) (x1 : Int32) (μ : jM) (Q : Option Nat → jM → Prop) (X : String → jM → Prop) : Prop := wX9_flowAt_0 z b Q X x1 μ
/-! X9_cancel: cancel (I)I -/
abbrev rmX9_cancel : Room := { frames := 7, cells := 1, slots := 6, locals := 113 }
def wX9_cancel_0 (z : Nat × Nat) (b : Nat) (Q : Int32 → jM → Prop) (X : String → jM → Prop) (x1 : Int32) (μ : jM) : Prop :=
  (∃ fs, μ b = some (.inr (11, fs))) ∧ wX9_flowAt z b x1 μ (fun v1 μ2 => ∃ v3 : Int32, jg μ2 v1 7 4 = some (.int v3) ∧ (∃ μ4 : jM, jp μ2 v1 7 4 (.int (0 : Int32)) = some μ4 ∧ (Q v3 μ4))) X
def wX9_cancel (z : Nat × Nat) (b : Nat) (x1 : Int32) (μ : jM) (Q : Int32 → jM → Prop) (X : String → jM → Prop) : Prop := wX9_cancel_0 z b Q X x1 μ
/-! L_cancel: cancel (LCashPools;I[J)I -/
abbrev rmL_cancel : Room := { frames := 8, cells := 1, slots := 6, locals := 136 }
def wL_cancel_0 (z : Nat × Nat) (Q : Int32 → jM → Prop) (x0 : Option Nat) (x1 : Int32) (x2 : Option Nat) (μ : jM) : Prop :=
  ∃ b3 : Nat, (x0 = some b3 ∧ ∃ fs, μ b3 = some (.inr (11, fs))) ∧ wX9_cancel z b3 x1 μ (fun v1 μ2 => ∃ μ4 : jM, jsj μ2 x2 (0 : Int32) (Int32.toInt64 v1) = some μ4 ∧ (Q (0 : Int32) μ4)) (fun E μE => (E = "java/lang/IndexOutOfBoundsException" → (Q (1 : Int32) μE)) ∧ (E = "java/lang/IndexOutOfBoundsException"))
def wL_cancel (z : Nat × Nat) (x0 : Option Nat) (x1 : Int32) (x2 : Option Nat) (μ : jM) (Q : Int32 → jM → Prop) : Prop := wL_cancel_0 z Q x0 x1 x2 μ
/-! X9_timesLeft: timesLeft (I)I -/
abbrev rmX9_timesLeft : Room := { frames := 7, cells := 1, slots := 6, locals := 113 }
def wX9_timesLeft_0 (z : Nat × Nat) (b : Nat) (Q : Int32 → jM → Prop) (X : String → jM → Prop) (x1 : Int32) (μ : jM) : Prop :=
  (∃ fs, μ b = some (.inr (11, fs))) ∧ wX9_flowAt z b x1 μ (fun v1 μ2 => ∃ v3 : Int32, jg μ2 v1 7 4 = some (.int v3) ∧ (Q v3 μ2)) X
def wX9_timesLeft (z : Nat × Nat) (b : Nat) (x1 : Int32) (μ : jM) (Q : Int32 → jM → Prop) (X : String → jM → Prop) : Prop := wX9_timesLeft_0 z b Q X x1 μ
/-! L_timesLeft: timesLeft (LCashPools;I[J)I -/
abbrev rmL_timesLeft : Room := { frames := 8, cells := 1, slots := 6, locals := 134 }
def wL_timesLeft_0 (z : Nat × Nat) (Q : Int32 → jM → Prop) (x0 : Option Nat) (x1 : Int32) (x2 : Option Nat) (μ : jM) : Prop :=
  ∃ b3 : Nat, (x0 = some b3 ∧ ∃ fs, μ b3 = some (.inr (11, fs))) ∧ wX9_timesLeft z b3 x1 μ (fun v1 μ2 => ∃ μ4 : jM, jsj μ2 x2 (0 : Int32) (Int32.toInt64 v1) = some μ4 ∧ (Q (0 : Int32) μ4)) (fun E μE => (E = "java/lang/IndexOutOfBoundsException" → (Q (1 : Int32) μE)) ∧ (E = "java/lang/IndexOutOfBoundsException"))
def wL_timesLeft (z : Nat × Nat) (x0 : Option Nat) (x1 : Int32) (x2 : Option Nat) (μ : jM) (Q : Int32 → jM → Prop) : Prop := wL_timesLeft_0 z Q x0 x1 x2 μ
/-! X4_sumWithin: sumWithin (LCashPools$Calendar;II)J -/
abbrev rmX4_sumWithin : Room := { frames := 2, cells := 0, slots := 0, locals := 44 }
def wX4_sumWithin_6_b (z : Nat × Nat) (b : Nat) (Q : Int64 → jM → Prop) (ih : Option Nat → Int32 → Int32 → Int64 → Int32 → jM → Prop) (x1 : Option Nat) (x2 : Int32) (x3 : Int32) (x4 : Int64) (x6 : Int32) (μ : jM) : Prop :=
  ∃ v1 : Int32, jg μ (some b) 7 4 = some (.int v1) ∧ (((v1 ≤ x6) → (Q x4 μ)) ∧ (¬ (v1 ≤ x6) → (∃ v2 : Int32, jg μ (some b) 7 3 = some (.int v2) ∧ (∃ v3 : Int32, jg μ (some b) 7 2 = some (.int v3) ∧ (∃ b6 : Nat, (x1 = some b6 ∧ ∃ fs, μ b6 = some (.inr (5, fs))) ∧ wX2_firstSettlingFrom z b6 (v2 + (x6 * v3)) μ (fun v4 μ5 => ((v4 < x2) → (∀ v7 : Int32, v7 = x6 + (1 : Int32) → (ih x1 x2 x3 x4 v7 μ5))) ∧ (¬ (v4 < x2) → (((x3 < v4) → (∀ v8 : Int32, v8 = x6 + (1 : Int32) → (ih x1 x2 x3 x4 v8 μ5))) ∧ (¬ (x3 < v4) → (∃ v9 : Int32, jg μ5 (some b) 7 1 = some (.int v9) ∧ (∀ v10 : Int64, v10 = (x4 + (Int32.toInt64 v9)) → (∀ v11 : Int32, v11 = x6 + (1 : Int32) → (ih x1 x2 x3 v10 v11 μ5)))))))))))))
def wX4_sumWithin_6 (z : Nat × Nat) (b : Nat) (Q : Int64 → jM → Prop) (n : Nat) : Option Nat → Int32 → Int32 → Int64 → Int32 → jM → Prop := Nat.rec (motive := fun _ => Option Nat → Int32 → Int32 → Int64 → Int32 → jM → Prop) (fun _ _ _ _ _ _ => False) (fun _ ih => wX4_sumWithin_6_b z b Q ih) n
def wX4_sumWithin_0 (z : Nat × Nat) (b : Nat) (Q : Int64 → jM → Prop) (x1 : Option Nat) (x2 : Int32) (x3 : Int32) (μ : jM) : Prop :=
  ∀ v1 : Int64, v1 = (0 : Int64) → (∀ v2 : Int32, v2 = (0 : Int32) → (∃ n3 : Nat, wX4_sumWithin_6 z b Q n3 x1 x2 x3 v1 v2 μ))
def wX4_sumWithin (z : Nat × Nat) (b : Nat) (x1 : Option Nat) (x2 : Int32) (x3 : Int32) (μ : jM) (Q : Int64 → jM → Prop) : Prop := wX4_sumWithin_0 z b Q x1 x2 x3 μ
/-! X3_sumOfFlows: sumOfFlows (LCashPools$Account;II)J -/
abbrev rmX3_sumOfFlows : Room := { frames := 3, cells := 0, slots := 0, locals := 71 }
def wX3_sumOfFlows_6_b (z : Nat × Nat) (b : Nat) (Q : Int64 → jM → Prop) (ih : Option Nat → Int32 → Int32 → Int64 → Int32 → jM → Prop) (x1 : Option Nat) (x2 : Int32) (x3 : Int32) (x4 : Int64) (x6 : Int32) (μ : jM) : Prop :=
  ∃ v1 : Option Nat, jg μ (some b) 6 3 = some (va_rf v1) ∧ (∃ b4 : Nat, (v1 = some b4 ∧ ∃ fs, μ b4 = some (.inr (2, fs))) ∧ wJx4a65c_size_8abf5 z b4  μ (fun v2 μ3 => ((v2 ≤ x6) → (Q x4 μ3)) ∧ (¬ (v2 ≤ x6) → (∃ v5 : Option Nat, jg μ3 (some b) 6 3 = some (va_rf v5) ∧ (∃ b8 : Nat, (v5 = some b8 ∧ ∃ fs, μ3 b8 = some (.inr (2, fs))) ∧ wJx4a65c_get_915e3 z b8 x6 μ3 (fun v6 μ7 => jc μ7 v6 7 ∧ (∃ v10 : Option Nat, jg μ7 v6 7 0 = some (va_rf v10) ∧ (((¬ v10 = x1) → (∀ v11 : Int32, v11 = x6 + (1 : Int32) → (ih x1 x2 x3 x4 v11 μ7))) ∧ (v10 = x1 → (∃ v12 : Option Nat, jg μ7 (some b) 6 5 = some (va_rf v12) ∧ (∃ b15 : Nat, (v6 = some b15 ∧ ∃ fs, μ7 b15 = some (.inr (7, fs))) ∧ wX4_sumWithin z b15 v12 x2 x3 μ7 (fun v13 μ14 => ∀ v16 : Int64, v16 = (x4 + v13) → (∀ v17 : Int32, v17 = x6 + (1 : Int32) → (ih x1 x2 x3 v16 v17 μ14))))))))))))))
def wX3_sumOfFlows_6 (z : Nat × Nat) (b : Nat) (Q : Int64 → jM → Prop) (n : Nat) : Option Nat → Int32 → Int32 → Int64 → Int32 → jM → Prop := Nat.rec (motive := fun _ => Option Nat → Int32 → Int32 → Int64 → Int32 → jM → Prop) (fun _ _ _ _ _ _ => False) (fun _ ih => wX3_sumOfFlows_6_b z b Q ih) n
def wX3_sumOfFlows_0 (z : Nat × Nat) (b : Nat) (Q : Int64 → jM → Prop) (x1 : Option Nat) (x2 : Int32) (x3 : Int32) (μ : jM) : Prop :=
  ∀ v1 : Int64, v1 = (0 : Int64) → (∀ v2 : Int32, v2 = (0 : Int32) → (∃ n3 : Nat, wX3_sumOfFlows_6 z b Q n3 x1 x2 x3 v1 v2 μ))
def wX3_sumOfFlows (z : Nat × Nat) (b : Nat) (x1 : Option Nat) (x2 : Int32) (x3 : Int32) (μ : jM) (Q : Int64 → jM → Prop) : Prop := wX3_sumOfFlows_0 z b Q x1 x2 x3 μ
/-! X9_scheduled: scheduled (III)J -/
abbrev rmX9_scheduled : Room := { frames := 7, cells := 3, slots := 18, locals := 114 }
def wX9_scheduled_0 (z : Nat × Nat) (b : Nat) (Q : Int64 → jM → Prop) (X : String → jM → Prop) (x1 : Int32) (x2 : Int32) (x3 : Int32) (μ : jM) : Prop :=
  (∃ fs, μ b = some (.inr (11, fs))) ∧ wX9_accountAt z b x1 μ (fun v1 μ2 => ∃ v3 : Option Nat, jg μ2 (some b) 11 0 = some (va_rf v3) ∧ (∃ v4 : Int32, jg μ2 v3 6 6 = some (.int v4) ∧ (wX9_requireWithin z x2 v4 (450 : Int32) μ2 (fun _ μ6 => wX9_requireWithin z x3 x2 (450 : Int32) μ6 (fun _ μ8 => ∃ v9 : Option Nat, jg μ8 (some b) 11 0 = some (va_rf v9) ∧ (∃ b12 : Nat, (v9 = some b12 ∧ ∃ fs, μ8 b12 = some (.inr (6, fs))) ∧ wX3_sumOfFlows z b12 v1 x2 x3 μ8 (fun v10 μ11 => Q v10 μ11))) X) X))) X
def wX9_scheduled (z : Nat × Nat) (b : Nat) (x1 : Int32) (x2 : Int32) (x3 : Int32) (μ : jM) (Q : Int64 → jM → Prop) (X : String → jM → Prop) : Prop := wX9_scheduled_0 z b Q X x1 x2 x3 μ
/-! L_scheduled: scheduled (LCashPools;III[J)I -/
abbrev rmL_scheduled : Room := { frames := 8, cells := 3, slots := 18, locals := 138 }
def wL_scheduled_0 (z : Nat × Nat) (Q : Int32 → jM → Prop) (x0 : Option Nat) (x1 : Int32) (x2 : Int32) (x3 : Int32) (x4 : Option Nat) (μ : jM) : Prop :=
  ∃ b3 : Nat, (x0 = some b3 ∧ ∃ fs, μ b3 = some (.inr (11, fs))) ∧ wX9_scheduled z b3 x1 x2 x3 μ (fun v1 μ2 => ∃ μ4 : jM, jsj μ2 x4 (0 : Int32) v1 = some μ4 ∧ (Q (0 : Int32) μ4)) (fun E μE => (E = "java/lang/IndexOutOfBoundsException" → (Q (1 : Int32) μE)) ∧ (E = "java/lang/IllegalArgumentException" → (Q (2 : Int32) μE)) ∧ (E = "java/lang/IndexOutOfBoundsException" ∨ E = "java/lang/IllegalArgumentException"))
def wL_scheduled (z : Nat × Nat) (x0 : Option Nat) (x1 : Int32) (x2 : Int32) (x3 : Int32) (x4 : Option Nat) (μ : jM) (Q : Int32 → jM → Prop) : Prop := wL_scheduled_0 z Q x0 x1 x2 x3 x4 μ
/-! X9_poolOf: poolOf (I)I -/
abbrev rmX9_poolOf : Room := { frames := 7, cells := 1, slots := 6, locals := 113 }
def wX9_poolOf_0 (z : Nat × Nat) (b : Nat) (Q : Int32 → jM → Prop) (X : String → jM → Prop) (x1 : Int32) (μ : jM) : Prop :=
  (∃ fs, μ b = some (.inr (11, fs))) ∧ wX9_accountAt z b x1 μ (fun v1 μ2 => ∃ v3 : Option Nat, jg μ2 v1 3 2 = some (va_rf v3) ∧ (∃ v4 : Int32, jg μ2 v3 9 0 = some (.int v4) ∧ (Q v4 μ2))) X
def wX9_poolOf (z : Nat × Nat) (b : Nat) (x1 : Int32) (μ : jM) (Q : Int32 → jM → Prop) (X : String → jM → Prop) : Prop := wX9_poolOf_0 z b Q X x1 μ
/-! L_poolOf: poolOf (LCashPools;I[J)I -/
abbrev rmL_poolOf : Room := { frames := 8, cells := 1, slots := 6, locals := 134 }
def wL_poolOf_0 (z : Nat × Nat) (Q : Int32 → jM → Prop) (x0 : Option Nat) (x1 : Int32) (x2 : Option Nat) (μ : jM) : Prop :=
  ∃ b3 : Nat, (x0 = some b3 ∧ ∃ fs, μ b3 = some (.inr (11, fs))) ∧ wX9_poolOf z b3 x1 μ (fun v1 μ2 => ∃ μ4 : jM, jsj μ2 x2 (0 : Int32) (Int32.toInt64 v1) = some μ4 ∧ (Q (0 : Int32) μ4)) (fun E μE => (E = "java/lang/IndexOutOfBoundsException" → (Q (1 : Int32) μE)) ∧ (E = "java/lang/IndexOutOfBoundsException"))
def wL_poolOf (z : Nat × Nat) (x0 : Option Nat) (x1 : Int32) (x2 : Option Nat) (μ : jM) (Q : Int32 → jM → Prop) : Prop := wL_poolOf_0 z Q x0 x1 x2 μ
/-! X9_balance: balance (I)J -/
abbrev rmX9_balance : Room := { frames := 7, cells := 1, slots := 6, locals := 113 }
def wX9_balance_0 (z : Nat × Nat) (b : Nat) (Q : Int64 → jM → Prop) (X : String → jM → Prop) (x1 : Int32) (μ : jM) : Prop :=
  (∃ fs, μ b = some (.inr (11, fs))) ∧ wX9_accountAt z b x1 μ (fun v1 μ2 => ∃ v3 : Int64, jg μ2 v1 3 8 = some (.long v3) ∧ (Q v3 μ2)) X
def wX9_balance (z : Nat × Nat) (b : Nat) (x1 : Int32) (μ : jM) (Q : Int64 → jM → Prop) (X : String → jM → Prop) : Prop := wX9_balance_0 z b Q X x1 μ
/-! L_balance: balance (LCashPools;I[J)I -/
abbrev rmL_balance : Room := { frames := 8, cells := 1, slots := 6, locals := 134 }
def wL_balance_0 (z : Nat × Nat) (Q : Int32 → jM → Prop) (x0 : Option Nat) (x1 : Int32) (x2 : Option Nat) (μ : jM) : Prop :=
  ∃ b3 : Nat, (x0 = some b3 ∧ ∃ fs, μ b3 = some (.inr (11, fs))) ∧ wX9_balance z b3 x1 μ (fun v1 μ2 => ∃ μ4 : jM, jsj μ2 x2 (0 : Int32) v1 = some μ4 ∧ (Q (0 : Int32) μ4)) (fun E μE => (E = "java/lang/IndexOutOfBoundsException" → (Q (1 : Int32) μE)) ∧ (E = "java/lang/IndexOutOfBoundsException"))
def wL_balance (z : Nat × Nat) (x0 : Option Nat) (x1 : Int32) (x2 : Option Nat) (μ : jM) (Q : Int32 → jM → Prop) : Prop := wL_balance_0 z Q x0 x1 x2 μ
/-! X8_sumFrom: sumFrom (LCashPools$Account;I)J -/
abbrev rmX8_sumFrom (n : Nat) : Room := { frames := n + 3, cells := 0, slots := 0, locals := n * 24 + 64 }
def wX8_sumFrom_16_b (z : Nat × Nat) (RC : Option Nat → Int32 → jM → (Int64 → jM → Prop) → Prop) (Q : Int64 → jM → Prop) (ih : Option Nat → Int32 → Int64 → Int32 → jM → Prop) (x0 : Option Nat) (x1 : Int32) (x2 : Int64) (x4 : Int32) (μ : jM) : Prop :=
  ∃ v1 : Option Nat, jg μ x0 3 4 = some (va_rf v1) ∧ (∃ b4 : Nat, (v1 = some b4 ∧ ∃ fs, μ b4 = some (.inr (2, fs))) ∧ wJx4a65c_size_8abf5 z b4  μ (fun v2 μ3 => ((v2 ≤ x4) → (Q x2 μ3)) ∧ (¬ (v2 ≤ x4) → (∃ v5 : Option Nat, jg μ3 x0 3 4 = some (va_rf v5) ∧ (∃ b8 : Nat, (v5 = some b8 ∧ ∃ fs, μ3 b8 = some (.inr (2, fs))) ∧ wJx4a65c_get_915e3 z b8 x4 μ3 (fun v6 μ7 => jc μ7 v6 3 ∧ (RC v6 (x1 + (1 : Int32)) μ7 (fun v10 μ11 => ∀ v12 : Int64, v12 = (x2 + v10) → (∀ v13 : Int32, v13 = x4 + (1 : Int32) → (ih x0 x1 v12 v13 μ11))))))))))
def wX8_sumFrom_16 (z : Nat × Nat) (RC : Option Nat → Int32 → jM → (Int64 → jM → Prop) → Prop) (Q : Int64 → jM → Prop) (n : Nat) : Option Nat → Int32 → Int64 → Int32 → jM → Prop := Nat.rec (motive := fun _ => Option Nat → Int32 → Int64 → Int32 → jM → Prop) (fun _ _ _ _ _ => False) (fun _ ih => wX8_sumFrom_16_b z RC Q ih) n
def wX8_sumFrom_0 (z : Nat × Nat) (RC : Option Nat → Int32 → jM → (Int64 → jM → Prop) → Prop) (Q : Int64 → jM → Prop) (x0 : Option Nat) (x1 : Int32) (μ : jM) : Prop :=
  ((x1 ≤ (10 : Int32)) → (∃ v1 : Int64, jg μ x0 3 8 = some (.long v1) ∧ (∀ v2 : Int32, v2 = (0 : Int32) → (∃ n3 : Nat, wX8_sumFrom_16 z RC Q n3 x0 x1 v1 v2 μ)))) ∧ (¬ (x1 ≤ (10 : Int32)) → (Q (0 : Int64) μ))
def wX8_sumFrom (z : Nat × Nat) (n : Nat) : Option Nat → Int32 → jM → (Int64 → jM → Prop) → Prop := Nat.rec (motive := fun _ => Option Nat → Int32 → jM → (Int64 → jM → Prop) → Prop) (fun _ _ _ _ => False) (fun _ RC x0 x1 μ Q => wX8_sumFrom_0 z RC Q x0 x1 μ) n
/-! X9_total: total (I)J -/
abbrev rmX9_total : Room := { frames := 16, cells := 1, slots := 6, locals := 376 }
def wX9_total_0 (z : Nat × Nat) (b : Nat) (Q : Int64 → jM → Prop) (X : String → jM → Prop) (x1 : Int32) (μ : jM) : Prop :=
  (∃ fs, μ b = some (.inr (11, fs))) ∧ wX9_accountAt z b x1 μ (fun v1 μ2 => wX8_sumFrom z 12 v1 (0 : Int32) μ2 (fun v3 μ4 => Q v3 μ4)) X
def wX9_total (z : Nat × Nat) (b : Nat) (x1 : Int32) (μ : jM) (Q : Int64 → jM → Prop) (X : String → jM → Prop) : Prop := wX9_total_0 z b Q X x1 μ
/-! L_total: total (LCashPools;I[J)I -/
abbrev rmL_total : Room := { frames := 17, cells := 1, slots := 6, locals := 397 }
def wL_total_0 (z : Nat × Nat) (Q : Int32 → jM → Prop) (x0 : Option Nat) (x1 : Int32) (x2 : Option Nat) (μ : jM) : Prop :=
  ∃ b3 : Nat, (x0 = some b3 ∧ ∃ fs, μ b3 = some (.inr (11, fs))) ∧ wX9_total z b3 x1 μ (fun v1 μ2 => ∃ μ4 : jM, jsj μ2 x2 (0 : Int32) v1 = some μ4 ∧ (Q (0 : Int32) μ4)) (fun E μE => (E = "java/lang/IndexOutOfBoundsException" → (Q (1 : Int32) μE)) ∧ (E = "java/lang/IndexOutOfBoundsException"))
def wL_total (z : Nat × Nat) (x0 : Option Nat) (x1 : Int32) (x2 : Option Nat) (μ : jM) (Q : Int32 → jM → Prop) : Prop := wL_total_0 z Q x0 x1 x2 μ
/-! X9_exposure: exposure (I)J -/
abbrev rmX9_exposure : Room := { frames := 7, cells := 1, slots := 6, locals := 132 }
def wX9_exposure_0 (z : Nat × Nat) (b : Nat) (Q : Int64 → jM → Prop) (X : String → jM → Prop) (x1 : Int32) (μ : jM) : Prop :=
  (∃ fs, μ b = some (.inr (11, fs))) ∧ wX9_bankAt z b x1 μ (fun v1 μ2 => ∃ v3 : Option Nat, jg μ2 (some b) 11 0 = some (va_rf v3) ∧ (∃ b6 : Nat, (v3 = some b6 ∧ ∃ fs, μ2 b6 = some (.inr (6, fs))) ∧ wX3_measureBanks z b6  μ2 (fun _ μ5 => ∃ v7 : Int64, jg μ5 v1 4 2 = some (.long v7) ∧ (Q v7 μ5)))) X
def wX9_exposure (z : Nat × Nat) (b : Nat) (x1 : Int32) (μ : jM) (Q : Int64 → jM → Prop) (X : String → jM → Prop) : Prop := wX9_exposure_0 z b Q X x1 μ
/-! L_exposure: exposure (LCashPools;I[J)I -/
abbrev rmL_exposure : Room := { frames := 8, cells := 1, slots := 6, locals := 154 }
def wL_exposure_0 (z : Nat × Nat) (Q : Int32 → jM → Prop) (x0 : Option Nat) (x1 : Int32) (x2 : Option Nat) (μ : jM) : Prop :=
  ∃ b3 : Nat, (x0 = some b3 ∧ ∃ fs, μ b3 = some (.inr (11, fs))) ∧ wX9_exposure z b3 x1 μ (fun v1 μ2 => ∃ μ4 : jM, jsj μ2 x2 (0 : Int32) v1 = some μ4 ∧ (Q (0 : Int32) μ4)) (fun E μE => (E = "java/lang/IllegalArgumentException" → (Q (1 : Int32) μE)) ∧ (E = "java/lang/IllegalArgumentException"))
def wL_exposure (z : Nat × Nat) (x0 : Option Nat) (x1 : Int32) (x2 : Option Nat) (μ : jM) (Q : Int32 → jM → Prop) : Prop := wL_exposure_0 z Q x0 x1 x2 μ
/-! X9_lineAt: lineAt (I)LCashPools$Line; -/
abbrev rmX9_lineAt : Room := { frames := 6, cells := 1, slots := 6, locals := 92 }
def wX9_lineAt_0 (z : Nat × Nat) (b : Nat) (Q : Option Nat → jM → Prop) (X : String → jM → Prop) (x1 : Int32) (μ : jM) : Prop :=
  ((x1 < 0) → (X "java/lang/IndexOutOfBoundsException" μ)) ∧ (¬ (x1 < 0) → (∃ v1 : Option Nat, jg μ (some b) 11 0 = some (va_rf v1) ∧ (∃ v2 : Option Nat, jg μ v1 6 2 = some (va_rf v2) ∧ (∃ b5 : Nat, (v2 = some b5 ∧ ∃ fs, μ b5 = some (.inr (2, fs))) ∧ wJx4a65c_size_8abf5 z b5  μ (fun v3 μ4 => ((x1 < v3) → (∃ v6 : Option Nat, jg μ4 (some b) 11 0 = some (va_rf v6) ∧ (∃ v7 : Option Nat, jg μ4 v6 6 2 = some (va_rf v7) ∧ (∃ b10 : Nat, (v7 = some b10 ∧ ∃ fs, μ4 b10 = some (.inr (2, fs))) ∧ wJx4a65c_get_915e3 z b10 x1 μ4 (fun v8 μ9 => jc μ9 v8 8 ∧ (Q v8 μ9)))))) ∧ (¬ (x1 < v3) → (X "java/lang/IndexOutOfBoundsException" μ4)))))))
def wX9_lineAt (z : Nat × Nat) (b : Nat) (x1 : Int32) (μ : jM) (Q : Option Nat → jM → Prop) (X : String → jM → Prop) : Prop := wX9_lineAt_0 z b Q X x1 μ
/-! X9_drawn: drawn (I)I -/
abbrev rmX9_drawn : Room := { frames := 7, cells := 1, slots := 6, locals := 113 }
def wX9_drawn_0 (z : Nat × Nat) (b : Nat) (Q : Int32 → jM → Prop) (X : String → jM → Prop) (x1 : Int32) (μ : jM) : Prop :=
  (∃ fs, μ b = some (.inr (11, fs))) ∧ wX9_lineAt z b x1 μ (fun v1 μ2 => ∃ v3 : Int64, jg μ2 v1 8 3 = some (.long v3) ∧ (Q (Int64.toInt32 v3) μ2)) X
def wX9_drawn (z : Nat × Nat) (b : Nat) (x1 : Int32) (μ : jM) (Q : Int32 → jM → Prop) (X : String → jM → Prop) : Prop := wX9_drawn_0 z b Q X x1 μ
/-! L_drawn: drawn (LCashPools;I[J)I -/
abbrev rmL_drawn : Room := { frames := 8, cells := 1, slots := 6, locals := 134 }
def wL_drawn_0 (z : Nat × Nat) (Q : Int32 → jM → Prop) (x0 : Option Nat) (x1 : Int32) (x2 : Option Nat) (μ : jM) : Prop :=
  ∃ b3 : Nat, (x0 = some b3 ∧ ∃ fs, μ b3 = some (.inr (11, fs))) ∧ wX9_drawn z b3 x1 μ (fun v1 μ2 => ∃ μ4 : jM, jsj μ2 x2 (0 : Int32) (Int32.toInt64 v1) = some μ4 ∧ (Q (0 : Int32) μ4)) (fun E μE => (E = "java/lang/IndexOutOfBoundsException" → (Q (1 : Int32) μE)) ∧ (E = "java/lang/IndexOutOfBoundsException"))
def wL_drawn (z : Nat × Nat) (x0 : Option Nat) (x1 : Int32) (x2 : Option Nat) (μ : jM) (Q : Int32 → jM → Prop) : Prop := wL_drawn_0 z Q x0 x1 x2 μ
/-! X9_costOf: costOf (I)J -/
abbrev rmX9_costOf : Room := { frames := 7, cells := 1, slots := 6, locals := 113 }
def wX9_costOf_0 (z : Nat × Nat) (b : Nat) (Q : Int64 → jM → Prop) (X : String → jM → Prop) (x1 : Int32) (μ : jM) : Prop :=
  (∃ fs, μ b = some (.inr (11, fs))) ∧ wX9_lineAt z b x1 μ (fun v1 μ2 => ∃ v3 : Int64, jg μ2 v1 8 4 = some (.long v3) ∧ (Q v3 μ2)) X
def wX9_costOf (z : Nat × Nat) (b : Nat) (x1 : Int32) (μ : jM) (Q : Int64 → jM → Prop) (X : String → jM → Prop) : Prop := wX9_costOf_0 z b Q X x1 μ
/-! L_costOf: costOf (LCashPools;I[J)I -/
abbrev rmL_costOf : Room := { frames := 8, cells := 1, slots := 6, locals := 134 }
def wL_costOf_0 (z : Nat × Nat) (Q : Int32 → jM → Prop) (x0 : Option Nat) (x1 : Int32) (x2 : Option Nat) (μ : jM) : Prop :=
  ∃ b3 : Nat, (x0 = some b3 ∧ ∃ fs, μ b3 = some (.inr (11, fs))) ∧ wX9_costOf z b3 x1 μ (fun v1 μ2 => ∃ μ4 : jM, jsj μ2 x2 (0 : Int32) v1 = some μ4 ∧ (Q (0 : Int32) μ4)) (fun E μE => (E = "java/lang/IndexOutOfBoundsException" → (Q (1 : Int32) μE)) ∧ (E = "java/lang/IndexOutOfBoundsException"))
def wL_costOf (z : Nat × Nat) (x0 : Option Nat) (x1 : Int32) (x2 : Option Nat) (μ : jM) (Q : Int32 → jM → Prop) : Prop := wL_costOf_0 z Q x0 x1 x2 μ
/-! X9_interestOf: interestOf (I)J -/
abbrev rmX9_interestOf : Room := { frames := 7, cells := 1, slots := 6, locals := 113 }
def wX9_interestOf_0 (z : Nat × Nat) (b : Nat) (Q : Int64 → jM → Prop) (X : String → jM → Prop) (x1 : Int32) (μ : jM) : Prop :=
  (∃ fs, μ b = some (.inr (11, fs))) ∧ wX9_accountAt z b x1 μ (fun v1 μ2 => ∃ v3 : Int64, jg μ2 v1 3 9 = some (.long v3) ∧ (Q v3 μ2)) X
def wX9_interestOf (z : Nat × Nat) (b : Nat) (x1 : Int32) (μ : jM) (Q : Int64 → jM → Prop) (X : String → jM → Prop) : Prop := wX9_interestOf_0 z b Q X x1 μ
/-! L_interestOf: interestOf (LCashPools;I[J)I -/
abbrev rmL_interestOf : Room := { frames := 8, cells := 1, slots := 6, locals := 134 }
def wL_interestOf_0 (z : Nat × Nat) (Q : Int32 → jM → Prop) (x0 : Option Nat) (x1 : Int32) (x2 : Option Nat) (μ : jM) : Prop :=
  ∃ b3 : Nat, (x0 = some b3 ∧ ∃ fs, μ b3 = some (.inr (11, fs))) ∧ wX9_interestOf z b3 x1 μ (fun v1 μ2 => ∃ μ4 : jM, jsj μ2 x2 (0 : Int32) v1 = some μ4 ∧ (Q (0 : Int32) μ4)) (fun E μE => (E = "java/lang/IndexOutOfBoundsException" → (Q (1 : Int32) μE)) ∧ (E = "java/lang/IndexOutOfBoundsException"))
def wL_interestOf (z : Nat × Nat) (x0 : Option Nat) (x1 : Int32) (x2 : Option Nat) (μ : jM) (Q : Int32 → jM → Prop) : Prop := wL_interestOf_0 z Q x0 x1 x2 μ
/-! X9_poolInterest: poolInterest (I)J -/
abbrev rmX9_poolInterest : Room := { frames := 7, cells := 2, slots := 12, locals := 113 }
def wX9_poolInterest_0 (z : Nat × Nat) (b : Nat) (Q : Int64 → jM → Prop) (X : String → jM → Prop) (x1 : Int32) (μ : jM) : Prop :=
  (∃ fs, μ b = some (.inr (11, fs))) ∧ wX9_accountAt z b x1 μ (fun v1 μ2 => wX9_requireTop z v1 μ2 (fun _ μ4 => ∃ v5 : Option Nat, jg μ4 v1 3 2 = some (va_rf v5) ∧ (∃ v6 : Option Nat, jg μ4 v5 9 1 = some (va_rf v6) ∧ (∃ v7 : Int64, jg μ4 v6 10 3 = some (.long v7) ∧ (∃ v8 : Option Nat, jg μ4 v1 3 2 = some (va_rf v8) ∧ (∃ v9 : Option Nat, jg μ4 v8 9 2 = some (va_rf v9) ∧ (∃ v10 : Int64, jg μ4 v9 10 3 = some (.long v10) ∧ (Q (v7 - v10) μ4))))))) X) X
def wX9_poolInterest (z : Nat × Nat) (b : Nat) (x1 : Int32) (μ : jM) (Q : Int64 → jM → Prop) (X : String → jM → Prop) : Prop := wX9_poolInterest_0 z b Q X x1 μ
/-! L_poolInterest: poolInterest (LCashPools;I[J)I -/
abbrev rmL_poolInterest : Room := { frames := 8, cells := 2, slots := 12, locals := 135 }
def wL_poolInterest_0 (z : Nat × Nat) (Q : Int32 → jM → Prop) (x0 : Option Nat) (x1 : Int32) (x2 : Option Nat) (μ : jM) : Prop :=
  ∃ b3 : Nat, (x0 = some b3 ∧ ∃ fs, μ b3 = some (.inr (11, fs))) ∧ wX9_poolInterest z b3 x1 μ (fun v1 μ2 => ∃ μ4 : jM, jsj μ2 x2 (0 : Int32) v1 = some μ4 ∧ (Q (0 : Int32) μ4)) (fun E μE => (E = "java/lang/IndexOutOfBoundsException" → (Q (1 : Int32) μE)) ∧ (E = "java/lang/IllegalStateException" → (Q (2 : Int32) μE)) ∧ (E = "java/lang/IndexOutOfBoundsException" ∨ E = "java/lang/IllegalStateException"))
def wL_poolInterest (z : Nat × Nat) (x0 : Option Nat) (x1 : Int32) (x2 : Option Nat) (μ : jM) (Q : Int32 → jM → Prop) : Prop := wL_poolInterest_0 z Q x0 x1 x2 μ
/-! X8_heldWithGifts: heldWithGifts (LCashPools$Account;I)J -/
abbrev rmX8_heldWithGifts (n : Nat) : Room := { frames := n + 3, cells := 0, slots := 0, locals := n * 25 + 132 }
def wX8_heldWithGifts_16_b (z : Nat × Nat) (RC : Option Nat → Int32 → jM → (Int64 → jM → Prop) → Prop) (Q : Int64 → jM → Prop) (ih : Option Nat → Int32 → Int64 → Int32 → jM → Prop) (x0 : Option Nat) (x1 : Int32) (x2 : Int64) (x4 : Int32) (μ : jM) : Prop :=
  ∃ v1 : Option Nat, jg μ x0 3 4 = some (va_rf v1) ∧ (∃ b4 : Nat, (v1 = some b4 ∧ ∃ fs, μ b4 = some (.inr (2, fs))) ∧ wJx4a65c_size_8abf5 z b4  μ (fun v2 μ3 => ((v2 ≤ x4) → (Q x2 μ3)) ∧ (¬ (v2 ≤ x4) → (∃ v5 : Option Nat, jg μ3 x0 3 4 = some (va_rf v5) ∧ (∃ b8 : Nat, (v5 = some b8 ∧ ∃ fs, μ3 b8 = some (.inr (2, fs))) ∧ wJx4a65c_get_915e3 z b8 x4 μ3 (fun v6 μ7 => jc μ7 v6 3 ∧ (RC v6 (x1 + (1 : Int32)) μ7 (fun v10 μ11 => ∃ b14 : Nat, (v6 = some b14 ∧ ∃ fs, μ11 b14 = some (.inr (3, fs))) ∧ wX0_surplusOf z b14 v10 μ11 (fun v12 μ13 => ∀ v15 : Int64, v15 = (x2 + (if (0 : Int64) < v12 then v12 else (0 : Int64))) → (∀ v16 : Int32, v16 = x4 + (1 : Int32) → (ih x0 x1 v15 v16 μ13)))))))))))
def wX8_heldWithGifts_16 (z : Nat × Nat) (RC : Option Nat → Int32 → jM → (Int64 → jM → Prop) → Prop) (Q : Int64 → jM → Prop) (n : Nat) : Option Nat → Int32 → Int64 → Int32 → jM → Prop := Nat.rec (motive := fun _ => Option Nat → Int32 → Int64 → Int32 → jM → Prop) (fun _ _ _ _ _ => False) (fun _ ih => wX8_heldWithGifts_16_b z RC Q ih) n
def wX8_heldWithGifts_0 (z : Nat × Nat) (RC : Option Nat → Int32 → jM → (Int64 → jM → Prop) → Prop) (Q : Int64 → jM → Prop) (x0 : Option Nat) (x1 : Int32) (μ : jM) : Prop :=
  ((x1 ≤ (10 : Int32)) → (∃ v1 : Int64, jg μ x0 3 8 = some (.long v1) ∧ (∀ v2 : Int32, v2 = (0 : Int32) → (∃ n3 : Nat, wX8_heldWithGifts_16 z RC Q n3 x0 x1 v1 v2 μ)))) ∧ (¬ (x1 ≤ (10 : Int32)) → (Q (0 : Int64) μ))
def wX8_heldWithGifts (z : Nat × Nat) (n : Nat) : Option Nat → Int32 → jM → (Int64 → jM → Prop) → Prop := Nat.rec (motive := fun _ => Option Nat → Int32 → jM → (Int64 → jM → Prop) → Prop) (fun _ _ _ _ => False) (fun _ RC x0 x1 μ Q => wX8_heldWithGifts_0 z RC Q x0 x1 μ) n
/-! X8_heldBetweenPasses: heldBetweenPasses (LCashPools$Account;)J -/
abbrev rmX8_heldBetweenPasses : Room := { frames := 16, cells := 0, slots := 0, locals := 457 }
def wX8_heldBetweenPasses_0 (z : Nat × Nat) (Q : Int64 → jM → Prop) (x0 : Option Nat) (μ : jM) : Prop :=
  wX8_heldWithGifts z 12 x0 (0 : Int32) μ (fun v1 μ2 => ∃ b5 : Nat, (x0 = some b5 ∧ ∃ fs, μ2 b5 = some (.inr (3, fs))) ∧ wX0_surplusOf z b5 v1 μ2 (fun v3 μ4 => Q (v1 - (if (0 : Int64) < v3 then v3 else (0 : Int64))) μ4))
def wX8_heldBetweenPasses (z : Nat × Nat) (x0 : Option Nat) (μ : jM) (Q : Int64 → jM → Prop) : Prop := wX8_heldBetweenPasses_0 z Q x0 μ
/-! X8_leftBefore: leftBefore (LCashPools$Account;II)J -/
abbrev rmX8_leftBefore (n : Nat) : Room := { frames := n + 17, cells := 0, slots := 0, locals := n * 26 + 479 }
def wX8_leftBefore_45_b (z : Nat × Nat) (RC : Option Nat → Int32 → Int32 → jM → (Int64 → jM → Prop) → Prop) (Q : Int64 → jM → Prop) (ih : Option Nat → Int32 → Int64 → Int32 → jM → Prop) (x0 : Option Nat) (x1 : Int32) (x3 : Int64) (x5 : Int32) (μ : jM) : Prop :=
  ∃ v1 : Option Nat, jg μ x0 3 4 = some (va_rf v1) ∧ (∃ b4 : Nat, (v1 = some b4 ∧ ∃ fs, μ b4 = some (.inr (2, fs))) ∧ wJx4a65c_size_8abf5 z b4  μ (fun v2 μ3 => ((v2 ≤ x5) → (Q x3 μ3)) ∧ (¬ (v2 ≤ x5) → (∃ v5 : Option Nat, jg μ3 x0 3 4 = some (va_rf v5) ∧ (∃ b8 : Nat, (v5 = some b8 ∧ ∃ fs, μ3 b8 = some (.inr (2, fs))) ∧ wJx4a65c_get_915e3 z b8 x5 μ3 (fun v6 μ7 => jc μ7 v6 3 ∧ (∃ v10 : Int32, jg μ7 v6 3 0 = some (.int v10) ∧ (((x1 ≤ v10) → (∀ v11 : Int32, v11 = x5 + (1 : Int32) → (ih x0 x1 x3 v11 μ7))) ∧ (¬ (x1 ≤ v10) → (wX8_heldBetweenPasses z v6 μ7 (fun v12 μ13 => wX8_partOf z v6 v12 x3 μ13 (fun v14 μ15 => ∀ v16 : Int64, v16 = (x3 - v14) → (∀ v17 : Int32, v17 = x5 + (1 : Int32) → (ih x0 x1 v16 v17 μ15))))))))))))))
def wX8_leftBefore_45 (z : Nat × Nat) (RC : Option Nat → Int32 → Int32 → jM → (Int64 → jM → Prop) → Prop) (Q : Int64 → jM → Prop) (n : Nat) : Option Nat → Int32 → Int64 → Int32 → jM → Prop := Nat.rec (motive := fun _ => Option Nat → Int32 → Int64 → Int32 → jM → Prop) (fun _ _ _ _ _ => False) (fun _ ih => wX8_leftBefore_45_b z RC Q ih) n
def wX8_leftBefore_0 (z : Nat × Nat) (RC : Option Nat → Int32 → Int32 → jM → (Int64 → jM → Prop) → Prop) (Q : Int64 → jM → Prop) (x0 : Option Nat) (x1 : Int32) (x2 : Int32) (μ : jM) : Prop :=
  ((x2 ≤ (10 : Int32)) → (wX8_heldBetweenPasses z x0 μ (fun v1 μ2 => ∃ v3 : Option Nat, jg μ2 x0 3 1 = some (va_rf v3) ∧ (((v3 = none) → (∀ v4 : Int32, v4 = (0 : Int32) → (∃ n5 : Nat, wX8_leftBefore_45 z RC Q n5 x0 x1 v1 v4 μ2))) ∧ (¬ (v3 = none) → (∃ v6 : Option Nat, jg μ2 x0 3 1 = some (va_rf v6) ∧ (∃ v7 : Int32, jg μ2 x0 3 0 = some (.int v7) ∧ (RC v6 v7 (x2 + (1 : Int32)) μ2 (fun v8 μ9 => wX8_partOf z x0 v1 v8 μ9 (fun v10 μ11 => ∀ v12 : Int64, v12 = (v1 + v10) → (∀ v13 : Int32, v13 = (0 : Int32) → (∃ n14 : Nat, wX8_leftBefore_45 z RC Q n14 x0 x1 v12 v13 μ11)))))))))))) ∧ (¬ (x2 ≤ (10 : Int32)) → (Q (0 : Int64) μ))
def wX8_leftBefore (z : Nat × Nat) (n : Nat) : Option Nat → Int32 → Int32 → jM → (Int64 → jM → Prop) → Prop := Nat.rec (motive := fun _ => Option Nat → Int32 → Int32 → jM → (Int64 → jM → Prop) → Prop) (fun _ _ _ _ _ => False) (fun _ RC x0 x1 x2 μ Q => wX8_leftBefore_0 z RC Q x0 x1 x2 μ) n
/-! X8_sweptCash: sweptCash (LCashPools$Account;)J -/
abbrev rmX8_sweptCash : Room := { frames := 30, cells := 0, slots := 0, locals := 817 }
def wX8_sweptCash_0 (z : Nat × Nat) (Q : Int64 → jM → Prop) (x0 : Option Nat) (μ : jM) : Prop :=
  wX8_leftBefore z 12 x0 (10 : Int32) (0 : Int32) μ (fun v1 μ2 => Q v1 μ2)
def wX8_sweptCash (z : Nat × Nat) (x0 : Option Nat) (μ : jM) (Q : Int64 → jM → Prop) : Prop := wX8_sweptCash_0 z Q x0 μ
/-! X9_afterSweep: afterSweep (I)J -/
abbrev rmX9_afterSweep : Room := { frames := 31, cells := 1, slots := 6, locals := 837 }
def wX9_afterSweep_0 (z : Nat × Nat) (b : Nat) (Q : Int64 → jM → Prop) (X : String → jM → Prop) (x1 : Int32) (μ : jM) : Prop :=
  (∃ fs, μ b = some (.inr (11, fs))) ∧ wX9_accountAt z b x1 μ (fun v1 μ2 => wX8_sweptCash z v1 μ2 (fun v3 μ4 => Q v3 μ4)) X
def wX9_afterSweep (z : Nat × Nat) (b : Nat) (x1 : Int32) (μ : jM) (Q : Int64 → jM → Prop) (X : String → jM → Prop) : Prop := wX9_afterSweep_0 z b Q X x1 μ
/-! L_afterSweep: afterSweep (LCashPools;I[J)I -/
abbrev rmL_afterSweep : Room := { frames := 32, cells := 1, slots := 6, locals := 858 }
def wL_afterSweep_0 (z : Nat × Nat) (Q : Int32 → jM → Prop) (x0 : Option Nat) (x1 : Int32) (x2 : Option Nat) (μ : jM) : Prop :=
  ∃ b3 : Nat, (x0 = some b3 ∧ ∃ fs, μ b3 = some (.inr (11, fs))) ∧ wX9_afterSweep z b3 x1 μ (fun v1 μ2 => ∃ μ4 : jM, jsj μ2 x2 (0 : Int32) v1 = some μ4 ∧ (Q (0 : Int32) μ4)) (fun E μE => (E = "java/lang/IndexOutOfBoundsException" → (Q (1 : Int32) μE)) ∧ (E = "java/lang/IndexOutOfBoundsException"))
def wL_afterSweep (z : Nat × Nat) (x0 : Option Nat) (x1 : Int32) (x2 : Option Nat) (μ : jM) (Q : Int32 → jM → Prop) : Prop := wL_afterSweep_0 z Q x0 x1 x2 μ
/-! X0_keep: keep ()V -/
abbrev rmX0_keep : Room := { frames := 0, cells := 0, slots := 0, locals := 0 }
def wX0_keep_0 (z : Nat × Nat) (b : Nat) (Q : Unit → jM → Prop)  (μ : jM) : Prop :=
  ∃ v1 : Int64, jg μ (some b) 3 8 = some (.long v1) ∧ (∃ μ2 : jM, jp μ (some b) 3 10 (.long v1) = some μ2 ∧ (∃ v3 : Int64, jg μ2 (some b) 3 9 = some (.long v3) ∧ (∃ μ4 : jM, jp μ2 (some b) 3 11 (.long v3) = some μ4 ∧ (Q () μ4))))
def wX0_keep (z : Nat × Nat) (b : Nat)  (μ : jM) (Q : Unit → jM → Prop) : Prop := wX0_keep_0 z b Q  μ
/-! X7_keep: keep ()V -/
abbrev rmX7_keep : Room := { frames := 1, cells := 0, slots := 0, locals := 110 }
def wX7_keep_0 (z : Nat × Nat) (b : Nat) (Q : Unit → jM → Prop)  (μ : jM) : Prop :=
  ∃ v1 : Int64, jg μ (some b) 10 2 = some (.long v1) ∧ (∃ μ2 : jM, jp μ (some b) 10 7 (.long v1) = some μ2 ∧ (∃ v3 : Int64, jg μ2 (some b) 10 3 = some (.long v3) ∧ (∃ μ4 : jM, jp μ2 (some b) 10 8 (.long v3) = some μ4 ∧ (∃ v5 : Option Nat, jg μ4 (some b) 10 4 = some (va_rf v5) ∧ (∃ v6 : Option Nat, jg μ4 (some b) 10 9 = some (va_rf v6) ∧ (∃ μ7 : jM, jcpj μ4 v5 (0 : Int32) v6 (0 : Int32) (10 : Int32) μ7 ∧ (Q () μ7)))))))
def wX7_keep (z : Nat × Nat) (b : Nat)  (μ : jM) (Q : Unit → jM → Prop) : Prop := wX7_keep_0 z b Q  μ
/-! X6_keep: keep ()V -/
abbrev rmX6_keep : Room := { frames := 2, cells := 0, slots := 0, locals := 130 }
def wX6_keep_0 (z : Nat × Nat) (b : Nat) (Q : Unit → jM → Prop)  (μ : jM) : Prop :=
  ∃ v1 : Option Nat, jg μ (some b) 9 1 = some (va_rf v1) ∧ (∃ b4 : Nat, (v1 = some b4 ∧ ∃ fs, μ b4 = some (.inr (10, fs))) ∧ wX7_keep z b4  μ (fun _ μ3 => ∃ v5 : Option Nat, jg μ3 (some b) 9 2 = some (va_rf v5) ∧ (∃ b8 : Nat, (v5 = some b8 ∧ ∃ fs, μ3 b8 = some (.inr (10, fs))) ∧ wX7_keep z b8  μ3 (fun _ μ7 => Q () μ7))))
def wX6_keep (z : Nat × Nat) (b : Nat)  (μ : jM) (Q : Unit → jM → Prop) : Prop := wX6_keep_0 z b Q  μ
/-! X5_keep: keep ()V -/
abbrev rmX5_keep : Room := { frames := 0, cells := 0, slots := 0, locals := 0 }
def wX5_keep_0 (z : Nat × Nat) (b : Nat) (Q : Unit → jM → Prop)  (μ : jM) : Prop :=
  ∃ v1 : Int64, jg μ (some b) 8 3 = some (.long v1) ∧ (∃ μ2 : jM, jp μ (some b) 8 6 (.long v1) = some μ2 ∧ (∃ v3 : Int64, jg μ2 (some b) 8 4 = some (.long v3) ∧ (∃ μ4 : jM, jp μ2 (some b) 8 7 (.long v3) = some μ4 ∧ (∃ v5 : Int64, jg μ4 (some b) 8 5 = some (.long v5) ∧ (∃ μ6 : jM, jp μ4 (some b) 8 8 (.long v5) = some μ6 ∧ (Q () μ6))))))
def wX5_keep (z : Nat × Nat) (b : Nat)  (μ : jM) (Q : Unit → jM → Prop) : Prop := wX5_keep_0 z b Q  μ
/-! X4_keep: keep ()V -/
abbrev rmX4_keep : Room := { frames := 0, cells := 0, slots := 0, locals := 0 }
def wX4_keep_0 (z : Nat × Nat) (b : Nat) (Q : Unit → jM → Prop)  (μ : jM) : Prop :=
  ∃ v1 : Int32, jg μ (some b) 7 3 = some (.int v1) ∧ (∃ μ2 : jM, jp μ (some b) 7 5 (.int v1) = some μ2 ∧ (∃ v3 : Int32, jg μ2 (some b) 7 4 = some (.int v3) ∧ (∃ μ4 : jM, jp μ2 (some b) 7 6 (.int v3) = some μ4 ∧ (Q () μ4))))
def wX4_keep (z : Nat × Nat) (b : Nat)  (μ : jM) (Q : Unit → jM → Prop) : Prop := wX4_keep_0 z b Q  μ
/-! X3_keep: keep ()V -/
abbrev rmX3_keep : Room := { frames := 3, cells := 0, slots := 0, locals := 150 }
def wX3_keep_112_b (z : Nat × Nat) (b : Nat) (Q : Unit → jM → Prop) (ih : Int32 → jM → Prop) (x1 : Int32) (μ : jM) : Prop :=
  ∃ v1 : Option Nat, jg μ (some b) 6 3 = some (va_rf v1) ∧ (∃ b4 : Nat, (v1 = some b4 ∧ ∃ fs, μ b4 = some (.inr (2, fs))) ∧ wJx4a65c_size_8abf5 z b4  μ (fun v2 μ3 => ((v2 ≤ x1) → (Q () μ3)) ∧ (¬ (v2 ≤ x1) → (∃ v5 : Option Nat, jg μ3 (some b) 6 3 = some (va_rf v5) ∧ (∃ b8 : Nat, (v5 = some b8 ∧ ∃ fs, μ3 b8 = some (.inr (2, fs))) ∧ wJx4a65c_get_915e3 z b8 x1 μ3 (fun v6 μ7 => jc μ7 v6 7 ∧ (∃ b12 : Nat, (v6 = some b12 ∧ ∃ fs, μ7 b12 = some (.inr (7, fs))) ∧ wX4_keep z b12  μ7 (fun _ μ11 => ∀ v13 : Int32, v13 = x1 + (1 : Int32) → (ih v13 μ11)))))))))
def wX3_keep_112 (z : Nat × Nat) (b : Nat) (Q : Unit → jM → Prop) (n : Nat) : Int32 → jM → Prop := Nat.rec (motive := fun _ => Int32 → jM → Prop) (fun _ _ => False) (fun _ ih => wX3_keep_112_b z b Q ih) n
def wX3_keep_79_b (z : Nat × Nat) (b : Nat) (Q : Unit → jM → Prop) (ih : Int32 → jM → Prop) (x1 : Int32) (μ : jM) : Prop :=
  ∃ v1 : Option Nat, jg μ (some b) 6 2 = some (va_rf v1) ∧ (∃ b4 : Nat, (v1 = some b4 ∧ ∃ fs, μ b4 = some (.inr (2, fs))) ∧ wJx4a65c_size_8abf5 z b4  μ (fun v2 μ3 => ((v2 ≤ x1) → (∀ v5 : Int32, v5 = (0 : Int32) → (∃ n6 : Nat, wX3_keep_112 z b Q n6 v5 μ3))) ∧ (¬ (v2 ≤ x1) → (∃ v7 : Option Nat, jg μ3 (some b) 6 2 = some (va_rf v7) ∧ (∃ b10 : Nat, (v7 = some b10 ∧ ∃ fs, μ3 b10 = some (.inr (2, fs))) ∧ wJx4a65c_get_915e3 z b10 x1 μ3 (fun v8 μ9 => jc μ9 v8 8 ∧ (∃ b14 : Nat, (v8 = some b14 ∧ ∃ fs, μ9 b14 = some (.inr (8, fs))) ∧ wX5_keep z b14  μ9 (fun _ μ13 => ∀ v15 : Int32, v15 = x1 + (1 : Int32) → (ih v15 μ13)))))))))
def wX3_keep_79 (z : Nat × Nat) (b : Nat) (Q : Unit → jM → Prop) (n : Nat) : Int32 → jM → Prop := Nat.rec (motive := fun _ => Int32 → jM → Prop) (fun _ _ => False) (fun _ ih => wX3_keep_79_b z b Q ih) n
def wX3_keep_43_b (z : Nat × Nat) (b : Nat) (Q : Unit → jM → Prop) (ih : Int32 → jM → Prop) (x1 : Int32) (μ : jM) : Prop :=
  ∃ v1 : Option Nat, jg μ (some b) 6 1 = some (va_rf v1) ∧ (∃ b4 : Nat, (v1 = some b4 ∧ ∃ fs, μ b4 = some (.inr (2, fs))) ∧ wJx4a65c_size_8abf5 z b4  μ (fun v2 μ3 => ((v2 ≤ x1) → (∀ v5 : Int32, v5 = (0 : Int32) → (∃ n6 : Nat, wX3_keep_79 z b Q n6 v5 μ3))) ∧ (¬ (v2 ≤ x1) → (∃ v7 : Option Nat, jg μ3 (some b) 6 1 = some (va_rf v7) ∧ (∃ b10 : Nat, (v7 = some b10 ∧ ∃ fs, μ3 b10 = some (.inr (2, fs))) ∧ wJx4a65c_get_915e3 z b10 x1 μ3 (fun v8 μ9 => jc μ9 v8 3 ∧ (∃ v12 : Option Nat, jg μ9 v8 3 2 = some (va_rf v12) ∧ (∃ b15 : Nat, (v12 = some b15 ∧ ∃ fs, μ9 b15 = some (.inr (9, fs))) ∧ wX6_keep z b15  μ9 (fun _ μ14 => ∀ v16 : Int32, v16 = x1 + (1 : Int32) → (ih v16 μ14))))))))))
def wX3_keep_43 (z : Nat × Nat) (b : Nat) (Q : Unit → jM → Prop) (n : Nat) : Int32 → jM → Prop := Nat.rec (motive := fun _ => Int32 → jM → Prop) (fun _ _ => False) (fun _ ih => wX3_keep_43_b z b Q ih) n
def wX3_keep_10_b (z : Nat × Nat) (b : Nat) (Q : Unit → jM → Prop) (ih : Int32 → jM → Prop) (x1 : Int32) (μ : jM) : Prop :=
  ∃ v1 : Option Nat, jg μ (some b) 6 0 = some (va_rf v1) ∧ (∃ b4 : Nat, (v1 = some b4 ∧ ∃ fs, μ b4 = some (.inr (2, fs))) ∧ wJx4a65c_size_8abf5 z b4  μ (fun v2 μ3 => ((v2 ≤ x1) → (∀ v5 : Int32, v5 = (0 : Int32) → (∃ n6 : Nat, wX3_keep_43 z b Q n6 v5 μ3))) ∧ (¬ (v2 ≤ x1) → (∃ v7 : Option Nat, jg μ3 (some b) 6 0 = some (va_rf v7) ∧ (∃ b10 : Nat, (v7 = some b10 ∧ ∃ fs, μ3 b10 = some (.inr (2, fs))) ∧ wJx4a65c_get_915e3 z b10 x1 μ3 (fun v8 μ9 => jc μ9 v8 3 ∧ (∃ b14 : Nat, (v8 = some b14 ∧ ∃ fs, μ9 b14 = some (.inr (3, fs))) ∧ wX0_keep z b14  μ9 (fun _ μ13 => ∀ v15 : Int32, v15 = x1 + (1 : Int32) → (ih v15 μ13)))))))))
def wX3_keep_10 (z : Nat × Nat) (b : Nat) (Q : Unit → jM → Prop) (n : Nat) : Int32 → jM → Prop := Nat.rec (motive := fun _ => Int32 → jM → Prop) (fun _ _ => False) (fun _ ih => wX3_keep_10_b z b Q ih) n
def wX3_keep_0 (z : Nat × Nat) (b : Nat) (Q : Unit → jM → Prop)  (μ : jM) : Prop :=
  ∃ v1 : Int32, jg μ (some b) 6 6 = some (.int v1) ∧ (∃ μ2 : jM, jp μ (some b) 6 7 (.int v1) = some μ2 ∧ (∀ v3 : Int32, v3 = (0 : Int32) → (∃ n4 : Nat, wX3_keep_10 z b Q n4 v3 μ2)))
def wX3_keep (z : Nat × Nat) (b : Nat)  (μ : jM) (Q : Unit → jM → Prop) : Prop := wX3_keep_0 z b Q  μ
/-! X0_goBack: goBack ()V -/
abbrev rmX0_goBack : Room := { frames := 0, cells := 0, slots := 0, locals := 0 }
def wX0_goBack_0 (z : Nat × Nat) (b : Nat) (Q : Unit → jM → Prop)  (μ : jM) : Prop :=
  ∃ v1 : Int64, jg μ (some b) 3 10 = some (.long v1) ∧ (∃ μ2 : jM, jp μ (some b) 3 8 (.long v1) = some μ2 ∧ (∃ v3 : Int64, jg μ2 (some b) 3 11 = some (.long v3) ∧ (∃ μ4 : jM, jp μ2 (some b) 3 9 (.long v3) = some μ4 ∧ (Q () μ4))))
def wX0_goBack (z : Nat × Nat) (b : Nat)  (μ : jM) (Q : Unit → jM → Prop) : Prop := wX0_goBack_0 z b Q  μ
/-! X7_goBack: goBack ()V -/
abbrev rmX7_goBack : Room := { frames := 1, cells := 0, slots := 0, locals := 110 }
def wX7_goBack_0 (z : Nat × Nat) (b : Nat) (Q : Unit → jM → Prop)  (μ : jM) : Prop :=
  ∃ v1 : Int64, jg μ (some b) 10 7 = some (.long v1) ∧ (∃ μ2 : jM, jp μ (some b) 10 2 (.long v1) = some μ2 ∧ (∃ v3 : Int64, jg μ2 (some b) 10 8 = some (.long v3) ∧ (∃ μ4 : jM, jp μ2 (some b) 10 3 (.long v3) = some μ4 ∧ (∃ v5 : Option Nat, jg μ4 (some b) 10 9 = some (va_rf v5) ∧ (∃ v6 : Option Nat, jg μ4 (some b) 10 4 = some (va_rf v6) ∧ (∃ μ7 : jM, jcpj μ4 v5 (0 : Int32) v6 (0 : Int32) (10 : Int32) μ7 ∧ (Q () μ7)))))))
def wX7_goBack (z : Nat × Nat) (b : Nat)  (μ : jM) (Q : Unit → jM → Prop) : Prop := wX7_goBack_0 z b Q  μ
/-! X6_goBack: goBack ()V -/
abbrev rmX6_goBack : Room := { frames := 2, cells := 0, slots := 0, locals := 130 }
def wX6_goBack_0 (z : Nat × Nat) (b : Nat) (Q : Unit → jM → Prop)  (μ : jM) : Prop :=
  ∃ v1 : Option Nat, jg μ (some b) 9 1 = some (va_rf v1) ∧ (∃ b4 : Nat, (v1 = some b4 ∧ ∃ fs, μ b4 = some (.inr (10, fs))) ∧ wX7_goBack z b4  μ (fun _ μ3 => ∃ v5 : Option Nat, jg μ3 (some b) 9 2 = some (va_rf v5) ∧ (∃ b8 : Nat, (v5 = some b8 ∧ ∃ fs, μ3 b8 = some (.inr (10, fs))) ∧ wX7_goBack z b8  μ3 (fun _ μ7 => Q () μ7))))
def wX6_goBack (z : Nat × Nat) (b : Nat)  (μ : jM) (Q : Unit → jM → Prop) : Prop := wX6_goBack_0 z b Q  μ
/-! X5_goBack: goBack ()V -/
abbrev rmX5_goBack : Room := { frames := 0, cells := 0, slots := 0, locals := 0 }
def wX5_goBack_0 (z : Nat × Nat) (b : Nat) (Q : Unit → jM → Prop)  (μ : jM) : Prop :=
  ∃ v1 : Int64, jg μ (some b) 8 6 = some (.long v1) ∧ (∃ μ2 : jM, jp μ (some b) 8 3 (.long v1) = some μ2 ∧ (∃ v3 : Int64, jg μ2 (some b) 8 7 = some (.long v3) ∧ (∃ μ4 : jM, jp μ2 (some b) 8 4 (.long v3) = some μ4 ∧ (∃ v5 : Int64, jg μ4 (some b) 8 8 = some (.long v5) ∧ (∃ μ6 : jM, jp μ4 (some b) 8 5 (.long v5) = some μ6 ∧ (Q () μ6))))))
def wX5_goBack (z : Nat × Nat) (b : Nat)  (μ : jM) (Q : Unit → jM → Prop) : Prop := wX5_goBack_0 z b Q  μ
/-! X4_goBack: goBack ()V -/
abbrev rmX4_goBack : Room := { frames := 0, cells := 0, slots := 0, locals := 0 }
def wX4_goBack_0 (z : Nat × Nat) (b : Nat) (Q : Unit → jM → Prop)  (μ : jM) : Prop :=
  ∃ v1 : Int32, jg μ (some b) 7 5 = some (.int v1) ∧ (∃ μ2 : jM, jp μ (some b) 7 3 (.int v1) = some μ2 ∧ (∃ v3 : Int32, jg μ2 (some b) 7 6 = some (.int v3) ∧ (∃ μ4 : jM, jp μ2 (some b) 7 4 (.int v3) = some μ4 ∧ (Q () μ4))))
def wX4_goBack (z : Nat × Nat) (b : Nat)  (μ : jM) (Q : Unit → jM → Prop) : Prop := wX4_goBack_0 z b Q  μ
/-! X3_goBack: goBack ()V -/
abbrev rmX3_goBack : Room := { frames := 3, cells := 0, slots := 0, locals := 150 }
def wX3_goBack_112_b (z : Nat × Nat) (b : Nat) (Q : Unit → jM → Prop) (ih : Int32 → jM → Prop) (x1 : Int32) (μ : jM) : Prop :=
  ∃ v1 : Option Nat, jg μ (some b) 6 3 = some (va_rf v1) ∧ (∃ b4 : Nat, (v1 = some b4 ∧ ∃ fs, μ b4 = some (.inr (2, fs))) ∧ wJx4a65c_size_8abf5 z b4  μ (fun v2 μ3 => ((v2 ≤ x1) → (Q () μ3)) ∧ (¬ (v2 ≤ x1) → (∃ v5 : Option Nat, jg μ3 (some b) 6 3 = some (va_rf v5) ∧ (∃ b8 : Nat, (v5 = some b8 ∧ ∃ fs, μ3 b8 = some (.inr (2, fs))) ∧ wJx4a65c_get_915e3 z b8 x1 μ3 (fun v6 μ7 => jc μ7 v6 7 ∧ (∃ b12 : Nat, (v6 = some b12 ∧ ∃ fs, μ7 b12 = some (.inr (7, fs))) ∧ wX4_goBack z b12  μ7 (fun _ μ11 => ∀ v13 : Int32, v13 = x1 + (1 : Int32) → (ih v13 μ11)))))))))
def wX3_goBack_112 (z : Nat × Nat) (b : Nat) (Q : Unit → jM → Prop) (n : Nat) : Int32 → jM → Prop := Nat.rec (motive := fun _ => Int32 → jM → Prop) (fun _ _ => False) (fun _ ih => wX3_goBack_112_b z b Q ih) n
def wX3_goBack_79_b (z : Nat × Nat) (b : Nat) (Q : Unit → jM → Prop) (ih : Int32 → jM → Prop) (x1 : Int32) (μ : jM) : Prop :=
  ∃ v1 : Option Nat, jg μ (some b) 6 2 = some (va_rf v1) ∧ (∃ b4 : Nat, (v1 = some b4 ∧ ∃ fs, μ b4 = some (.inr (2, fs))) ∧ wJx4a65c_size_8abf5 z b4  μ (fun v2 μ3 => ((v2 ≤ x1) → (∀ v5 : Int32, v5 = (0 : Int32) → (∃ n6 : Nat, wX3_goBack_112 z b Q n6 v5 μ3))) ∧ (¬ (v2 ≤ x1) → (∃ v7 : Option Nat, jg μ3 (some b) 6 2 = some (va_rf v7) ∧ (∃ b10 : Nat, (v7 = some b10 ∧ ∃ fs, μ3 b10 = some (.inr (2, fs))) ∧ wJx4a65c_get_915e3 z b10 x1 μ3 (fun v8 μ9 => jc μ9 v8 8 ∧ (∃ b14 : Nat, (v8 = some b14 ∧ ∃ fs, μ9 b14 = some (.inr (8, fs))) ∧ wX5_goBack z b14  μ9 (fun _ μ13 => ∀ v15 : Int32, v15 = x1 + (1 : Int32) → (ih v15 μ13)))))))))
def wX3_goBack_79 (z : Nat × Nat) (b : Nat) (Q : Unit → jM → Prop) (n : Nat) : Int32 → jM → Prop := Nat.rec (motive := fun _ => Int32 → jM → Prop) (fun _ _ => False) (fun _ ih => wX3_goBack_79_b z b Q ih) n
def wX3_goBack_43_b (z : Nat × Nat) (b : Nat) (Q : Unit → jM → Prop) (ih : Int32 → jM → Prop) (x1 : Int32) (μ : jM) : Prop :=
  ∃ v1 : Option Nat, jg μ (some b) 6 1 = some (va_rf v1) ∧ (∃ b4 : Nat, (v1 = some b4 ∧ ∃ fs, μ b4 = some (.inr (2, fs))) ∧ wJx4a65c_size_8abf5 z b4  μ (fun v2 μ3 => ((v2 ≤ x1) → (∀ v5 : Int32, v5 = (0 : Int32) → (∃ n6 : Nat, wX3_goBack_79 z b Q n6 v5 μ3))) ∧ (¬ (v2 ≤ x1) → (∃ v7 : Option Nat, jg μ3 (some b) 6 1 = some (va_rf v7) ∧ (∃ b10 : Nat, (v7 = some b10 ∧ ∃ fs, μ3 b10 = some (.inr (2, fs))) ∧ wJx4a65c_get_915e3 z b10 x1 μ3 (fun v8 μ9 => jc μ9 v8 3 ∧ (∃ v12 : Option Nat, jg μ9 v8 3 2 = some (va_rf v12) ∧ (∃ b15 : Nat, (v12 = some b15 ∧ ∃ fs, μ9 b15 = some (.inr (9, fs))) ∧ wX6_goBack z b15  μ9 (fun _ μ14 => ∀ v16 : Int32, v16 = x1 + (1 : Int32) → (ih v16 μ14))))))))))
def wX3_goBack_43 (z : Nat × Nat) (b : Nat) (Q : Unit → jM → Prop) (n : Nat) : Int32 → jM → Prop := Nat.rec (motive := fun _ => Int32 → jM → Prop) (fun _ _ => False) (fun _ ih => wX3_goBack_43_b z b Q ih) n
def wX3_goBack_10_b (z : Nat × Nat) (b : Nat) (Q : Unit → jM → Prop) (ih : Int32 → jM → Prop) (x1 : Int32) (μ : jM) : Prop :=
  ∃ v1 : Option Nat, jg μ (some b) 6 0 = some (va_rf v1) ∧ (∃ b4 : Nat, (v1 = some b4 ∧ ∃ fs, μ b4 = some (.inr (2, fs))) ∧ wJx4a65c_size_8abf5 z b4  μ (fun v2 μ3 => ((v2 ≤ x1) → (∀ v5 : Int32, v5 = (0 : Int32) → (∃ n6 : Nat, wX3_goBack_43 z b Q n6 v5 μ3))) ∧ (¬ (v2 ≤ x1) → (∃ v7 : Option Nat, jg μ3 (some b) 6 0 = some (va_rf v7) ∧ (∃ b10 : Nat, (v7 = some b10 ∧ ∃ fs, μ3 b10 = some (.inr (2, fs))) ∧ wJx4a65c_get_915e3 z b10 x1 μ3 (fun v8 μ9 => jc μ9 v8 3 ∧ (∃ b14 : Nat, (v8 = some b14 ∧ ∃ fs, μ9 b14 = some (.inr (3, fs))) ∧ wX0_goBack z b14  μ9 (fun _ μ13 => ∀ v15 : Int32, v15 = x1 + (1 : Int32) → (ih v15 μ13)))))))))
def wX3_goBack_10 (z : Nat × Nat) (b : Nat) (Q : Unit → jM → Prop) (n : Nat) : Int32 → jM → Prop := Nat.rec (motive := fun _ => Int32 → jM → Prop) (fun _ _ => False) (fun _ ih => wX3_goBack_10_b z b Q ih) n
def wX3_goBack_0 (z : Nat × Nat) (b : Nat) (Q : Unit → jM → Prop)  (μ : jM) : Prop :=
  ∃ v1 : Int32, jg μ (some b) 6 7 = some (.int v1) ∧ (∃ μ2 : jM, jp μ (some b) 6 6 (.int v1) = some μ2 ∧ (∀ v3 : Int32, v3 = (0 : Int32) → (∃ n4 : Nat, wX3_goBack_10 z b Q n4 v3 μ2)))
def wX3_goBack (z : Nat × Nat) (b : Nat)  (μ : jM) (Q : Unit → jM → Prop) : Prop := wX3_goBack_0 z b Q  μ
/-! X9_afterSweepByMoves: afterSweepByMoves (I)J -/
abbrev rmX9_afterSweepByMoves : Room := { frames := 18, cells := 1, slots := 6, locals := 500 }
def wX9_afterSweepByMoves_0 (z : Nat × Nat) (b : Nat) (Q : Int64 → jM → Prop) (X : String → jM → Prop) (x1 : Int32) (μ : jM) : Prop :=
  (∃ fs, μ b = some (.inr (11, fs))) ∧ wX9_accountAt z b x1 μ (fun v1 μ2 => ∃ v3 : Option Nat, jg μ2 (some b) 11 0 = some (va_rf v3) ∧ (∃ b6 : Nat, (v3 = some b6 ∧ ∃ fs, μ2 b6 = some (.inr (6, fs))) ∧ wX3_keep z b6  μ2 (fun _ μ5 => ∃ v7 : Option Nat, jg μ5 (some b) 11 0 = some (va_rf v7) ∧ (∃ b10 : Nat, (v7 = some b10 ∧ ∃ fs, μ5 b10 = some (.inr (6, fs))) ∧ wX3_sweepPools z b10  μ5 (fun _ μ9 => ∃ v11 : Int64, jg μ9 v1 3 8 = some (.long v11) ∧ (∃ v12 : Option Nat, jg μ9 (some b) 11 0 = some (va_rf v12) ∧ (∃ b15 : Nat, (v12 = some b15 ∧ ∃ fs, μ9 b15 = some (.inr (6, fs))) ∧ wX3_goBack z b15  μ9 (fun _ μ14 => Q v11 μ14)))))))) X
def wX9_afterSweepByMoves (z : Nat × Nat) (b : Nat) (x1 : Int32) (μ : jM) (Q : Int64 → jM → Prop) (X : String → jM → Prop) : Prop := wX9_afterSweepByMoves_0 z b Q X x1 μ
/-! L_afterSweepByMoves: afterSweepByMoves (LCashPools;I[J)I -/
abbrev rmL_afterSweepByMoves : Room := { frames := 19, cells := 1, slots := 6, locals := 524 }
def wL_afterSweepByMoves_0 (z : Nat × Nat) (Q : Int32 → jM → Prop) (x0 : Option Nat) (x1 : Int32) (x2 : Option Nat) (μ : jM) : Prop :=
  ∃ b3 : Nat, (x0 = some b3 ∧ ∃ fs, μ b3 = some (.inr (11, fs))) ∧ wX9_afterSweepByMoves z b3 x1 μ (fun v1 μ2 => ∃ μ4 : jM, jsj μ2 x2 (0 : Int32) v1 = some μ4 ∧ (Q (0 : Int32) μ4)) (fun E μE => (E = "java/lang/IndexOutOfBoundsException" → (Q (1 : Int32) μE)) ∧ (E = "java/lang/IndexOutOfBoundsException"))
def wL_afterSweepByMoves (z : Nat × Nat) (x0 : Option Nat) (x1 : Int32) (x2 : Option Nat) (μ : jM) (Q : Int32 → jM → Prop) : Prop := wL_afterSweepByMoves_0 z Q x0 x1 x2 μ
/-! X9_forecast: forecast (II)J -/
abbrev rmX9_forecast : Room := { frames := 19, cells := 2, slots := 12, locals := 520 }
def wX9_forecast_23_b (z : Nat × Nat) (b : Nat) (Q : Int64 → jM → Prop) (X : String → jM → Prop) (ih : Int32 → Option Nat → Int32 → jM → Prop) (x2 : Int32) (x3 : Option Nat) (x4 : Int32) (μ : jM) : Prop :=
  ((x2 ≤ x4) → (∃ v1 : Int64, jg μ x3 3 8 = some (.long v1) ∧ (∃ v2 : Option Nat, jg μ (some b) 11 0 = some (va_rf v2) ∧ (∃ b5 : Nat, (v2 = some b5 ∧ ∃ fs, μ b5 = some (.inr (6, fs))) ∧ wX3_goBack z b5  μ (fun _ μ4 => Q v1 μ4))))) ∧ (¬ (x2 ≤ x4) → (∃ v6 : Option Nat, jg μ (some b) 11 0 = some (va_rf v6) ∧ (∃ b9 : Nat, (v6 = some b9 ∧ ∃ fs, μ b9 = some (.inr (6, fs))) ∧ wX3_passDay z b9  μ (fun _ μ8 => ∀ v10 : Int32, v10 = x4 + (1 : Int32) → (ih x2 x3 v10 μ8)))))
def wX9_forecast_23 (z : Nat × Nat) (b : Nat) (Q : Int64 → jM → Prop) (X : String → jM → Prop) (n : Nat) : Int32 → Option Nat → Int32 → jM → Prop := Nat.rec (motive := fun _ => Int32 → Option Nat → Int32 → jM → Prop) (fun _ _ _ _ => False) (fun _ ih => wX9_forecast_23_b z b Q X ih) n
def wX9_forecast_0 (z : Nat × Nat) (b : Nat) (Q : Int64 → jM → Prop) (X : String → jM → Prop) (x1 : Int32) (x2 : Int32) (μ : jM) : Prop :=
  (∃ fs, μ b = some (.inr (11, fs))) ∧ wX9_accountAt z b x1 μ (fun v1 μ2 => wX9_requireWithin z x2 (1 : Int32) (60 : Int32) μ2 (fun _ μ4 => ∃ v5 : Option Nat, jg μ4 (some b) 11 0 = some (va_rf v5) ∧ (∃ b8 : Nat, (v5 = some b8 ∧ ∃ fs, μ4 b8 = some (.inr (6, fs))) ∧ wX3_keep z b8  μ4 (fun _ μ7 => ∀ v9 : Int32, v9 = (0 : Int32) → (∃ n10 : Nat, wX9_forecast_23 z b Q X n10 x2 v1 v9 μ7)))) X) X
def wX9_forecast (z : Nat × Nat) (b : Nat) (x1 : Int32) (x2 : Int32) (μ : jM) (Q : Int64 → jM → Prop) (X : String → jM → Prop) : Prop := wX9_forecast_0 z b Q X x1 x2 μ
/-! L_forecast: forecast (LCashPools;II[J)I -/
abbrev rmL_forecast : Room := { frames := 20, cells := 2, slots := 12, locals := 545 }
def wL_forecast_0 (z : Nat × Nat) (Q : Int32 → jM → Prop) (x0 : Option Nat) (x1 : Int32) (x2 : Int32) (x3 : Option Nat) (μ : jM) : Prop :=
  ∃ b3 : Nat, (x0 = some b3 ∧ ∃ fs, μ b3 = some (.inr (11, fs))) ∧ wX9_forecast z b3 x1 x2 μ (fun v1 μ2 => ∃ μ4 : jM, jsj μ2 x3 (0 : Int32) v1 = some μ4 ∧ (Q (0 : Int32) μ4)) (fun E μE => (E = "java/lang/IndexOutOfBoundsException" → (Q (1 : Int32) μE)) ∧ (E = "java/lang/IllegalArgumentException" → (Q (2 : Int32) μE)) ∧ (E = "java/lang/IndexOutOfBoundsException" ∨ E = "java/lang/IllegalArgumentException"))
def wL_forecast (z : Nat × Nat) (x0 : Option Nat) (x1 : Int32) (x2 : Int32) (x3 : Option Nat) (μ : jM) (Q : Int32 → jM → Prop) : Prop := wL_forecast_0 z Q x0 x1 x2 x3 μ
/-! X9_daysToShort: daysToShort (II)I -/
abbrev rmX9_daysToShort : Room := { frames := 19, cells := 3, slots := 18, locals := 520 }
def wX9_daysToShort_67 (z : Nat × Nat) (b : Nat) (Q : Int32 → jM → Prop) (X : String → jM → Prop) (x4 : Int32) (μ : jM) : Prop :=
  ∃ v1 : Option Nat, jg μ (some b) 11 0 = some (va_rf v1) ∧ (∃ b4 : Nat, (v1 = some b4 ∧ ∃ fs, μ b4 = some (.inr (6, fs))) ∧ wX3_goBack z b4  μ (fun _ μ3 => Q x4 μ3))
def wX9_daysToShort_30_b (z : Nat × Nat) (b : Nat) (Q : Int32 → jM → Prop) (X : String → jM → Prop) (ih : Int32 → Option Nat → Int32 → Int32 → jM → Prop) (x2 : Int32) (x3 : Option Nat) (x4 : Int32) (x5 : Int32) (μ : jM) : Prop :=
  ((0 ≤ x4) → (wX9_daysToShort_67 z b Q X x4 μ)) ∧ (¬ (0 ≤ x4) → (((x2 < x5) → (wX9_daysToShort_67 z b Q X x4 μ)) ∧ (¬ (x2 < x5) → (∃ v1 : Option Nat, jg μ (some b) 11 0 = some (va_rf v1) ∧ (∃ b4 : Nat, (v1 = some b4 ∧ ∃ fs, μ b4 = some (.inr (6, fs))) ∧ wX3_passDay z b4  μ (fun _ μ3 => ∃ v5 : Int64, jg μ3 x3 3 8 = some (.long v5) ∧ ((((0 : Int64) ≤ v5) → (∀ v6 : Int32, v6 = x5 + (1 : Int32) → (ih x2 x3 x4 v6 μ3))) ∧ (¬ ((0 : Int64) ≤ v5) → (∀ v7 : Int32, v7 = x5 + (1 : Int32) → (ih x2 x3 x5 v7 μ3))))))))))
def wX9_daysToShort_30 (z : Nat × Nat) (b : Nat) (Q : Int32 → jM → Prop) (X : String → jM → Prop) (n : Nat) : Int32 → Option Nat → Int32 → Int32 → jM → Prop := Nat.rec (motive := fun _ => Int32 → Option Nat → Int32 → Int32 → jM → Prop) (fun _ _ _ _ _ => False) (fun _ ih => wX9_daysToShort_30_b z b Q X ih) n
def wX9_daysToShort_0 (z : Nat × Nat) (b : Nat) (Q : Int32 → jM → Prop) (X : String → jM → Prop) (x1 : Int32) (x2 : Int32) (μ : jM) : Prop :=
  (∃ fs, μ b = some (.inr (11, fs))) ∧ wX9_accountAt z b x1 μ (fun v1 μ2 => wX9_requireWithin z x2 (1 : Int32) (60 : Int32) μ2 (fun _ μ4 => wX9_requireTop z v1 μ4 (fun _ μ6 => ∀ v7 : Int32, v7 = (-1 : Int32) → (∃ v8 : Option Nat, jg μ6 (some b) 11 0 = some (va_rf v8) ∧ (∃ b11 : Nat, (v8 = some b11 ∧ ∃ fs, μ6 b11 = some (.inr (6, fs))) ∧ wX3_keep z b11  μ6 (fun _ μ10 => ∀ v12 : Int32, v12 = (1 : Int32) → (∃ n13 : Nat, wX9_daysToShort_30 z b Q X n13 x2 v1 v7 v12 μ10))))) X) X) X
def wX9_daysToShort (z : Nat × Nat) (b : Nat) (x1 : Int32) (x2 : Int32) (μ : jM) (Q : Int32 → jM → Prop) (X : String → jM → Prop) : Prop := wX9_daysToShort_0 z b Q X x1 x2 μ
/-! L_daysToShort: daysToShort (LCashPools;II[J)I -/
abbrev rmL_daysToShort : Room := { frames := 20, cells := 3, slots := 18, locals := 545 }
def wL_daysToShort_0 (z : Nat × Nat) (Q : Int32 → jM → Prop) (x0 : Option Nat) (x1 : Int32) (x2 : Int32) (x3 : Option Nat) (μ : jM) : Prop :=
  ∃ b3 : Nat, (x0 = some b3 ∧ ∃ fs, μ b3 = some (.inr (11, fs))) ∧ wX9_daysToShort z b3 x1 x2 μ (fun v1 μ2 => ∃ μ4 : jM, jsj μ2 x3 (0 : Int32) (Int32.toInt64 v1) = some μ4 ∧ (Q (0 : Int32) μ4)) (fun E μE => (E = "java/lang/IndexOutOfBoundsException" → (Q (1 : Int32) μE)) ∧ (E = "java/lang/IllegalArgumentException" → (Q (2 : Int32) μE)) ∧ (E = "java/lang/IllegalStateException" → (Q (3 : Int32) μE)) ∧ (E = "java/lang/IndexOutOfBoundsException" ∨ E = "java/lang/IllegalArgumentException" ∨ E = "java/lang/IllegalStateException"))
def wL_daysToShort (z : Nat × Nat) (x0 : Option Nat) (x1 : Int32) (x2 : Int32) (x3 : Option Nat) (μ : jM) (Q : Int32 → jM → Prop) : Prop := wL_daysToShort_0 z Q x0 x1 x2 x3 μ
/-! X9_today: today ()I -/
abbrev rmX9_today : Room := { frames := 0, cells := 0, slots := 0, locals := 0 }
def wX9_today_0 (z : Nat × Nat) (b : Nat) (Q : Int32 → jM → Prop)  (μ : jM) : Prop :=
  ∃ v1 : Option Nat, jg μ (some b) 11 0 = some (va_rf v1) ∧ (∃ v2 : Int32, jg μ v1 6 6 = some (.int v2) ∧ (Q v2 μ))
def wX9_today (z : Nat × Nat) (b : Nat)  (μ : jM) (Q : Int32 → jM → Prop) : Prop := wX9_today_0 z b Q  μ
/-! X9_accounts: accounts ()I -/
abbrev rmX9_accounts : Room := { frames := 1, cells := 0, slots := 0, locals := 20 }
def wX9_accounts_0 (z : Nat × Nat) (b : Nat) (Q : Int32 → jM → Prop)  (μ : jM) : Prop :=
  ∃ v1 : Option Nat, jg μ (some b) 11 0 = some (va_rf v1) ∧ (∃ v2 : Option Nat, jg μ v1 6 0 = some (va_rf v2) ∧ (∃ b5 : Nat, (v2 = some b5 ∧ ∃ fs, μ b5 = some (.inr (2, fs))) ∧ wJx4a65c_size_8abf5 z b5  μ (fun v3 μ4 => Q v3 μ4)))
def wX9_accounts (z : Nat × Nat) (b : Nat)  (μ : jM) (Q : Int32 → jM → Prop) : Prop := wX9_accounts_0 z b Q  μ
/-! X2_init: <init> ()V -/
abbrev rmX2_init : Room := { frames := 1, cells := 1, slots := 451, locals := 110 }
def wX2_init_0 (z : Nat × Nat) (b : Nat) (Q : Unit → jM → Prop)  (μ : jM) : Prop :=
  ∀ q1 : Nat, μ q1 = none → (∃ μ2 : jM, jp (va_up μ q1 (some (.inl (2, 451, .inl (fun _ => 0))))) (some b) 5 0 (va_rf (some q1)) = some μ2 ∧ (Q () μ2))
def wX2_init (z : Nat × Nat) (b : Nat)  (μ : jM) (Q : Unit → jM → Prop) : Prop := wX2_init_0 z b Q  μ
/-! X1_init: <init> (I)V -/
abbrev rmX1_init : Room := { frames := 1, cells := 0, slots := 0, locals := 110 }
def wX1_init_0 (z : Nat × Nat) (b : Nat) (Q : Unit → jM → Prop) (x1 : Int32) (μ : jM) : Prop :=
  ∃ μ1 : jM, jp μ (some b) 4 1 (.int (-1 : Int32)) = some μ1 ∧ (∃ μ2 : jM, jp μ1 (some b) 4 0 (.int x1) = some μ2 ∧ (Q () μ2))
def wX1_init (z : Nat × Nat) (b : Nat) (x1 : Int32) (μ : jM) (Q : Unit → jM → Prop) : Prop := wX1_init_0 z b Q x1 μ
/-! X3_init: <init> ()V -/
abbrev rmX3_init : Room := { frames := 7, cells := 19, slots := 677, locals := 241 }
def wX3_init_72_b (z : Nat × Nat) (b : Nat) (Q : Unit → jM → Prop) (ih : Int32 → jM → Prop) (x1 : Int32) (μ : jM) : Prop :=
  (((4 : Int32) ≤ x1) → (Q () μ)) ∧ (¬ ((4 : Int32) ≤ x1) → (∃ v1 : Option Nat, jg μ (some b) 6 4 = some (va_rf v1) ∧ (∀ q2 : Nat, μ q2 = none → (wX1_init z q2 x1 (va_up μ q2 (some (.inr (4, jfX1)))) (fun _ μ4 => ∃ b7 : Nat, (v1 = some b7 ∧ ∃ fs, μ4 b7 = some (.inr (2, fs))) ∧ wJx4a65c_add_9ea2d z b7 (some q2) μ4 (fun v5 μ6 => ∀ v8 : Int32, v8 = x1 + (1 : Int32) → (ih v8 μ6)))))))
def wX3_init_72 (z : Nat × Nat) (b : Nat) (Q : Unit → jM → Prop) (n : Nat) : Int32 → jM → Prop := Nat.rec (motive := fun _ => Int32 → jM → Prop) (fun _ _ => False) (fun _ ih => wX3_init_72_b z b Q ih) n
def wX3_init_0 (z : Nat × Nat) (b : Nat) (Q : Unit → jM → Prop)  (μ : jM) : Prop :=
  ∀ q1 : Nat, μ q1 = none → (wJx4a65c_init_da8c8 z q1  (va_up μ q1 (some (.inr (2, jfJx4a65c)))) (fun _ μ3 => ∃ μ4 : jM, jp μ3 (some b) 6 0 (va_rf (some q1)) = some μ4 ∧ (∀ q5 : Nat, μ4 q5 = none → (wJx4a65c_init_da8c8 z q5  (va_up μ4 q5 (some (.inr (2, jfJx4a65c)))) (fun _ μ7 => ∃ μ8 : jM, jp μ7 (some b) 6 1 (va_rf (some q5)) = some μ8 ∧ (∀ q9 : Nat, μ8 q9 = none → (wJx4a65c_init_da8c8 z q9  (va_up μ8 q9 (some (.inr (2, jfJx4a65c)))) (fun _ μ11 => ∃ μ12 : jM, jp μ11 (some b) 6 2 (va_rf (some q9)) = some μ12 ∧ (∀ q13 : Nat, μ12 q13 = none → (wJx4a65c_init_da8c8 z q13  (va_up μ12 q13 (some (.inr (2, jfJx4a65c)))) (fun _ μ15 => ∃ μ16 : jM, jp μ15 (some b) 6 3 (va_rf (some q13)) = some μ16 ∧ (∀ q17 : Nat, μ16 q17 = none → (wJx4a65c_init_da8c8 z q17  (va_up μ16 q17 (some (.inr (2, jfJx4a65c)))) (fun _ μ19 => ∃ μ20 : jM, jp μ19 (some b) 6 4 (va_rf (some q17)) = some μ20 ∧ (∀ q21 : Nat, μ20 q21 = none → (wX2_init z q21  (va_up μ20 q21 (some (.inr (5, jfX2)))) (fun _ μ23 => ∃ μ24 : jM, jp μ23 (some b) 6 5 (va_rf (some q21)) = some μ24 ∧ (∀ v25 : Int32, v25 = (0 : Int32) → (∃ n26 : Nat, n26 ≤ 5 ∧ wX3_init_72 z b Q n26 v25 μ24)))))))))))))))))))
def wX3_init (z : Nat × Nat) (b : Nat)  (μ : jM) (Q : Unit → jM → Prop) : Prop := wX3_init_0 z b Q  μ
/-! X9_init: <init> ()V -/
abbrev rmX9_init : Room := { frames := 8, cells := 20, slots := 685, locals := 262 }
def wX9_init_0 (z : Nat × Nat) (b : Nat) (Q : Unit → jM → Prop)  (μ : jM) : Prop :=
  ∀ q1 : Nat, μ q1 = none → (wX3_init z q1  (va_up μ q1 (some (.inr (6, jfX3)))) (fun _ μ3 => ∃ μ4 : jM, jp μ3 (some b) 11 0 (va_rf (some q1)) = some μ4 ∧ (Q () μ4)))
def wX9_init (z : Nat × Nat) (b : Nat)  (μ : jM) (Q : Unit → jM → Prop) : Prop := wX9_init_0 z b Q  μ
/-! X10_init: <init> ()V -/
abbrev rmX10_init : Room := { frames := 1, cells := 21, slots := 881, locals := 110 }
def wX10_init_174_b (z : Nat × Nat) (b : Nat) (Q : Unit → jM → Prop) (ih : Int32 → jM → Prop) (x1 : Int32) (μ : jM) : Prop :=
  (((4 : Int32) ≤ x1) → (Q () μ)) ∧ (¬ ((4 : Int32) ≤ x1) → (∃ v1 : Option Nat, jg μ (some b) 12 16 = some (va_rf v1) ∧ (∃ μ2 : jM, jsi 0 μ v1 x1 (-1 : Int32) = some μ2 ∧ (∀ v3 : Int32, v3 = x1 + (1 : Int32) → (ih v3 μ2)))))
def wX10_init_174 (z : Nat × Nat) (b : Nat) (Q : Unit → jM → Prop) (n : Nat) : Int32 → jM → Prop := Nat.rec (motive := fun _ => Int32 → jM → Prop) (fun _ _ => False) (fun _ ih => wX10_init_174_b z b Q ih) n
def wX10_init_0 (z : Nat × Nat) (b : Nat) (Q : Unit → jM → Prop)  (μ : jM) : Prop :=
  ∀ q1 : Nat, μ q1 = none → (∃ μ2 : jM, jp (va_up μ q1 (some (.inl (1, 109, .inr (.inl (fun _ => 0)))))) (some b) 12 3 (va_rf (some q1)) = some μ2 ∧ (∀ q3 : Nat, μ2 q3 = none → (∃ μ4 : jM, jp (va_up μ2 q3 (some (.inl (1, 109, .inr (.inl (fun _ => 0)))))) (some b) 12 4 (va_rf (some q3)) = some μ4 ∧ (∀ q5 : Nat, μ4 q5 = none → (∃ μ6 : jM, jp (va_up μ4 q5 (some (.inl (0, 10, .inl (fun _ => 0))))) (some b) 12 5 (va_rf (some q5)) = some μ6 ∧ (∀ q7 : Nat, μ6 q7 = none → (∃ μ8 : jM, jp (va_up μ6 q7 (some (.inl (0, 10, .inl (fun _ => 0))))) (some b) 12 6 (va_rf (some q7)) = some μ8 ∧ (∀ q9 : Nat, μ8 q9 = none → (∃ μ10 : jM, jp (va_up μ8 q9 (some (.inl (0, 10, .inl (fun _ => 0))))) (some b) 12 7 (va_rf (some q9)) = some μ10 ∧ (∀ q11 : Nat, μ10 q11 = none → (∃ μ12 : jM, jp (va_up μ10 q11 (some (.inl (0, 10, .inl (fun _ => 0))))) (some b) 12 8 (va_rf (some q11)) = some μ12 ∧ (∀ q13 : Nat, μ12 q13 = none → (∃ μ14 : jM, jp (va_up μ12 q13 (some (.inl (0, 10, .inl (fun _ => 0))))) (some b) 12 9 (va_rf (some q13)) = some μ14 ∧ (∀ q15 : Nat, μ14 q15 = none → (∃ μ16 : jM, jp (va_up μ14 q15 (some (.inl (0, 10, .inl (fun _ => 0))))) (some b) 12 10 (va_rf (some q15)) = some μ16 ∧ (∀ q17 : Nat, μ16 q17 = none → (∃ μ18 : jM, jp (va_up μ16 q17 (some (.inl (0, 10, .inl (fun _ => 0))))) (some b) 12 11 (va_rf (some q17)) = some μ18 ∧ (∀ q19 : Nat, μ18 q19 = none → (∃ μ20 : jM, jp (va_up μ18 q19 (some (.inl (0, 10, .inl (fun _ => 0))))) (some b) 12 12 (va_rf (some q19)) = some μ20 ∧ (∀ q21 : Nat, μ20 q21 = none → (∃ μ22 : jM, jp (va_up μ20 q21 (some (.inl (0, 6, .inl (fun _ => 0))))) (some b) 12 13 (va_rf (some q21)) = some μ22 ∧ (∀ q23 : Nat, μ22 q23 = none → (∃ μ24 : jM, jp (va_up μ22 q23 (some (.inl (0, 6, .inl (fun _ => 0))))) (some b) 12 14 (va_rf (some q23)) = some μ24 ∧ (∀ q25 : Nat, μ24 q25 = none → (∃ μ26 : jM, jp (va_up μ24 q25 (some (.inl (0, 6, .inl (fun _ => 0))))) (some b) 12 15 (va_rf (some q25)) = some μ26 ∧ (∀ q27 : Nat, μ26 q27 = none → (∃ μ28 : jM, jp (va_up μ26 q27 (some (.inl (0, 4, .inl (fun _ => 0))))) (some b) 12 16 (va_rf (some q27)) = some μ28 ∧ (∀ q29 : Nat, μ28 q29 = none → (∃ μ30 : jM, jp (va_up μ28 q29 (some (.inl (0, 20, .inl (fun _ => 0))))) (some b) 12 17 (va_rf (some q29)) = some μ30 ∧ (∀ q31 : Nat, μ30 q31 = none → (∃ μ32 : jM, jp (va_up μ30 q31 (some (.inl (0, 20, .inl (fun _ => 0))))) (some b) 12 18 (va_rf (some q31)) = some μ32 ∧ (∀ q33 : Nat, μ32 q33 = none → (∃ μ34 : jM, jp (va_up μ32 q33 (some (.inl (0, 20, .inl (fun _ => 0))))) (some b) 12 19 (va_rf (some q33)) = some μ34 ∧ (∀ q35 : Nat, μ34 q35 = none → (∃ μ36 : jM, jp (va_up μ34 q35 (some (.inl (0, 20, .inl (fun _ => 0))))) (some b) 12 20 (va_rf (some q35)) = some μ36 ∧ (∀ q37 : Nat, μ36 q37 = none → (∃ μ38 : jM, jp (va_up μ36 q37 (some (.inl (0, 20, .inl (fun _ => 0))))) (some b) 12 21 (va_rf (some q37)) = some μ38 ∧ (∀ q39 : Nat, μ38 q39 = none → (∃ μ40 : jM, jp (va_up μ38 q39 (some (.inl (2, 451, .inl (fun _ => 0))))) (some b) 12 22 (va_rf (some q39)) = some μ40 ∧ (∀ q41 : Nat, μ40 q41 = none → (∃ μ42 : jM, jp (va_up μ40 q41 (some (.inl (1, 10, .inr (.inl (fun _ => 0)))))) (some b) 12 23 (va_rf (some q41)) = some μ42 ∧ (∀ v43 : Int32, v43 = (0 : Int32) → (∃ n44 : Nat, wX10_init_174 z b Q n44 v43 μ42)))))))))))))))))))))))))))))))))))))))))))
def wX10_init (z : Nat × Nat) (b : Nat)  (μ : jM) (Q : Unit → jM → Prop) : Prop := wX10_init_0 z b Q  μ
/-! X10_thrown: thrown ()I -/
abbrev rmX10_thrown : Room := { frames := 0, cells := 0, slots := 0, locals := 0 }
def wX10_thrown_0 (z : Nat × Nat) (b : Nat) (Q : Int32 → jM → Prop)  (μ : jM) : Prop :=
  ∃ v1 : Int32, jg μ (some b) 12 24 = some (.int v1) ∧ (Q v1 μ)
def wX10_thrown (z : Nat × Nat) (b : Nat)  (μ : jM) (Q : Int32 → jM → Prop) : Prop := wX10_thrown_0 z b Q  μ
/-! X10_can: can (I)Z -/
abbrev rmX10_can : Room := { frames := 0, cells := 0, slots := 0, locals := 0 }
def wX10_can_0 (z : Nat × Nat) (b : Nat) (Q : Int32 → jM → Prop) (x1 : Int32) (μ : jM) : Prop :=
  ∃ μ1 : jM, jp μ (some b) 12 24 (.int x1) = some μ1 ∧ (((¬ x1 = 0) → (Q (0 : Int32) μ1)) ∧ (x1 = 0 → (Q (1 : Int32) μ1)))
def wX10_can (z : Nat × Nat) (b : Nat) (x1 : Int32) (μ : jM) (Q : Int32 → jM → Prop) : Prop := wX10_can_0 z b Q x1 μ
/-! X10_isIn: isIn (III)Z -/
abbrev rmX10_isIn : Room := { frames := 0, cells := 0, slots := 0, locals := 0 }
def wX10_isIn_0 (z : Nat × Nat) (Q : Int32 → jM → Prop) (x0 : Int32) (x1 : Int32) (x2 : Int32) (μ : jM) : Prop :=
  ((x0 < x1) → (Q (0 : Int32) μ)) ∧ (¬ (x0 < x1) → (((x2 < x0) → (Q (0 : Int32) μ)) ∧ (¬ (x2 < x0) → (Q (1 : Int32) μ))))
def wX10_isIn (z : Nat × Nat) (x0 : Int32) (x1 : Int32) (x2 : Int32) (μ : jM) (Q : Int32 → jM → Prop) : Prop := wX10_isIn_0 z Q x0 x1 x2 μ
/-! X10_isAccount: isAccount (I)Z -/
abbrev rmX10_isAccount : Room := { frames := 0, cells := 0, slots := 0, locals := 0 }
def wX10_isAccount_0 (z : Nat × Nat) (b : Nat) (Q : Int32 → jM → Prop) (x1 : Int32) (μ : jM) : Prop :=
  ((x1 < 0) → (Q (0 : Int32) μ)) ∧ (¬ (x1 < 0) → (∃ v1 : Int32, jg μ (some b) 12 0 = some (.int v1) ∧ (((v1 ≤ x1) → (Q (0 : Int32) μ)) ∧ (¬ (v1 ≤ x1) → (Q (1 : Int32) μ)))))
def wX10_isAccount (z : Nat × Nat) (b : Nat) (x1 : Int32) (μ : jM) (Q : Int32 → jM → Prop) : Prop := wX10_isAccount_0 z b Q x1 μ
/-! X10_isTop: isTop (I)Z -/
abbrev rmX10_isTop : Room := { frames := 0, cells := 0, slots := 0, locals := 0 }
def wX10_isTop_0 (z : Nat × Nat) (b : Nat) (Q : Int32 → jM → Prop) (x1 : Int32) (μ : jM) : Prop :=
  ∃ v1 : Option Nat, jg μ (some b) 12 5 = some (va_rf v1) ∧ (∃ v2 : Int32, jai 0 μ v1 x1 = some v2 ∧ (((¬ v2 = (-1 : Int32)) → (Q (0 : Int32) μ)) ∧ (v2 = (-1 : Int32) → (Q (1 : Int32) μ))))
def wX10_isTop (z : Nat × Nat) (b : Nat) (x1 : Int32) (μ : jM) (Q : Int32 → jM → Prop) : Prop := wX10_isTop_0 z b Q x1 μ
/-! X10_adds: adds (IIII)I -/
abbrev rmX10_adds : Room := { frames := 0, cells := 0, slots := 0, locals := 0 }
def wX10_adds_36 (z : Nat × Nat) (b : Nat) (Q : Int32 → jM → Prop) (x2 : Int32) (x3 : Int32) (x4 : Int32) (x5 : Int32) (t0 : Option Nat) (t1 : Int32) (t2 : Int32) (μ : jM) : Prop :=
  ∃ μ1 : jM, jsi 0 μ t0 t1 t2 = some μ1 ∧ (∃ v2 : Option Nat, jg μ1 (some b) 12 7 = some (va_rf v2) ∧ (∃ μ3 : jM, jsi 0 μ1 v2 x5 x2 = some μ3 ∧ (∃ v4 : Option Nat, jg μ3 (some b) 12 11 = some (va_rf v4) ∧ (∃ μ5 : jM, jsi 0 μ3 v4 x5 x3 = some μ5 ∧ (∃ v6 : Option Nat, jg μ5 (some b) 12 12 = some (va_rf v6) ∧ (∃ μ7 : jM, jsi 0 μ5 v6 x5 x4 = some μ7 ∧ (∃ v8 : Int32, jg μ7 (some b) 12 0 = some (.int v8) ∧ (∃ μ9 : jM, jp μ7 (some b) 12 0 (.int (v8 + (1 : Int32))) = some μ9 ∧ (Q x5 μ9)))))))))
def wX10_adds_0 (z : Nat × Nat) (b : Nat) (Q : Int32 → jM → Prop) (x1 : Int32) (x2 : Int32) (x3 : Int32) (x4 : Int32) (μ : jM) : Prop :=
  ∃ v1 : Int32, jg μ (some b) 12 0 = some (.int v1) ∧ (∃ v2 : Option Nat, jg μ (some b) 12 5 = some (va_rf v2) ∧ (∃ μ3 : jM, jsi 0 μ v2 v1 x1 = some μ3 ∧ (∃ v4 : Option Nat, jg μ3 (some b) 12 6 = some (va_rf v4) ∧ (((¬ x1 = (-1 : Int32)) → (∃ v5 : Option Nat, jg μ3 (some b) 12 6 = some (va_rf v5) ∧ (∃ v6 : Int32, jai 0 μ3 v5 x1 = some v6 ∧ (wX10_adds_36 z b Q x2 x3 x4 v1 v4 v1 v6 μ3)))) ∧ (x1 = (-1 : Int32) → (wX10_adds_36 z b Q x2 x3 x4 v1 v4 v1 v1 μ3))))))
def wX10_adds (z : Nat × Nat) (b : Nat) (x1 : Int32) (x2 : Int32) (x3 : Int32) (x4 : Int32) (μ : jM) (Q : Int32 → jM → Prop) : Prop := wX10_adds_0 z b Q x1 x2 x3 x4 μ
/-! X10_addPool: addPool (III)I -/
abbrev rmX10_addPool : Room := { frames := 1, cells := 0, slots := 0, locals := 25 }
def wX10_addPool_62 (z : Nat × Nat) (b : Nat) (Q : Int32 → jM → Prop) (x1 : Int32) (x2 : Int32) (x3 : Int32) (t0 : Option Nat) (t1 : Int32) (μ : jM) : Prop :=
  ∃ b3 : Nat, (t0 = some b3 ∧ ∃ fs, μ b3 = some (.inr (12, fs))) ∧ wX10_can z b3 t1 μ (fun v1 μ2 => ((v1 = 0) → (Q (0 : Int32) μ2)) ∧ (¬ (v1 = 0) → ((∃ fs, μ2 b = some (.inr (12, fs))) ∧ wX10_adds z b (-1 : Int32) x1 x2 x3 μ2 (fun v4 μ5 => Q v4 μ5))))
def wX10_addPool_36 (z : Nat × Nat) (b : Nat) (Q : Int32 → jM → Prop) (x1 : Int32) (x2 : Int32) (x3 : Int32) (t0 : Int32) (μ : jM) : Prop :=
  ((¬ t0 = 0) → (∃ v1 : Int32, jg μ (some b) 12 0 = some (.int v1) ∧ (((¬ v1 = (10 : Int32)) → (wX10_addPool_62 z b Q x1 x2 x3 (some b) (0 : Int32) μ)) ∧ (v1 = (10 : Int32) → (wX10_addPool_62 z b Q x1 x2 x3 (some b) (2 : Int32) μ))))) ∧ (t0 = 0 → (wX10_addPool_62 z b Q x1 x2 x3 (some b) (1 : Int32) μ))
def wX10_addPool_35 (z : Nat × Nat) (b : Nat) (Q : Int32 → jM → Prop) (x1 : Int32) (x2 : Int32) (x3 : Int32) (μ : jM) : Prop :=
  wX10_addPool_36 z b Q x1 x2 x3 (0 : Int32) μ
def wX10_addPool_0 (z : Nat × Nat) (b : Nat) (Q : Int32 → jM → Prop) (x1 : Int32) (x2 : Int32) (x3 : Int32) (μ : jM) : Prop :=
  wX10_isIn z x1 (0 : Int32) (3 : Int32) μ (fun v1 μ2 => ((v1 = 0) → (wX10_addPool_35 z b Q x1 x2 x3 μ2)) ∧ (¬ (v1 = 0) → (wX10_isIn z x2 (0 : Int32) (1000 : Int32) μ2 (fun v3 μ4 => ((v3 = 0) → (wX10_addPool_35 z b Q x1 x2 x3 μ4)) ∧ (¬ (v3 = 0) → (wX10_isIn z x3 (0 : Int32) (1000 : Int32) μ4 (fun v5 μ6 => ((v5 = 0) → (wX10_addPool_35 z b Q x1 x2 x3 μ6)) ∧ (¬ (v5 = 0) → (wX10_addPool_36 z b Q x1 x2 x3 (1 : Int32) μ6)))))))))
def wX10_addPool (z : Nat × Nat) (b : Nat) (x1 : Int32) (x2 : Int32) (x3 : Int32) (μ : jM) (Q : Int32 → jM → Prop) : Prop := wX10_addPool_0 z b Q x1 x2 x3 μ
/-! X10_addAccount: addAccount (II)I -/
abbrev rmX10_addAccount : Room := { frames := 1, cells := 0, slots := 0, locals := 25 }
def wX10_addAccount_40 (z : Nat × Nat) (b : Nat) (Q : Int32 → jM → Prop) (x1 : Int32) (x2 : Int32) (t0 : Option Nat) (t1 : Int32) (μ : jM) : Prop :=
  ∃ b3 : Nat, (t0 = some b3 ∧ ∃ fs, μ b3 = some (.inr (12, fs))) ∧ wX10_can z b3 t1 μ (fun v1 μ2 => ((v1 = 0) → (Q (0 : Int32) μ2)) ∧ (¬ (v1 = 0) → ((∃ fs, μ2 b = some (.inr (12, fs))) ∧ wX10_adds z b x1 x2 (0 : Int32) (0 : Int32) μ2 (fun v4 μ5 => Q v4 μ5))))
def wX10_addAccount_0 (z : Nat × Nat) (b : Nat) (Q : Int32 → jM → Prop) (x1 : Int32) (x2 : Int32) (μ : jM) : Prop :=
  (∃ fs, μ b = some (.inr (12, fs))) ∧ wX10_isAccount z b x1 μ (fun v1 μ2 => ((¬ v1 = 0) → (wX10_isIn z x2 (0 : Int32) (3 : Int32) μ2 (fun v3 μ4 => ((¬ v3 = 0) → (∃ v5 : Int32, jg μ4 (some b) 12 0 = some (.int v5) ∧ (((¬ v5 = (10 : Int32)) → (wX10_addAccount_40 z b Q x1 x2 (some b) (0 : Int32) μ4)) ∧ (v5 = (10 : Int32) → (wX10_addAccount_40 z b Q x1 x2 (some b) (3 : Int32) μ4))))) ∧ (v3 = 0 → (wX10_addAccount_40 z b Q x1 x2 (some b) (2 : Int32) μ4))))) ∧ (v1 = 0 → (wX10_addAccount_40 z b Q x1 x2 (some b) (1 : Int32) μ2)))
def wX10_addAccount (z : Nat × Nat) (b : Nat) (x1 : Int32) (x2 : Int32) (μ : jM) (Q : Int32 → jM → Prop) : Prop := wX10_addAccount_0 z b Q x1 x2 μ
/-! X10_isAmount: isAmount (I)Z -/
abbrev rmX10_isAmount : Room := { frames := 1, cells := 0, slots := 0, locals := 22 }
def wX10_isAmount_0 (z : Nat × Nat) (Q : Int32 → jM → Prop) (x0 : Int32) (μ : jM) : Prop :=
  wX10_isIn z x0 (-1000000 : Int32) (1000000 : Int32) μ (fun v1 μ2 => narrow .boolean (.int v1) = .int v1 ∧ Q v1 μ2)
def wX10_isAmount (z : Nat × Nat) (x0 : Int32) (μ : jM) (Q : Int32 → jM → Prop) : Prop := wX10_isAmount_0 z Q x0 μ
/-! X10_setRule: setRule (III)I -/
abbrev rmX10_setRule : Room := { frames := 2, cells := 0, slots := 0, locals := 42 }
def wX10_setRule_46 (z : Nat × Nat) (b : Nat) (Q : Int32 → jM → Prop) (x1 : Int32) (x2 : Int32) (x3 : Int32) (t0 : Option Nat) (t1 : Int32) (μ : jM) : Prop :=
  ∃ b3 : Nat, (t0 = some b3 ∧ ∃ fs, μ b3 = some (.inr (12, fs))) ∧ wX10_can z b3 t1 μ (fun v1 μ2 => ((¬ v1 = 0) → (∃ v4 : Option Nat, jg μ2 (some b) 12 8 = some (va_rf v4) ∧ (∃ v5 : Int32, jai 0 μ2 v4 x1 = some v5 ∧ (∃ v6 : Option Nat, jg μ2 (some b) 12 8 = some (va_rf v6) ∧ (∃ μ7 : jM, jsi 0 μ2 v6 x1 x2 = some μ7 ∧ (∃ v8 : Option Nat, jg μ7 (some b) 12 9 = some (va_rf v8) ∧ (∃ μ9 : jM, jsi 0 μ7 v8 x1 x3 = some μ9 ∧ (Q v5 μ9)))))))) ∧ (v1 = 0 → (Q (0 : Int32) μ2)))
def wX10_setRule_29 (z : Nat × Nat) (b : Nat) (Q : Int32 → jM → Prop) (x1 : Int32) (x2 : Int32) (x3 : Int32) (t0 : Option Nat) (μ : jM) : Prop :=
  wX10_setRule_46 z b Q x1 x2 x3 t0 (2 : Int32) μ
def wX10_setRule_0 (z : Nat × Nat) (b : Nat) (Q : Int32 → jM → Prop) (x1 : Int32) (x2 : Int32) (x3 : Int32) (μ : jM) : Prop :=
  (∃ fs, μ b = some (.inr (12, fs))) ∧ wX10_isAccount z b x1 μ (fun v1 μ2 => ((¬ v1 = 0) → (wX10_isIn z x2 (0 : Int32) (3 : Int32) μ2 (fun v3 μ4 => ((v3 = 0) → (wX10_setRule_29 z b Q x1 x2 x3 (some b) μ4)) ∧ (¬ (v3 = 0) → (wX10_isAmount z x3 μ4 (fun v5 μ6 => ((¬ v5 = 0) → ((∃ fs, μ6 b = some (.inr (12, fs))) ∧ wX10_isTop z b x1 μ6 (fun v7 μ8 => ((v7 = 0) → (wX10_setRule_46 z b Q x1 x2 x3 (some b) (0 : Int32) μ8)) ∧ (¬ (v7 = 0) → (wX10_setRule_46 z b Q x1 x2 x3 (some b) (3 : Int32) μ8))))) ∧ (v5 = 0 → (wX10_setRule_29 z b Q x1 x2 x3 (some b) μ6)))))))) ∧ (v1 = 0 → (wX10_setRule_46 z b Q x1 x2 x3 (some b) (1 : Int32) μ2)))
def wX10_setRule (z : Nat × Nat) (b : Nat) (x1 : Int32) (x2 : Int32) (x3 : Int32) (μ : jM) (Q : Int32 → jM → Prop) : Prop := wX10_setRule_0 z b Q x1 x2 x3 μ
/-! X10_setFloor: setFloor (II)I -/
abbrev rmX10_setFloor : Room := { frames := 2, cells := 0, slots := 0, locals := 42 }
def wX10_setFloor_25 (z : Nat × Nat) (b : Nat) (Q : Int32 → jM → Prop) (x1 : Int32) (x2 : Int32) (t0 : Option Nat) (t1 : Int32) (μ : jM) : Prop :=
  ∃ b3 : Nat, (t0 = some b3 ∧ ∃ fs, μ b3 = some (.inr (12, fs))) ∧ wX10_can z b3 t1 μ (fun v1 μ2 => ((¬ v1 = 0) → (∃ v4 : Option Nat, jg μ2 (some b) 12 10 = some (va_rf v4) ∧ (∃ v5 : Int32, jai 0 μ2 v4 x1 = some v5 ∧ (∃ v6 : Option Nat, jg μ2 (some b) 12 10 = some (va_rf v6) ∧ (∃ μ7 : jM, jsi 0 μ2 v6 x1 x2 = some μ7 ∧ (Q v5 μ7)))))) ∧ (v1 = 0 → (Q (0 : Int32) μ2)))
def wX10_setFloor_0 (z : Nat × Nat) (b : Nat) (Q : Int32 → jM → Prop) (x1 : Int32) (x2 : Int32) (μ : jM) : Prop :=
  (∃ fs, μ b = some (.inr (12, fs))) ∧ wX10_isAccount z b x1 μ (fun v1 μ2 => ((¬ v1 = 0) → (wX10_isAmount z x2 μ2 (fun v3 μ4 => ((v3 = 0) → (wX10_setFloor_25 z b Q x1 x2 (some b) (2 : Int32) μ4)) ∧ (¬ (v3 = 0) → (wX10_setFloor_25 z b Q x1 x2 (some b) (0 : Int32) μ4))))) ∧ (v1 = 0 → (wX10_setFloor_25 z b Q x1 x2 (some b) (1 : Int32) μ2)))
def wX10_setFloor (z : Nat × Nat) (b : Nat) (x1 : Int32) (x2 : Int32) (μ : jM) (Q : Int32 → jM → Prop) : Prop := wX10_setFloor_0 z b Q x1 x2 μ
/-! X10_addLine: addLine (III)I -/
abbrev rmX10_addLine : Room := { frames := 1, cells := 0, slots := 0, locals := 22 }
def wX10_addLine_60 (z : Nat × Nat) (b : Nat) (Q : Int32 → jM → Prop) (x1 : Int32) (x2 : Int32) (x3 : Int32) (t0 : Option Nat) (t1 : Int32) (μ : jM) : Prop :=
  ∃ b3 : Nat, (t0 = some b3 ∧ ∃ fs, μ b3 = some (.inr (12, fs))) ∧ wX10_can z b3 t1 μ (fun v1 μ2 => ((¬ v1 = 0) → (∃ v4 : Option Nat, jg μ2 (some b) 12 13 = some (va_rf v4) ∧ (∃ v5 : Int32, jg μ2 (some b) 12 1 = some (.int v5) ∧ (∃ μ6 : jM, jsi 0 μ2 v4 v5 x1 = some μ6 ∧ (∃ v7 : Option Nat, jg μ6 (some b) 12 14 = some (va_rf v7) ∧ (∃ v8 : Int32, jg μ6 (some b) 12 1 = some (.int v8) ∧ (∃ μ9 : jM, jsi 0 μ6 v7 v8 x2 = some μ9 ∧ (∃ v10 : Option Nat, jg μ9 (some b) 12 15 = some (va_rf v10) ∧ (∃ v11 : Int32, jg μ9 (some b) 12 1 = some (.int v11) ∧ (∃ μ12 : jM, jsi 0 μ9 v10 v11 x3 = some μ12 ∧ (∃ v13 : Int32, jg μ12 (some b) 12 1 = some (.int v13) ∧ (∃ μ14 : jM, jp μ12 (some b) 12 1 (.int (v13 + (1 : Int32))) = some μ14 ∧ (∃ v15 : Int32, jg μ14 (some b) 12 1 = some (.int v15) ∧ (Q (v15 - (1 : Int32)) μ14)))))))))))))) ∧ (v1 = 0 → (Q (0 : Int32) μ2)))
def wX10_addLine_34 (z : Nat × Nat) (b : Nat) (Q : Int32 → jM → Prop) (x1 : Int32) (x2 : Int32) (x3 : Int32) (t0 : Option Nat) (μ : jM) : Prop :=
  wX10_addLine_60 z b Q x1 x2 x3 t0 (2 : Int32) μ
def wX10_addLine_55 (z : Nat × Nat) (b : Nat) (Q : Int32 → jM → Prop) (x1 : Int32) (x2 : Int32) (x3 : Int32) (t0 : Option Nat) (μ : jM) : Prop :=
  wX10_addLine_60 z b Q x1 x2 x3 t0 (3 : Int32) μ
def wX10_addLine_0 (z : Nat × Nat) (b : Nat) (Q : Int32 → jM → Prop) (x1 : Int32) (x2 : Int32) (x3 : Int32) (μ : jM) : Prop :=
  (∃ fs, μ b = some (.inr (12, fs))) ∧ wX10_isAccount z b x1 μ (fun v1 μ2 => ((¬ v1 = 0) → (wX10_isIn z x2 (1 : Int32) (10000000 : Int32) μ2 (fun v3 μ4 => ((v3 = 0) → (wX10_addLine_34 z b Q x1 x2 x3 (some b) μ4)) ∧ (¬ (v3 = 0) → (wX10_isIn z x3 (0 : Int32) (1000 : Int32) μ4 (fun v5 μ6 => ((¬ v5 = 0) → ((∃ fs, μ6 b = some (.inr (12, fs))) ∧ wX10_isTop z b x1 μ6 (fun v7 μ8 => ((v7 = 0) → (wX10_addLine_55 z b Q x1 x2 x3 (some b) μ8)) ∧ (¬ (v7 = 0) → (∃ v9 : Int32, jg μ8 (some b) 12 1 = some (.int v9) ∧ (((¬ v9 = (6 : Int32)) → (wX10_addLine_60 z b Q x1 x2 x3 (some b) (0 : Int32) μ8)) ∧ (v9 = (6 : Int32) → (wX10_addLine_55 z b Q x1 x2 x3 (some b) μ8)))))))) ∧ (v5 = 0 → (wX10_addLine_34 z b Q x1 x2 x3 (some b) μ6)))))))) ∧ (v1 = 0 → (wX10_addLine_60 z b Q x1 x2 x3 (some b) (1 : Int32) μ2)))
def wX10_addLine (z : Nat × Nat) (b : Nat) (x1 : Int32) (x2 : Int32) (x3 : Int32) (μ : jM) (Q : Int32 → jM → Prop) : Prop := wX10_addLine_0 z b Q x1 x2 x3 μ
/-! X10_setBankLimit: setBankLimit (II)I -/
abbrev rmX10_setBankLimit : Room := { frames := 1, cells := 0, slots := 0, locals := 22 }
def wX10_setBankLimit_25 (z : Nat × Nat) (b : Nat) (Q : Int32 → jM → Prop) (x1 : Int32) (x2 : Int32) (t0 : Option Nat) (t1 : Int32) (μ : jM) : Prop :=
  ∃ b3 : Nat, (t0 = some b3 ∧ ∃ fs, μ b3 = some (.inr (12, fs))) ∧ wX10_can z b3 t1 μ (fun v1 μ2 => ((¬ v1 = 0) → (∃ v4 : Option Nat, jg μ2 (some b) 12 16 = some (va_rf v4) ∧ (∃ v5 : Int32, jai 0 μ2 v4 x1 = some v5 ∧ (∃ v6 : Option Nat, jg μ2 (some b) 12 16 = some (va_rf v6) ∧ (∃ μ7 : jM, jsi 0 μ2 v6 x1 x2 = some μ7 ∧ (Q v5 μ7)))))) ∧ (v1 = 0 → (Q (0 : Int32) μ2)))
def wX10_setBankLimit_24 (z : Nat × Nat) (b : Nat) (Q : Int32 → jM → Prop) (x1 : Int32) (x2 : Int32) (t0 : Option Nat) (μ : jM) : Prop :=
  wX10_setBankLimit_25 z b Q x1 x2 t0 (1 : Int32) μ
def wX10_setBankLimit_0 (z : Nat × Nat) (b : Nat) (Q : Int32 → jM → Prop) (x1 : Int32) (x2 : Int32) (μ : jM) : Prop :=
  wX10_isIn z x1 (0 : Int32) (3 : Int32) μ (fun v1 μ2 => ((v1 = 0) → (wX10_setBankLimit_24 z b Q x1 x2 (some b) μ2)) ∧ (¬ (v1 = 0) → (wX10_isIn z x2 (-1 : Int32) (1000000000 : Int32) μ2 (fun v3 μ4 => ((v3 = 0) → (wX10_setBankLimit_24 z b Q x1 x2 (some b) μ4)) ∧ (¬ (v3 = 0) → (wX10_setBankLimit_25 z b Q x1 x2 (some b) (0 : Int32) μ4))))))
def wX10_setBankLimit (z : Nat × Nat) (b : Nat) (x1 : Int32) (x2 : Int32) (μ : jM) (Q : Int32 → jM → Prop) : Prop := wX10_setBankLimit_0 z b Q x1 x2 μ
/-! X10_isSettlement: isSettlement (I)Z -/
abbrev rmX10_isSettlement : Room := { frames := 0, cells := 0, slots := 0, locals := 0 }
def wX10_isSettlement_0 (z : Nat × Nat) (b : Nat) (Q : Int32 → jM → Prop) (x1 : Int32) (μ : jM) : Prop :=
  (((5 : Int32) ≤ (x1 - x1 / (7 : Int32) * (7 : Int32))) → (Q (0 : Int32) μ)) ∧ (¬ ((5 : Int32) ≤ (x1 - x1 / (7 : Int32) * (7 : Int32))) → ((((450 : Int32) < x1) → (Q (1 : Int32) μ)) ∧ (¬ ((450 : Int32) < x1) → (∃ v1 : Option Nat, jg μ (some b) 12 22 = some (va_rf v1) ∧ (∃ v2 : Int32, jai 2 μ v1 x1 = some v2 ∧ (((¬ v2 = 0) → (Q (0 : Int32) μ)) ∧ (v2 = 0 → (Q (1 : Int32) μ))))))))
def wX10_isSettlement (z : Nat × Nat) (b : Nat) (x1 : Int32) (μ : jM) (Q : Int32 → jM → Prop) : Prop := wX10_isSettlement_0 z b Q x1 μ
/-! X10_surplus: surplus (I)J -/
abbrev rmX10_surplus : Room := { frames := 0, cells := 0, slots := 0, locals := 0 }
def wX10_surplus_42 (z : Nat × Nat) (b : Nat) (Q : Int64 → jM → Prop) (x2 : Int64) (x4 : Int32) (μ : jM) : Prop :=
  ((¬ x4 = (3 : Int32)) → (Q x2 μ)) ∧ (x4 = (3 : Int32) → (((x2 ≤ (0 : Int64)) → (Q x2 μ)) ∧ (¬ (x2 ≤ (0 : Int64)) → (Q (0 : Int64) μ))))
def wX10_surplus_0 (z : Nat × Nat) (b : Nat) (Q : Int64 → jM → Prop) (x1 : Int32) (μ : jM) : Prop :=
  ∃ v1 : Option Nat, jg μ (some b) 12 3 = some (va_rf v1) ∧ (∃ v2 : Int64, jaj μ v1 ((0 : Int32) + x1) = some v2 ∧ (∃ v3 : Option Nat, jg μ (some b) 12 9 = some (va_rf v3) ∧ (∃ v4 : Int32, jai 0 μ v3 x1 = some v4 ∧ (∀ v5 : Int64, v5 = (v2 - (Int32.toInt64 v4)) → (∃ v6 : Option Nat, jg μ (some b) 12 8 = some (va_rf v6) ∧ (∃ v7 : Int32, jai 0 μ v6 x1 = some v7 ∧ (((v7 = 0) → (Q (0 : Int64) μ)) ∧ (¬ (v7 = 0) → (((¬ v7 = (2 : Int32)) → (wX10_surplus_42 z b Q v5 v7 μ)) ∧ (v7 = (2 : Int32) → (((v5 < (0 : Int64)) → (Q (0 : Int64) μ)) ∧ (¬ (v5 < (0 : Int64)) → (wX10_surplus_42 z b Q v5 v7 μ)))))))))))))
def wX10_surplus (z : Nat × Nat) (b : Nat) (x1 : Int32) (μ : jM) (Q : Int64 → jM → Prop) : Prop := wX10_surplus_0 z b Q x1 μ
/-! X10_moves: moves (IIJ)V -/
abbrev rmX10_moves : Room := { frames := 0, cells := 0, slots := 0, locals := 0 }
def wX10_moves_0 (z : Nat × Nat) (b : Nat) (Q : Unit → jM → Prop) (x1 : Int32) (x2 : Int32) (x3 : Int64) (μ : jM) : Prop :=
  ∃ v1 : Option Nat, jg μ (some b) 12 3 = some (va_rf v1) ∧ (∃ v2 : Int64, jaj μ v1 ((0 : Int32) + x1) = some v2 ∧ (∃ μ3 : jM, jsj μ v1 ((0 : Int32) + x1) (v2 - x3) = some μ3 ∧ (∃ v4 : Option Nat, jg μ3 (some b) 12 3 = some (va_rf v4) ∧ (∃ v5 : Int64, jaj μ3 v4 ((0 : Int32) + x2) = some v5 ∧ (∃ μ6 : jM, jsj μ3 v4 ((0 : Int32) + x2) (v5 + x3) = some μ6 ∧ (Q () μ6))))))
def wX10_moves (z : Nat × Nat) (b : Nat) (x1 : Int32) (x2 : Int32) (x3 : Int64) (μ : jM) (Q : Unit → jM → Prop) : Prop := wX10_moves_0 z b Q x1 x2 x3 μ
/-! X10_sweep: sweep ()V -/
abbrev rmX10_sweep : Room := { frames := 1, cells := 0, slots := 0, locals := 24 }
def wX10_sweep_146 (z : Nat × Nat) (b : Nat) (K53 : Int32 → jM → Prop) (Q : Unit → jM → Prop) (x1 : Int32) (t0 : Option Nat) (t1 : Int32) (t2 : Int32) (t3 : Int64) (μ : jM) : Prop :=
  ∃ b3 : Nat, (t0 = some b3 ∧ ∃ fs, μ b3 = some (.inr (12, fs))) ∧ wX10_moves z b3 t1 t2 t3 μ (fun _ μ2 => ∀ v4 : Int32, v4 = x1 + (1 : Int32) → (K53 v4 μ2))
def wX10_sweep_53_b (z : Nat × Nat) (b : Nat) (Q : Unit → jM → Prop) (ih : Int32 → jM → Prop) (x1 : Int32) (μ : jM) : Prop :=
  ∃ v1 : Int32, jg μ (some b) 12 0 = some (.int v1) ∧ (((v1 ≤ x1) → (Q () μ)) ∧ (¬ (v1 ≤ x1) → ((∃ fs, μ b = some (.inr (12, fs))) ∧ wX10_isTop z b x1 μ (fun v2 μ3 => ((¬ v2 = 0) → (∀ v4 : Int32, v4 = x1 + (1 : Int32) → (ih v4 μ3))) ∧ (v2 = 0 → ((∃ fs, μ3 b = some (.inr (12, fs))) ∧ wX10_surplus z b x1 μ3 (fun v5 μ6 => (((0 : Int64) ≤ v5) → (∀ v7 : Int32, v7 = x1 + (1 : Int32) → (ih v7 μ6))) ∧ (¬ ((0 : Int64) ≤ v5) → ((∃ fs, μ6 b = some (.inr (12, fs))) ∧ wX10_surplus z b x1 μ6 (fun v8 μ9 => ∀ v10 : Int64, v10 = (-v8) → (∃ v11 : Option Nat, jg μ9 (some b) 12 3 = some (va_rf v11) ∧ (∃ v12 : Option Nat, jg μ9 (some b) 12 5 = some (va_rf v12) ∧ (∃ v13 : Int32, jai 0 μ9 v12 x1 = some v13 ∧ (∃ v14 : Int64, jaj μ9 v11 ((0 : Int32) + v13) = some v14 ∧ (∃ v15 : Option Nat, jg μ9 (some b) 12 10 = some (va_rf v15) ∧ (∃ v16 : Option Nat, jg μ9 (some b) 12 5 = some (va_rf v16) ∧ (∃ v17 : Int32, jai 0 μ9 v16 x1 = some v17 ∧ (∃ v18 : Int32, jai 0 μ9 v15 v17 = some v18 ∧ (∀ v19 : Int64, v19 = (v14 - (Int32.toInt64 v18)) → (∃ v20 : Option Nat, jg μ9 (some b) 12 5 = some (va_rf v20) ∧ (∃ v21 : Int32, jai 0 μ9 v20 x1 = some v21 ∧ ((((0 : Int64) < v19) → (((v10 ≤ v19) → (wX10_sweep_146 z b ih Q x1 (some b) v21 x1 v10 μ9)) ∧ (¬ (v10 ≤ v19) → (wX10_sweep_146 z b ih Q x1 (some b) v21 x1 v19 μ9)))) ∧ (¬ ((0 : Int64) < v19) → (wX10_sweep_146 z b ih Q x1 (some b) v21 x1 (0 : Int64) μ9))))))))))))))))))))))))
def wX10_sweep_53 (z : Nat × Nat) (b : Nat) (Q : Unit → jM → Prop) (n : Nat) : Int32 → jM → Prop := Nat.rec (motive := fun _ => Int32 → jM → Prop) (fun _ _ => False) (fun _ ih => wX10_sweep_53_b z b Q ih) n
def wX10_sweep_7_b (z : Nat × Nat) (b : Nat) (Q : Unit → jM → Prop) (ih : Int32 → jM → Prop) (x1 : Int32) (μ : jM) : Prop :=
  ((x1 < 0) → (∀ v1 : Int32, v1 = (0 : Int32) → (∃ n2 : Nat, wX10_sweep_53 z b Q n2 v1 μ))) ∧ (¬ (x1 < 0) → ((∃ fs, μ b = some (.inr (12, fs))) ∧ wX10_isTop z b x1 μ (fun v3 μ4 => ((¬ v3 = 0) → (∀ v5 : Int32, v5 = x1 + (-1 : Int32) → (ih v5 μ4))) ∧ (v3 = 0 → ((∃ fs, μ4 b = some (.inr (12, fs))) ∧ wX10_surplus z b x1 μ4 (fun v6 μ7 => ((v6 ≤ (0 : Int64)) → (∀ v8 : Int32, v8 = x1 + (-1 : Int32) → (ih v8 μ7))) ∧ (¬ (v6 ≤ (0 : Int64)) → (∃ v9 : Option Nat, jg μ7 (some b) 12 5 = some (va_rf v9) ∧ (∃ v10 : Int32, jai 0 μ7 v9 x1 = some v10 ∧ ((∃ fs, μ7 b = some (.inr (12, fs))) ∧ wX10_surplus z b x1 μ7 (fun v11 μ12 => (∃ fs, μ12 b = some (.inr (12, fs))) ∧ wX10_moves z b x1 v10 v11 μ12 (fun _ μ14 => ∀ v15 : Int32, v15 = x1 + (-1 : Int32) → (ih v15 μ14)))))))))))))
def wX10_sweep_7 (z : Nat × Nat) (b : Nat) (Q : Unit → jM → Prop) (n : Nat) : Int32 → jM → Prop := Nat.rec (motive := fun _ => Int32 → jM → Prop) (fun _ _ => False) (fun _ ih => wX10_sweep_7_b z b Q ih) n
def wX10_sweep_0 (z : Nat × Nat) (b : Nat) (Q : Unit → jM → Prop)  (μ : jM) : Prop :=
  ∃ v1 : Int32, jg μ (some b) 12 0 = some (.int v1) ∧ (∀ v2 : Int32, v2 = (v1 - (1 : Int32)) → (∃ n3 : Nat, wX10_sweep_7 z b Q n3 v2 μ))
def wX10_sweep (z : Nat × Nat) (b : Nat)  (μ : jM) (Q : Unit → jM → Prop) : Prop := wX10_sweep_0 z b Q  μ
/-! X10_nextLine: nextLine (IZ)I -/
abbrev rmX10_nextLine : Room := { frames := 0, cells := 0, slots := 0, locals := 0 }
def wX10_nextLine_74 (z : Nat × Nat) (b : Nat) (K5 : Int32 → Int32 → Int32 → Int32 → jM → Prop) (Q : Int32 → jM → Prop) (x1 : Int32) (x2 : Int32) (x3 : Int32) (x4 : Int32) (t0 : Int32) (μ : jM) : Prop :=
  ((t0 = 0) → (∀ v1 : Int32, v1 = x4 + (1 : Int32) → (K5 x1 x2 x3 v1 μ))) ∧ (¬ (t0 = 0) → (((x3 = (-1 : Int32)) → (∀ v2 : Int32, v2 = x4 + (1 : Int32) → (K5 x1 x2 x4 v2 μ))) ∧ (¬ (x3 = (-1 : Int32)) → (((x2 = 0) → (∃ v3 : Option Nat, jg μ (some b) 12 15 = some (va_rf v3) ∧ (∃ v4 : Int32, jai 0 μ v3 x4 = some v4 ∧ (∃ v5 : Option Nat, jg μ (some b) 12 15 = some (va_rf v5) ∧ (∃ v6 : Int32, jai 0 μ v5 x3 = some v6 ∧ (((v4 < v6) → (∀ v7 : Int32, v7 = x4 + (1 : Int32) → (K5 x1 x2 x3 v7 μ))) ∧ (¬ (v4 < v6) → (∀ v8 : Int32, v8 = x4 + (1 : Int32) → (K5 x1 x2 x4 v8 μ))))))))) ∧ (¬ (x2 = 0) → (∃ v9 : Option Nat, jg μ (some b) 12 15 = some (va_rf v9) ∧ (∃ v10 : Int32, jai 0 μ v9 x4 = some v10 ∧ (∃ v11 : Option Nat, jg μ (some b) 12 15 = some (va_rf v11) ∧ (∃ v12 : Int32, jai 0 μ v11 x3 = some v12 ∧ (((v12 ≤ v10) → (∀ v13 : Int32, v13 = x4 + (1 : Int32) → (K5 x1 x2 x3 v13 μ))) ∧ (¬ (v12 ≤ v10) → (∀ v14 : Int32, v14 = x4 + (1 : Int32) → (K5 x1 x2 x4 v14 μ)))))))))))))
def wX10_nextLine_69 (z : Nat × Nat) (b : Nat) (K5 : Int32 → Int32 → Int32 → Int32 → jM → Prop) (Q : Int32 → jM → Prop) (x1 : Int32) (x2 : Int32) (x3 : Int32) (x4 : Int32) (μ : jM) : Prop :=
  wX10_nextLine_74 z b K5 Q x1 x2 x3 x4 (1 : Int32) μ
def wX10_nextLine_73 (z : Nat × Nat) (b : Nat) (K5 : Int32 → Int32 → Int32 → Int32 → jM → Prop) (Q : Int32 → jM → Prop) (x1 : Int32) (x2 : Int32) (x3 : Int32) (x4 : Int32) (μ : jM) : Prop :=
  wX10_nextLine_74 z b K5 Q x1 x2 x3 x4 (0 : Int32) μ
def wX10_nextLine_5_b (z : Nat × Nat) (b : Nat) (Q : Int32 → jM → Prop) (ih : Int32 → Int32 → Int32 → Int32 → jM → Prop) (x1 : Int32) (x2 : Int32) (x3 : Int32) (x4 : Int32) (μ : jM) : Prop :=
  ∃ v1 : Int32, jg μ (some b) 12 1 = some (.int v1) ∧ (((v1 ≤ x4) → (Q x3 μ)) ∧ (¬ (v1 ≤ x4) → (∃ v2 : Option Nat, jg μ (some b) 12 13 = some (va_rf v2) ∧ (∃ v3 : Int32, jai 0 μ v2 x4 = some v3 ∧ (((¬ v3 = x1) → (wX10_nextLine_73 z b ih Q x1 x2 x3 x4 μ)) ∧ (v3 = x1 → (((x2 = 0) → (∃ v4 : Option Nat, jg μ (some b) 12 3 = some (va_rf v4) ∧ (∃ v5 : Int64, jaj μ v4 ((70 : Int32) + x4) = some v5 ∧ (((v5 ≤ (0 : Int64)) → (wX10_nextLine_73 z b ih Q x1 x2 x3 x4 μ)) ∧ (¬ (v5 ≤ (0 : Int64)) → (wX10_nextLine_69 z b ih Q x1 x2 x3 x4 μ)))))) ∧ (¬ (x2 = 0) → (∃ v6 : Option Nat, jg μ (some b) 12 3 = some (va_rf v6) ∧ (∃ v7 : Int64, jaj μ v6 ((70 : Int32) + x4) = some v7 ∧ (∃ v8 : Option Nat, jg μ (some b) 12 14 = some (va_rf v8) ∧ (∃ v9 : Int32, jai 0 μ v8 x4 = some v9 ∧ ((((Int32.toInt64 v9) ≤ v7) → (wX10_nextLine_73 z b ih Q x1 x2 x3 x4 μ)) ∧ (¬ ((Int32.toInt64 v9) ≤ v7) → (wX10_nextLine_69 z b ih Q x1 x2 x3 x4 μ)))))))))))))))
def wX10_nextLine_5 (z : Nat × Nat) (b : Nat) (Q : Int32 → jM → Prop) (n : Nat) : Int32 → Int32 → Int32 → Int32 → jM → Prop := Nat.rec (motive := fun _ => Int32 → Int32 → Int32 → Int32 → jM → Prop) (fun _ _ _ _ _ => False) (fun _ ih => wX10_nextLine_5_b z b Q ih) n
def wX10_nextLine_0 (z : Nat × Nat) (b : Nat) (Q : Int32 → jM → Prop) (x1 : Int32) (x2 : Int32) (μ : jM) : Prop :=
  ∀ v1 : Int32, v1 = (-1 : Int32) → (∀ v2 : Int32, v2 = (0 : Int32) → (∃ n3 : Nat, wX10_nextLine_5 z b Q n3 x1 x2 v1 v2 μ))
def wX10_nextLine (z : Nat × Nat) (b : Nat) (x1 : Int32) (x2 : Int32) (μ : jM) (Q : Int32 → jM → Prop) : Prop := wX10_nextLine_0 z b Q x1 x2 μ
/-! X10_cover: cover (I)V -/
abbrev rmX10_cover : Room := { frames := 1, cells := 0, slots := 0, locals := 25 }
def wX10_cover_167 (z : Nat × Nat) (b : Nat) (K26 : Int32 → Int32 → Int32 → jM → Prop) (Q : Unit → jM → Prop) (x1 : Int32) (x2 : Int32) (t0 : Option Nat) (t1 : Int32) (t2 : Int64) (t3 : Int64) (μ : jM) : Prop :=
  ∃ μ1 : jM, jsj μ t0 t1 (t2 + t3) = some μ1 ∧ ((∃ fs, μ1 b = some (.inr (12, fs))) ∧ wX10_nextLine z b x1 x2 μ1 (fun v2 μ3 => K26 x1 x2 v2 μ3))
def wX10_cover_144 (z : Nat × Nat) (b : Nat) (K26 : Int32 → Int32 → Int32 → jM → Prop) (Q : Unit → jM → Prop) (x1 : Int32) (x2 : Int32) (x8 : Int64) (t0 : Option Nat) (t1 : Int32) (t2 : Int64) (t3 : Int64) (μ : jM) : Prop :=
  ∃ μ1 : jM, jsj μ t0 t1 (t2 + t3) = some μ1 ∧ (∃ v2 : Option Nat, jg μ1 (some b) 12 3 = some (va_rf v2) ∧ (∃ v3 : Int64, jaj μ1 v2 ((0 : Int32) + x1) = some v3 ∧ (((x2 = 0) → (wX10_cover_167 z b K26 Q x1 x2 v2 ((0 : Int32) + x1) v3 (-x8) μ1)) ∧ (¬ (x2 = 0) → (wX10_cover_167 z b K26 Q x1 x2 v2 ((0 : Int32) + x1) v3 x8 μ1)))))
def wX10_cover_120 (z : Nat × Nat) (b : Nat) (K26 : Int32 → Int32 → Int32 → jM → Prop) (Q : Unit → jM → Prop) (x1 : Int32) (x2 : Int32) (x3 : Int32) (t0 : Int64) (μ : jM) : Prop :=
  ∃ v1 : Option Nat, jg μ (some b) 12 3 = some (va_rf v1) ∧ (∃ v2 : Int64, jaj μ v1 ((70 : Int32) + x3) = some v2 ∧ (((x2 = 0) → (wX10_cover_144 z b K26 Q x1 x2 t0 v1 ((70 : Int32) + x3) v2 (-t0) μ)) ∧ (¬ (x2 = 0) → (wX10_cover_144 z b K26 Q x1 x2 t0 v1 ((70 : Int32) + x3) v2 t0 μ))))
def wX10_cover_103 (z : Nat × Nat) (b : Nat) (K26 : Int32 → Int32 → Int32 → jM → Prop) (Q : Unit → jM → Prop) (x1 : Int32) (x2 : Int32) (x3 : Int32) (x4 : Int64) (t0 : Int64) (μ : jM) : Prop :=
  ((t0 ≤ x4) → (wX10_cover_120 z b K26 Q x1 x2 x3 t0 μ)) ∧ (¬ (t0 ≤ x4) → (wX10_cover_120 z b K26 Q x1 x2 x3 x4 μ))
def wX10_cover_77 (z : Nat × Nat) (b : Nat) (K26 : Int32 → Int32 → Int32 → jM → Prop) (Q : Unit → jM → Prop) (x1 : Int32) (x2 : Int32) (x3 : Int32) (t0 : Int64) (μ : jM) : Prop :=
  ((x2 = 0) → (∃ v1 : Option Nat, jg μ (some b) 12 3 = some (va_rf v1) ∧ (∃ v2 : Int64, jaj μ v1 ((0 : Int32) + x1) = some v2 ∧ (wX10_cover_103 z b K26 Q x1 x2 x3 t0 v2 μ)))) ∧ (¬ (x2 = 0) → (∃ v3 : Option Nat, jg μ (some b) 12 3 = some (va_rf v3) ∧ (∃ v4 : Int64, jaj μ v3 ((0 : Int32) + x1) = some v4 ∧ (wX10_cover_103 z b K26 Q x1 x2 x3 t0 (-v4) μ))))
def wX10_cover_26_b (z : Nat × Nat) (b : Nat) (Q : Unit → jM → Prop) (ih : Int32 → Int32 → Int32 → jM → Prop) (x1 : Int32) (x2 : Int32) (x3 : Int32) (μ : jM) : Prop :=
  ((x3 = (-1 : Int32)) → (Q () μ)) ∧ (¬ (x3 = (-1 : Int32)) → (∃ v1 : Option Nat, jg μ (some b) 12 3 = some (va_rf v1) ∧ (∃ v2 : Int64, jaj μ v1 ((0 : Int32) + x1) = some v2 ∧ (((v2 = (0 : Int64)) → (Q () μ)) ∧ (¬ (v2 = (0 : Int64)) → (((x2 = 0) → (∃ v3 : Option Nat, jg μ (some b) 12 3 = some (va_rf v3) ∧ (∃ v4 : Int64, jaj μ v3 ((70 : Int32) + x3) = some v4 ∧ (wX10_cover_77 z b ih Q x1 x2 x3 v4 μ)))) ∧ (¬ (x2 = 0) → (∃ v5 : Option Nat, jg μ (some b) 12 14 = some (va_rf v5) ∧ (∃ v6 : Int32, jai 0 μ v5 x3 = some v6 ∧ (∃ v7 : Option Nat, jg μ (some b) 12 3 = some (va_rf v7) ∧ (∃ v8 : Int64, jaj μ v7 ((70 : Int32) + x3) = some v8 ∧ (wX10_cover_77 z b ih Q x1 x2 x3 ((Int32.toInt64 v6) - v8) μ))))))))))))
def wX10_cover_26 (z : Nat × Nat) (b : Nat) (Q : Unit → jM → Prop) (n : Nat) : Int32 → Int32 → Int32 → jM → Prop := Nat.rec (motive := fun _ => Int32 → Int32 → Int32 → jM → Prop) (fun _ _ _ _ => False) (fun _ ih => wX10_cover_26_b z b Q ih) n
def wX10_cover_18 (z : Nat × Nat) (b : Nat) (Q : Unit → jM → Prop) (x1 : Int32) (t0 : Int32) (μ : jM) : Prop :=
  (∃ fs, μ b = some (.inr (12, fs))) ∧ wX10_nextLine z b x1 t0 μ (fun v1 μ2 => ∃ n3 : Nat, wX10_cover_26 z b Q n3 x1 t0 v1 μ2)
def wX10_cover_0 (z : Nat × Nat) (b : Nat) (Q : Unit → jM → Prop) (x1 : Int32) (μ : jM) : Prop :=
  ∃ v1 : Option Nat, jg μ (some b) 12 3 = some (va_rf v1) ∧ (∃ v2 : Int64, jaj μ v1 ((0 : Int32) + x1) = some v2 ∧ ((((0 : Int64) ≤ v2) → (wX10_cover_18 z b Q x1 (0 : Int32) μ)) ∧ (¬ ((0 : Int64) ≤ v2) → (wX10_cover_18 z b Q x1 (1 : Int32) μ))))
def wX10_cover (z : Nat × Nat) (b : Nat) (x1 : Int32) (μ : jM) (Q : Unit → jM → Prop) : Prop := wX10_cover_0 z b Q x1 μ
/-! X10_exposed: exposed (I)J -/
abbrev rmX10_exposed : Room := { frames := 0, cells := 0, slots := 0, locals := 0 }
def wX10_exposed_5_b (z : Nat × Nat) (b : Nat) (Q : Int64 → jM → Prop) (ih : Int32 → Int64 → Int32 → jM → Prop) (x1 : Int32) (x2 : Int64) (x4 : Int32) (μ : jM) : Prop :=
  ∃ v1 : Int32, jg μ (some b) 12 0 = some (.int v1) ∧ (((v1 ≤ x4) → (Q x2 μ)) ∧ (¬ (v1 ≤ x4) → (∃ v2 : Option Nat, jg μ (some b) 12 7 = some (va_rf v2) ∧ (∃ v3 : Int32, jai 0 μ v2 x4 = some v3 ∧ (((¬ v3 = x1) → (∀ v4 : Int64, v4 = (x2 + (0 : Int64)) → (∀ v5 : Int32, v5 = x4 + (1 : Int32) → (ih x1 v4 v5 μ)))) ∧ (v3 = x1 → (∃ v6 : Option Nat, jg μ (some b) 12 3 = some (va_rf v6) ∧ (∃ v7 : Int64, jaj μ v6 ((0 : Int32) + x4) = some v7 ∧ (((v7 ≤ (0 : Int64)) → (∀ v8 : Int64, v8 = (x2 + (0 : Int64)) → (∀ v9 : Int32, v9 = x4 + (1 : Int32) → (ih x1 v8 v9 μ)))) ∧ (¬ (v7 ≤ (0 : Int64)) → (∃ v10 : Option Nat, jg μ (some b) 12 3 = some (va_rf v10) ∧ (∃ v11 : Int64, jaj μ v10 ((0 : Int32) + x4) = some v11 ∧ (∀ v12 : Int64, v12 = (x2 + v11) → (∀ v13 : Int32, v13 = x4 + (1 : Int32) → (ih x1 v12 v13 μ)))))))))))))))
def wX10_exposed_5 (z : Nat × Nat) (b : Nat) (Q : Int64 → jM → Prop) (n : Nat) : Int32 → Int64 → Int32 → jM → Prop := Nat.rec (motive := fun _ => Int32 → Int64 → Int32 → jM → Prop) (fun _ _ _ _ => False) (fun _ ih => wX10_exposed_5_b z b Q ih) n
def wX10_exposed_0 (z : Nat × Nat) (b : Nat) (Q : Int64 → jM → Prop) (x1 : Int32) (μ : jM) : Prop :=
  ∀ v1 : Int64, v1 = (0 : Int64) → (∀ v2 : Int32, v2 = (0 : Int32) → (∃ n3 : Nat, wX10_exposed_5 z b Q n3 x1 v1 v2 μ))
def wX10_exposed (z : Nat × Nat) (b : Nat) (x1 : Int32) (μ : jM) (Q : Int64 → jM → Prop) : Prop := wX10_exposed_0 z b Q x1 μ
/-! X10_excess: excess (I)J -/
abbrev rmX10_excess : Room := { frames := 1, cells := 0, slots := 0, locals := 24 }
def wX10_excess_0 (z : Nat × Nat) (b : Nat) (Q : Int64 → jM → Prop) (x1 : Int32) (μ : jM) : Prop :=
  (∃ fs, μ b = some (.inr (12, fs))) ∧ wX10_exposed z b x1 μ (fun v1 μ2 => ∃ v3 : Option Nat, jg μ2 (some b) 12 16 = some (va_rf v3) ∧ (∃ v4 : Int32, jai 0 μ2 v3 x1 = some v4 ∧ (∀ v5 : Int64, v5 = (v1 - (Int32.toInt64 v4)) → (∃ v6 : Option Nat, jg μ2 (some b) 12 16 = some (va_rf v6) ∧ (∃ v7 : Int32, jai 0 μ2 v6 x1 = some v7 ∧ (((v7 = (-1 : Int32)) → (Q (0 : Int64) μ2)) ∧ (¬ (v7 = (-1 : Int32)) → ((((0 : Int64) ≤ v5) → (Q v5 μ2)) ∧ (¬ ((0 : Int64) ≤ v5) → (Q (0 : Int64) μ2))))))))))
def wX10_excess (z : Nat × Nat) (b : Nat) (x1 : Int32) (μ : jM) (Q : Int64 → jM → Prop) : Prop := wX10_excess_0 z b Q x1 μ
/-! X10_room: room (I)J -/
abbrev rmX10_room : Room := { frames := 1, cells := 0, slots := 0, locals := 24 }
def wX10_room_0 (z : Nat × Nat) (b : Nat) (Q : Int64 → jM → Prop) (x1 : Int32) (μ : jM) : Prop :=
  ∃ v1 : Option Nat, jg μ (some b) 12 16 = some (va_rf v1) ∧ (∃ v2 : Int32, jai 0 μ v1 x1 = some v2 ∧ ((∃ fs, μ b = some (.inr (12, fs))) ∧ wX10_exposed z b x1 μ (fun v3 μ4 => ∀ v5 : Int64, v5 = ((Int32.toInt64 v2) - v3) → (∃ v6 : Option Nat, jg μ4 (some b) 12 16 = some (va_rf v6) ∧ (∃ v7 : Int32, jai 0 μ4 v6 x1 = some v7 ∧ (((¬ v7 = (-1 : Int32)) → ((((0 : Int64) ≤ v5) → (Q v5 μ4)) ∧ (¬ ((0 : Int64) ≤ v5) → (Q (0 : Int64) μ4)))) ∧ (v7 = (-1 : Int32) → (Q (4000000000000000000 : Int64) μ4))))))))
def wX10_room (z : Nat × Nat) (b : Nat) (x1 : Int32) (μ : jM) (Q : Int64 → jM → Prop) : Prop := wX10_room_0 z b Q x1 μ
/-! X10_getter: getter (I)I -/
abbrev rmX10_getter : Room := { frames := 2, cells := 0, slots := 0, locals := 47 }
def wX10_getter_4_b (z : Nat × Nat) (b : Nat) (Q : Int32 → jM → Prop) (ih : Int32 → Int32 → Int32 → jM → Prop) (x1 : Int32) (x2 : Int32) (x3 : Int32) (μ : jM) : Prop :=
  ∃ v1 : Int32, jg μ (some b) 12 0 = some (.int v1) ∧ (((v1 ≤ x3) → (Q x2 μ)) ∧ (¬ (v1 ≤ x3) → (∃ v2 : Option Nat, jg μ (some b) 12 6 = some (va_rf v2) ∧ (∃ v3 : Int32, jai 0 μ v2 x3 = some v3 ∧ (((¬ v3 = x1) → (∀ v4 : Int32, v4 = x3 + (1 : Int32) → (ih x1 x2 v4 μ))) ∧ (v3 = x1 → (∃ v5 : Option Nat, jg μ (some b) 12 3 = some (va_rf v5) ∧ (∃ v6 : Int64, jaj μ v5 ((0 : Int32) + x3) = some v6 ∧ (((v6 < (0 : Int64)) → (∀ v7 : Int32, v7 = x3 + (1 : Int32) → (ih x1 x2 v7 μ))) ∧ (¬ (v6 < (0 : Int64)) → (∃ v8 : Option Nat, jg μ (some b) 12 7 = some (va_rf v8) ∧ (∃ v9 : Int32, jai 0 μ v8 x3 = some v9 ∧ ((∃ fs, μ b = some (.inr (12, fs))) ∧ wX10_room z b v9 μ (fun v10 μ11 => ((v10 ≤ (0 : Int64)) → (∀ v12 : Int32, v12 = x3 + (1 : Int32) → (ih x1 x2 v12 μ11))) ∧ (¬ (v10 ≤ (0 : Int64)) → (((x2 = (-1 : Int32)) → (∀ v13 : Int32, v13 = x3 + (1 : Int32) → (ih x1 x3 v13 μ11))) ∧ (¬ (x2 = (-1 : Int32)) → (∃ v14 : Option Nat, jg μ11 (some b) 12 7 = some (va_rf v14) ∧ (∃ v15 : Int32, jai 0 μ11 v14 x3 = some v15 ∧ ((∃ fs, μ11 b = some (.inr (12, fs))) ∧ wX10_room z b v15 μ11 (fun v16 μ17 => ∃ v18 : Option Nat, jg μ17 (some b) 12 7 = some (va_rf v18) ∧ (∃ v19 : Int32, jai 0 μ17 v18 x2 = some v19 ∧ ((∃ fs, μ17 b = some (.inr (12, fs))) ∧ wX10_room z b v19 μ17 (fun v20 μ21 => ((v16 ≤ v20) → (∀ v22 : Int32, v22 = x3 + (1 : Int32) → (ih x1 x2 v22 μ21))) ∧ (¬ (v16 ≤ v20) → (∀ v23 : Int32, v23 = x3 + (1 : Int32) → (ih x1 x3 v23 μ21)))))))))))))))))))))))))))
def wX10_getter_4 (z : Nat × Nat) (b : Nat) (Q : Int32 → jM → Prop) (n : Nat) : Int32 → Int32 → Int32 → jM → Prop := Nat.rec (motive := fun _ => Int32 → Int32 → Int32 → jM → Prop) (fun _ _ _ _ => False) (fun _ ih => wX10_getter_4_b z b Q ih) n
def wX10_getter_0 (z : Nat × Nat) (b : Nat) (Q : Int32 → jM → Prop) (x1 : Int32) (μ : jM) : Prop :=
  ∀ v1 : Int32, v1 = (-1 : Int32) → (∀ v2 : Int32, v2 = (0 : Int32) → (∃ n3 : Nat, wX10_getter_4 z b Q n3 x1 v1 v2 μ))
def wX10_getter (z : Nat × Nat) (b : Nat) (x1 : Int32) (μ : jM) (Q : Int32 → jM → Prop) : Prop := wX10_getter_0 z b Q x1 μ
/-! X10_givesFirst: givesFirst (II)Z -/
abbrev rmX10_givesFirst : Room := { frames := 2, cells := 0, slots := 0, locals := 47 }
def wX10_givesFirst_0 (z : Nat × Nat) (b : Nat) (Q : Int32 → jM → Prop) (x1 : Int32) (x2 : Int32) (μ : jM) : Prop :=
  ∃ v1 : Option Nat, jg μ (some b) 12 7 = some (va_rf v1) ∧ (∃ v2 : Int32, jai 0 μ v1 x1 = some v2 ∧ ((∃ fs, μ b = some (.inr (12, fs))) ∧ wX10_excess z b v2 μ (fun v3 μ4 => ∃ v5 : Option Nat, jg μ4 (some b) 12 7 = some (va_rf v5) ∧ (∃ v6 : Int32, jai 0 μ4 v5 x2 = some v6 ∧ ((∃ fs, μ4 b = some (.inr (12, fs))) ∧ wX10_excess z b v6 μ4 (fun v7 μ8 => ∀ v9 : Int64, v9 = (v3 - v7) → (∃ v10 : Option Nat, jg μ8 (some b) 12 7 = some (va_rf v10) ∧ (∃ v11 : Int32, jai 0 μ8 v10 x2 = some v11 ∧ (∃ v12 : Option Nat, jg μ8 (some b) 12 7 = some (va_rf v12) ∧ (∃ v13 : Int32, jai 0 μ8 v12 x1 = some v13 ∧ (∀ v14 : Int32, v14 = (v11 - v13) → ((((0 : Int64) < v9) → (Q (1 : Int32) μ8)) ∧ (¬ ((0 : Int64) < v9) → (((¬ v9 = (0 : Int64)) → (Q (0 : Int32) μ8)) ∧ (v9 = (0 : Int64) → (((0 < v14) → (Q (1 : Int32) μ8)) ∧ (¬ (0 < v14) → (((¬ v14 = 0) → (Q (0 : Int32) μ8)) ∧ (v14 = 0 → (∃ v15 : Option Nat, jg μ8 (some b) 12 3 = some (va_rf v15) ∧ (∃ v16 : Int64, jaj μ8 v15 ((0 : Int32) + x1) = some v16 ∧ (∃ v17 : Option Nat, jg μ8 (some b) 12 3 = some (va_rf v17) ∧ (∃ v18 : Int64, jaj μ8 v17 ((0 : Int32) + x2) = some v18 ∧ (((v16 ≤ v18) → (Q (0 : Int32) μ8)) ∧ (¬ (v16 ≤ v18) → (Q (1 : Int32) μ8))))))))))))))))))))))))))
def wX10_givesFirst (z : Nat × Nat) (b : Nat) (x1 : Int32) (x2 : Int32) (μ : jM) (Q : Int32 → jM → Prop) : Prop := wX10_givesFirst_0 z b Q x1 x2 μ
/-! X10_giver: giver ()I -/
abbrev rmX10_giver : Room := { frames := 3, cells := 0, slots := 0, locals := 72 }
def wX10_giver_4_b (z : Nat × Nat) (b : Nat) (Q : Int32 → jM → Prop) (ih : Int32 → Int32 → jM → Prop) (x1 : Int32) (x2 : Int32) (μ : jM) : Prop :=
  ∃ v1 : Int32, jg μ (some b) 12 0 = some (.int v1) ∧ (((v1 ≤ x2) → (Q x1 μ)) ∧ (¬ (v1 ≤ x2) → (∃ v2 : Option Nat, jg μ (some b) 12 3 = some (va_rf v2) ∧ (∃ v3 : Int64, jaj μ v2 ((0 : Int32) + x2) = some v3 ∧ (((v3 ≤ (0 : Int64)) → (∀ v4 : Int32, v4 = x2 + (1 : Int32) → (ih x1 v4 μ))) ∧ (¬ (v3 ≤ (0 : Int64)) → (∃ v5 : Option Nat, jg μ (some b) 12 7 = some (va_rf v5) ∧ (∃ v6 : Int32, jai 0 μ v5 x2 = some v6 ∧ ((∃ fs, μ b = some (.inr (12, fs))) ∧ wX10_excess z b v6 μ (fun v7 μ8 => ((v7 ≤ (0 : Int64)) → (∀ v9 : Int32, v9 = x2 + (1 : Int32) → (ih x1 v9 μ8))) ∧ (¬ (v7 ≤ (0 : Int64)) → (∃ v10 : Option Nat, jg μ8 (some b) 12 6 = some (va_rf v10) ∧ (∃ v11 : Int32, jai 0 μ8 v10 x2 = some v11 ∧ ((∃ fs, μ8 b = some (.inr (12, fs))) ∧ wX10_getter z b v11 μ8 (fun v12 μ13 => ((v12 = (-1 : Int32)) → (∀ v14 : Int32, v14 = x2 + (1 : Int32) → (ih x1 v14 μ13))) ∧ (¬ (v12 = (-1 : Int32)) → (((x1 = (-1 : Int32)) → (∀ v15 : Int32, v15 = x2 + (1 : Int32) → (ih x2 v15 μ13))) ∧ (¬ (x1 = (-1 : Int32)) → ((∃ fs, μ13 b = some (.inr (12, fs))) ∧ wX10_givesFirst z b x2 x1 μ13 (fun v16 μ17 => ((v16 = 0) → (∀ v18 : Int32, v18 = x2 + (1 : Int32) → (ih x1 v18 μ17))) ∧ (¬ (v16 = 0) → (∀ v19 : Int32, v19 = x2 + (1 : Int32) → (ih x2 v19 μ17)))))))))))))))))))))))
def wX10_giver_4 (z : Nat × Nat) (b : Nat) (Q : Int32 → jM → Prop) (n : Nat) : Int32 → Int32 → jM → Prop := Nat.rec (motive := fun _ => Int32 → Int32 → jM → Prop) (fun _ _ _ => False) (fun _ ih => wX10_giver_4_b z b Q ih) n
def wX10_giver_0 (z : Nat × Nat) (b : Nat) (Q : Int32 → jM → Prop)  (μ : jM) : Prop :=
  ∀ v1 : Int32, v1 = (-1 : Int32) → (∀ v2 : Int32, v2 = (0 : Int32) → (∃ n3 : Nat, wX10_giver_4 z b Q n3 v1 v2 μ))
def wX10_giver (z : Nat × Nat) (b : Nat)  (μ : jM) (Q : Int32 → jM → Prop) : Prop := wX10_giver_0 z b Q  μ
/-! X10_ease: ease ()V -/
abbrev rmX10_ease : Room := { frames := 4, cells := 0, slots := 0, locals := 94 }
def wX10_ease_87 (z : Nat × Nat) (b : Nat) (K5 : Int32 → jM → Prop) (Q : Unit → jM → Prop) (x1 : Int32) (x2 : Int32) (t0 : Int64) (μ : jM) : Prop :=
  (∃ fs, μ b = some (.inr (12, fs))) ∧ wX10_moves z b x1 x2 t0 μ (fun _ μ2 => (∃ fs, μ2 b = some (.inr (12, fs))) ∧ wX10_giver z b  μ2 (fun v3 μ4 => K5 v3 μ4))
def wX10_ease_57 (z : Nat × Nat) (b : Nat) (K5 : Int32 → jM → Prop) (Q : Unit → jM → Prop) (x1 : Int32) (x2 : Int32) (t0 : Int64) (μ : jM) : Prop :=
  ∃ v1 : Option Nat, jg μ (some b) 12 7 = some (va_rf v1) ∧ (∃ v2 : Int32, jai 0 μ v1 x2 = some v2 ∧ ((∃ fs, μ b = some (.inr (12, fs))) ∧ wX10_room z b v2 μ (fun v3 μ4 => ((t0 ≤ v3) → (wX10_ease_87 z b K5 Q x1 x2 t0 μ4)) ∧ (¬ (t0 ≤ v3) → (∃ v5 : Option Nat, jg μ4 (some b) 12 7 = some (va_rf v5) ∧ (∃ v6 : Int32, jai 0 μ4 v5 x2 = some v6 ∧ ((∃ fs, μ4 b = some (.inr (12, fs))) ∧ wX10_room z b v6 μ4 (fun v7 μ8 => wX10_ease_87 z b K5 Q x1 x2 v7 μ8))))))))
def wX10_ease_5_b (z : Nat × Nat) (b : Nat) (Q : Unit → jM → Prop) (ih : Int32 → jM → Prop) (x1 : Int32) (μ : jM) : Prop :=
  ((x1 = (-1 : Int32)) → (Q () μ)) ∧ (¬ (x1 = (-1 : Int32)) → (∃ v1 : Option Nat, jg μ (some b) 12 6 = some (va_rf v1) ∧ (∃ v2 : Int32, jai 0 μ v1 x1 = some v2 ∧ ((∃ fs, μ b = some (.inr (12, fs))) ∧ wX10_getter z b v2 μ (fun v3 μ4 => ∃ v5 : Option Nat, jg μ4 (some b) 12 7 = some (va_rf v5) ∧ (∃ v6 : Int32, jai 0 μ4 v5 x1 = some v6 ∧ ((∃ fs, μ4 b = some (.inr (12, fs))) ∧ wX10_excess z b v6 μ4 (fun v7 μ8 => ∃ v9 : Option Nat, jg μ8 (some b) 12 3 = some (va_rf v9) ∧ (∃ v10 : Int64, jaj μ8 v9 ((0 : Int32) + x1) = some v10 ∧ (((v7 ≤ v10) → (wX10_ease_57 z b ih Q x1 v3 v7 μ8)) ∧ (¬ (v7 ≤ v10) → (∃ v11 : Option Nat, jg μ8 (some b) 12 3 = some (va_rf v11) ∧ (∃ v12 : Int64, jaj μ8 v11 ((0 : Int32) + x1) = some v12 ∧ (wX10_ease_57 z b ih Q x1 v3 v12 μ8))))))))))))))
def wX10_ease_5 (z : Nat × Nat) (b : Nat) (Q : Unit → jM → Prop) (n : Nat) : Int32 → jM → Prop := Nat.rec (motive := fun _ => Int32 → jM → Prop) (fun _ _ => False) (fun _ ih => wX10_ease_5_b z b Q ih) n
def wX10_ease_0 (z : Nat × Nat) (b : Nat) (Q : Unit → jM → Prop)  (μ : jM) : Prop :=
  (∃ fs, μ b = some (.inr (12, fs))) ∧ wX10_giver z b  μ (fun v1 μ2 => ∃ n3 : Nat, wX10_ease_5 z b Q n3 v1 μ2)
def wX10_ease (z : Nat × Nat) (b : Nat)  (μ : jM) (Q : Unit → jM → Prop) : Prop := wX10_ease_0 z b Q  μ
/-! X10_isBelow: isBelow (II)Z -/
abbrev rmX10_isBelow : Room := { frames := 0, cells := 0, slots := 0, locals := 0 }
def wX10_isBelow_22 (z : Nat × Nat) (b : Nat) (Q : Int32 → jM → Prop) (x2 : Int32) (x3 : Int32) (μ : jM) : Prop :=
  ((¬ x3 = x2) → (Q (0 : Int32) μ)) ∧ (x3 = x2 → (Q (1 : Int32) μ))
def wX10_isBelow_2_b (z : Nat × Nat) (b : Nat) (Q : Int32 → jM → Prop) (ih : Int32 → Int32 → jM → Prop) (x2 : Int32) (x3 : Int32) (μ : jM) : Prop :=
  ((x3 = x2) → (wX10_isBelow_22 z b Q x2 x3 μ)) ∧ (¬ (x3 = x2) → (((x3 = (-1 : Int32)) → (wX10_isBelow_22 z b Q x2 x3 μ)) ∧ (¬ (x3 = (-1 : Int32)) → (∃ v1 : Option Nat, jg μ (some b) 12 5 = some (va_rf v1) ∧ (∃ v2 : Int32, jai 0 μ v1 x3 = some v2 ∧ (ih x2 v2 μ))))))
def wX10_isBelow_2 (z : Nat × Nat) (b : Nat) (Q : Int32 → jM → Prop) (n : Nat) : Int32 → Int32 → jM → Prop := Nat.rec (motive := fun _ => Int32 → Int32 → jM → Prop) (fun _ _ _ => False) (fun _ ih => wX10_isBelow_2_b z b Q ih) n
def wX10_isBelow_0 (z : Nat × Nat) (b : Nat) (Q : Int32 → jM → Prop) (x1 : Int32) (x2 : Int32) (μ : jM) : Prop :=
  ∃ n1 : Nat, wX10_isBelow_2 z b Q n1 x2 x1 μ
def wX10_isBelow (z : Nat × Nat) (b : Nat) (x1 : Int32) (x2 : Int32) (μ : jM) (Q : Int32 → jM → Prop) : Prop := wX10_isBelow_0 z b Q x1 x2 μ
/-! X10_sumOf: sumOf (II)J -/
abbrev rmX10_sumOf : Room := { frames := 1, cells := 0, slots := 0, locals := 23 }
def wX10_sumOf_5_b (z : Nat × Nat) (b : Nat) (Q : Int64 → jM → Prop) (ih : Int32 → Int32 → Int64 → Int32 → jM → Prop) (x1 : Int32) (x2 : Int32) (x3 : Int64) (x5 : Int32) (μ : jM) : Prop :=
  ∃ v1 : Int32, jg μ (some b) 12 0 = some (.int v1) ∧ (((v1 ≤ x5) → (Q x3 μ)) ∧ (¬ (v1 ≤ x5) → (∃ v2 : Option Nat, jg μ (some b) 12 6 = some (va_rf v2) ∧ (∃ v3 : Int32, jai 0 μ v2 x5 = some v3 ∧ (((¬ v3 = x1) → (∀ v4 : Int64, v4 = (x3 + (0 : Int64)) → (∀ v5 : Int32, v5 = x5 + (1 : Int32) → (ih x1 x2 v4 v5 μ)))) ∧ (v3 = x1 → ((∃ fs, μ b = some (.inr (12, fs))) ∧ wX10_isBelow z b x5 x2 μ (fun v6 μ7 => ((v6 = 0) → (∀ v8 : Int64, v8 = (x3 + (0 : Int64)) → (∀ v9 : Int32, v9 = x5 + (1 : Int32) → (ih x1 x2 v8 v9 μ7)))) ∧ (¬ (v6 = 0) → (∃ v10 : Option Nat, jg μ7 (some b) 12 3 = some (va_rf v10) ∧ (∃ v11 : Int64, jaj μ7 v10 ((0 : Int32) + x5) = some v11 ∧ (∀ v12 : Int64, v12 = (x3 + v11) → (∀ v13 : Int32, v13 = x5 + (1 : Int32) → (ih x1 x2 v12 v13 μ7))))))))))))))
def wX10_sumOf_5 (z : Nat × Nat) (b : Nat) (Q : Int64 → jM → Prop) (n : Nat) : Int32 → Int32 → Int64 → Int32 → jM → Prop := Nat.rec (motive := fun _ => Int32 → Int32 → Int64 → Int32 → jM → Prop) (fun _ _ _ _ _ => False) (fun _ ih => wX10_sumOf_5_b z b Q ih) n
def wX10_sumOf_0 (z : Nat × Nat) (b : Nat) (Q : Int64 → jM → Prop) (x1 : Int32) (x2 : Int32) (μ : jM) : Prop :=
  ∀ v1 : Int64, v1 = (0 : Int64) → (∀ v2 : Int32, v2 = (0 : Int32) → (∃ n3 : Nat, wX10_sumOf_5 z b Q n3 x1 x2 v1 v2 μ))
def wX10_sumOf (z : Nat × Nat) (b : Nat) (x1 : Int32) (x2 : Int32) (μ : jM) (Q : Int64 → jM → Prop) : Prop := wX10_sumOf_0 z b Q x1 x2 μ
/-! X10_accrue: accrue ()V -/
abbrev rmX10_accrue : Room := { frames := 2, cells := 0, slots := 0, locals := 48 }
def wX10_accrue_156 (z : Nat × Nat) (b : Nat) (K2 : Int32 → jM → Prop) (K91 : Int32 → Int64 → Int32 → jM → Prop) (Q : Unit → jM → Prop) (x1 : Int32) (x2 : Int64) (x4 : Int32) (x5 : Int64) (t0 : Option Nat) (t1 : Int32) (t2 : Int64) (t3 : Int64) (μ : jM) : Prop :=
  ∃ μ1 : jM, jsj μ t0 t1 (t2 + t3) = some μ1 ∧ (∃ v2 : Option Nat, jg μ1 (some b) 12 3 = some (va_rf v2) ∧ (∃ v3 : Int64, jaj μ1 v2 ((40 : Int32) + x4) = some v3 ∧ ((((0 : Int64) ≤ x2) → (∃ μ4 : jM, jsj μ1 v2 ((40 : Int32) + x4) (v3 + (0 : Int64)) = some μ4 ∧ (∀ v5 : Int32, v5 = x4 + (1 : Int32) → (K91 x1 x2 v5 μ4)))) ∧ (¬ ((0 : Int64) ≤ x2) → ((((0 : Int64) ≤ x5) → (∃ μ6 : jM, jsj μ1 v2 ((40 : Int32) + x4) (v3 + (0 : Int64)) = some μ6 ∧ (∀ v7 : Int32, v7 = x4 + (1 : Int32) → (K91 x1 x2 v7 μ6)))) ∧ (¬ ((0 : Int64) ≤ x5) → (∃ μ8 : jM, jsj μ1 v2 ((40 : Int32) + x4) (v3 + (-x5)) = some μ8 ∧ (∀ v9 : Int32, v9 = x4 + (1 : Int32) → (K91 x1 x2 v9 μ8)))))))))
def wX10_accrue_155 (z : Nat × Nat) (b : Nat) (K2 : Int32 → jM → Prop) (K91 : Int32 → Int64 → Int32 → jM → Prop) (Q : Unit → jM → Prop) (x1 : Int32) (x2 : Int64) (x4 : Int32) (x5 : Int64) (t0 : Option Nat) (t1 : Int32) (t2 : Int64) (μ : jM) : Prop :=
  wX10_accrue_156 z b K2 K91 Q x1 x2 x4 x5 t0 t1 t2 (0 : Int64) μ
def wX10_accrue_124 (z : Nat × Nat) (b : Nat) (K2 : Int32 → jM → Prop) (K91 : Int32 → Int64 → Int32 → jM → Prop) (Q : Unit → jM → Prop) (x1 : Int32) (x2 : Int64) (x4 : Int32) (t0 : Int64) (μ : jM) : Prop :=
  ∃ v1 : Option Nat, jg μ (some b) 12 3 = some (va_rf v1) ∧ (∃ v2 : Int64, jaj μ v1 ((30 : Int32) + x4) = some v2 ∧ (((x2 ≤ (0 : Int64)) → (wX10_accrue_155 z b K2 K91 Q x1 x2 x4 t0 v1 ((30 : Int32) + x4) v2 μ)) ∧ (¬ (x2 ≤ (0 : Int64)) → (((t0 ≤ (0 : Int64)) → (wX10_accrue_155 z b K2 K91 Q x1 x2 x4 t0 v1 ((30 : Int32) + x4) v2 μ)) ∧ (¬ (t0 ≤ (0 : Int64)) → (wX10_accrue_156 z b K2 K91 Q x1 x2 x4 t0 v1 ((30 : Int32) + x4) v2 t0 μ))))))
def wX10_accrue_91_b (z : Nat × Nat) (b : Nat) (K2 : Int32 → jM → Prop) (Q : Unit → jM → Prop) (ih : Int32 → Int64 → Int32 → jM → Prop) (x1 : Int32) (x2 : Int64) (x4 : Int32) (μ : jM) : Prop :=
  ∃ v1 : Int32, jg μ (some b) 12 0 = some (.int v1) ∧ (((v1 ≤ x4) → (∀ v2 : Int32, v2 = x1 + (1 : Int32) → (K2 v2 μ))) ∧ (¬ (v1 ≤ x4) → (∃ v3 : Option Nat, jg μ (some b) 12 6 = some (va_rf v3) ∧ (∃ v4 : Int32, jai 0 μ v3 x4 = some v4 ∧ (((¬ v4 = x1) → (wX10_accrue_124 z b K2 ih Q x1 x2 x4 (0 : Int64) μ)) ∧ (v4 = x1 → (∃ v5 : Option Nat, jg μ (some b) 12 3 = some (va_rf v5) ∧ (∃ v6 : Int64, jaj μ v5 ((0 : Int32) + x4) = some v6 ∧ (wX10_accrue_124 z b K2 ih Q x1 x2 x4 v6 μ)))))))))
def wX10_accrue_91 (z : Nat × Nat) (b : Nat) (K2 : Int32 → jM → Prop) (Q : Unit → jM → Prop) (n : Nat) : Int32 → Int64 → Int32 → jM → Prop := Nat.rec (motive := fun _ => Int32 → Int64 → Int32 → jM → Prop) (fun _ _ _ _ => False) (fun _ ih => wX10_accrue_91_b z b K2 Q ih) n
def wX10_accrue_54 (z : Nat × Nat) (b : Nat) (K2 : Int32 → jM → Prop) (Q : Unit → jM → Prop) (x1 : Int32) (x2 : Int64) (t0 : Option Nat) (t1 : Int32) (t2 : Int64) (t3 : Int64) (μ : jM) : Prop :=
  ∃ μ1 : jM, jsj μ t0 t1 (t2 + t3) = some μ1 ∧ (∃ v2 : Option Nat, jg μ1 (some b) 12 3 = some (va_rf v2) ∧ (∃ v3 : Int64, jaj μ1 v2 ((20 : Int32) + x1) = some v3 ∧ ((((0 : Int64) ≤ x2) → (∃ μ4 : jM, jsj μ1 v2 ((20 : Int32) + x1) (v3 + (0 : Int64)) = some μ4 ∧ (∀ v5 : Int32, v5 = (0 : Int32) → (∃ n6 : Nat, wX10_accrue_91 z b K2 Q n6 x1 x2 v5 μ4)))) ∧ (¬ ((0 : Int64) ≤ x2) → (∃ v7 : Option Nat, jg μ1 (some b) 12 12 = some (va_rf v7) ∧ (∃ v8 : Int32, jai 0 μ1 v7 x1 = some v8 ∧ (∃ μ9 : jM, jsj μ1 v2 ((20 : Int32) + x1) (v3 + ((-x2) * (Int32.toInt64 v8))) = some μ9 ∧ (∀ v10 : Int32, v10 = (0 : Int32) → (∃ n11 : Nat, wX10_accrue_91 z b K2 Q n11 x1 x2 v10 μ9)))))))))
def wX10_accrue_205_b (z : Nat × Nat) (b : Nat) (Q : Unit → jM → Prop) (ih : Int32 → jM → Prop) (x1 : Int32) (μ : jM) : Prop :=
  ∃ v1 : Int32, jg μ (some b) 12 1 = some (.int v1) ∧ (((v1 ≤ x1) → (Q () μ)) ∧ (¬ (v1 ≤ x1) → (∃ v2 : Option Nat, jg μ (some b) 12 3 = some (va_rf v2) ∧ (∃ v3 : Int64, jaj μ v2 ((76 : Int32) + x1) = some v3 ∧ (∃ v4 : Option Nat, jg μ (some b) 12 3 = some (va_rf v4) ∧ (∃ v5 : Int64, jaj μ v4 ((70 : Int32) + x1) = some v5 ∧ (∃ v6 : Option Nat, jg μ (some b) 12 15 = some (va_rf v6) ∧ (∃ v7 : Int32, jai 0 μ v6 x1 = some v7 ∧ (∃ μ8 : jM, jsj μ v2 ((76 : Int32) + x1) (v3 + (v5 * (Int32.toInt64 v7))) = some μ8 ∧ (∀ v9 : Int32, v9 = x1 + (1 : Int32) → (ih v9 μ8)))))))))))
def wX10_accrue_205 (z : Nat × Nat) (b : Nat) (Q : Unit → jM → Prop) (n : Nat) : Int32 → jM → Prop := Nat.rec (motive := fun _ => Int32 → jM → Prop) (fun _ _ => False) (fun _ ih => wX10_accrue_205_b z b Q ih) n
def wX10_accrue_2_b (z : Nat × Nat) (b : Nat) (Q : Unit → jM → Prop) (ih : Int32 → jM → Prop) (x1 : Int32) (μ : jM) : Prop :=
  ∃ v1 : Int32, jg μ (some b) 12 0 = some (.int v1) ∧ (((v1 ≤ x1) → (∀ v2 : Int32, v2 = (0 : Int32) → (∃ n3 : Nat, wX10_accrue_205 z b Q n3 v2 μ))) ∧ (¬ (v1 ≤ x1) → ((∃ fs, μ b = some (.inr (12, fs))) ∧ wX10_isTop z b x1 μ (fun v4 μ5 => ((v4 = 0) → (∀ v6 : Int32, v6 = x1 + (1 : Int32) → (ih v6 μ5))) ∧ (¬ (v4 = 0) → ((∃ fs, μ5 b = some (.inr (12, fs))) ∧ wX10_sumOf z b x1 x1 μ5 (fun v7 μ8 => ∃ v9 : Option Nat, jg μ8 (some b) 12 3 = some (va_rf v9) ∧ (∃ v10 : Int64, jaj μ8 v9 ((10 : Int32) + x1) = some v10 ∧ (((v7 ≤ (0 : Int64)) → (wX10_accrue_54 z b ih Q x1 v7 v9 ((10 : Int32) + x1) v10 (0 : Int64) μ8)) ∧ (¬ (v7 ≤ (0 : Int64)) → (∃ v11 : Option Nat, jg μ8 (some b) 12 11 = some (va_rf v11) ∧ (∃ v12 : Int32, jai 0 μ8 v11 x1 = some v12 ∧ (wX10_accrue_54 z b ih Q x1 v7 v9 ((10 : Int32) + x1) v10 (v7 * (Int32.toInt64 v12)) μ8)))))))))))))
def wX10_accrue_2 (z : Nat × Nat) (b : Nat) (Q : Unit → jM → Prop) (n : Nat) : Int32 → jM → Prop := Nat.rec (motive := fun _ => Int32 → jM → Prop) (fun _ _ => False) (fun _ ih => wX10_accrue_2_b z b Q ih) n
def wX10_accrue_0 (z : Nat × Nat) (b : Nat) (Q : Unit → jM → Prop)  (μ : jM) : Prop :=
  ∀ v1 : Int32, v1 = (0 : Int32) → (∃ n2 : Nat, wX10_accrue_2 z b Q n2 v1 μ)
def wX10_accrue (z : Nat × Nat) (b : Nat)  (μ : jM) (Q : Unit → jM → Prop) : Prop := wX10_accrue_0 z b Q  μ
/-! X10_gets: gets (IJ)V -/
abbrev rmX10_gets : Room := { frames := 0, cells := 0, slots := 0, locals := 0 }
def wX10_gets_0 (z : Nat × Nat) (b : Nat) (Q : Unit → jM → Prop) (x1 : Int32) (x2 : Int64) (μ : jM) : Prop :=
  ∃ v1 : Option Nat, jg μ (some b) 12 3 = some (va_rf v1) ∧ (∃ v2 : Int64, jaj μ v1 ((0 : Int32) + x1) = some v2 ∧ (∃ μ3 : jM, jsj μ v1 ((0 : Int32) + x1) (v2 + x2) = some μ3 ∧ (∃ v4 : Option Nat, jg μ3 (some b) 12 3 = some (va_rf v4) ∧ (∃ v5 : Int64, jaj μ3 v4 ((50 : Int32) + x1) = some v5 ∧ (∃ μ6 : jM, jsj μ3 v4 ((50 : Int32) + x1) (v5 + x2) = some μ6 ∧ (Q () μ6))))))
def wX10_gets (z : Nat × Nat) (b : Nat) (x1 : Int32) (x2 : Int64) (μ : jM) (Q : Unit → jM → Prop) : Prop := wX10_gets_0 z b Q x1 x2 μ
/-! X10_split: split (IJII)V -/
abbrev rmX10_split : Room := { frames := 1, cells := 0, slots := 0, locals := 23 }
def wX10_split_172_b (z : Nat × Nat) (b : Nat) (K159 : Int32 → Int64 → jM → Prop) (Q : Unit → jM → Prop) (ih : Int32 → Int64 → Int32 → Int32 → jM → Prop) (x5 : Int32) (x8 : Int64) (x10 : Int32) (x11 : Int32) (μ : jM) : Prop :=
  ∃ v1 : Int32, jg μ (some b) 12 0 = some (.int v1) ∧ (((v1 ≤ x11) → ((∃ fs, μ b = some (.inr (12, fs))) ∧ wX10_gets z b x10 (Int32.toInt64 x5) μ (fun _ μ3 => ∃ v4 : Option Nat, jg μ3 (some b) 12 23 = some (va_rf v4) ∧ (∃ μ5 : jM, jsj μ3 v4 x10 (-1 : Int64) = some μ5 ∧ (∀ v6 : Int64, v6 = (x8 - (1 : Int64)) → (K159 x5 v6 μ5)))))) ∧ (¬ (v1 ≤ x11) → (∃ v7 : Option Nat, jg μ (some b) 12 23 = some (va_rf v7) ∧ (∃ v8 : Int64, jaj μ v7 x11 = some v8 ∧ (∃ v9 : Option Nat, jg μ (some b) 12 23 = some (va_rf v9) ∧ (∃ v10 : Int64, jaj μ v9 x10 = some v10 ∧ (((v8 ≤ v10) → (∀ v11 : Int32, v11 = x11 + (1 : Int32) → (ih x5 x8 x10 v11 μ))) ∧ (¬ (v8 ≤ v10) → (∀ v12 : Int32, v12 = x11 + (1 : Int32) → (ih x5 x8 x11 v12 μ))))))))))
def wX10_split_172 (z : Nat × Nat) (b : Nat) (K159 : Int32 → Int64 → jM → Prop) (Q : Unit → jM → Prop) (n : Nat) : Int32 → Int64 → Int32 → Int32 → jM → Prop := Nat.rec (motive := fun _ => Int32 → Int64 → Int32 → Int32 → jM → Prop) (fun _ _ _ _ _ => False) (fun _ ih => wX10_split_172_b z b K159 Q ih) n
def wX10_split_159_b (z : Nat × Nat) (b : Nat) (Q : Unit → jM → Prop) (ih : Int32 → Int64 → jM → Prop) (x5 : Int32) (x8 : Int64) (μ : jM) : Prop :=
  ((x8 ≤ (0 : Int64)) → (Q () μ)) ∧ (¬ (x8 ≤ (0 : Int64)) → (∀ v1 : Int32, v1 = (0 : Int32) → (∀ v2 : Int32, v2 = (1 : Int32) → (∃ n3 : Nat, wX10_split_172 z b ih Q n3 x5 x8 v1 v2 μ))))
def wX10_split_159 (z : Nat × Nat) (b : Nat) (Q : Unit → jM → Prop) (n : Nat) : Int32 → Int64 → jM → Prop := Nat.rec (motive := fun _ => Int32 → Int64 → jM → Prop) (fun _ _ _ => False) (fun _ ih => wX10_split_159_b z b Q ih) n
def wX10_split_65_b (z : Nat × Nat) (b : Nat) (Q : Unit → jM → Prop) (ih : Int32 → Int64 → Int32 → Int32 → Int64 → Int64 → Int32 → jM → Prop) (x1 : Int32) (x2 : Int64) (x4 : Int32) (x5 : Int32) (x6 : Int64) (x8 : Int64) (x10 : Int32) (μ : jM) : Prop :=
  ∃ v1 : Int32, jg μ (some b) 12 0 = some (.int v1) ∧ (((v1 ≤ x10) → (∃ n2 : Nat, wX10_split_159 z b Q n2 x5 x8 μ)) ∧ (¬ (v1 ≤ x10) → (∃ v3 : Option Nat, jg μ (some b) 12 23 = some (va_rf v3) ∧ (∃ μ4 : jM, jsj μ v3 x10 (-1 : Int64) = some μ4 ∧ (∃ v5 : Option Nat, jg μ4 (some b) 12 6 = some (va_rf v5) ∧ (∃ v6 : Int32, jai 0 μ4 v5 x10 = some v6 ∧ (((¬ v6 = x1) → (∀ v7 : Int32, v7 = x10 + (1 : Int32) → (ih x1 x2 x4 x5 x6 x8 v7 μ4))) ∧ (v6 = x1 → (∃ v8 : Option Nat, jg μ4 (some b) 12 3 = some (va_rf v8) ∧ (∃ v9 : Int64, jaj μ4 v8 (x4 + x10) = some v9 ∧ ((¬ x6 = 0) ∧ (∀ v11 : Int64, v11 = ((x2 * v9) / x6) → (∃ v12 : Option Nat, jg μ4 (some b) 12 23 = some (va_rf v12) ∧ (∃ v13 : Option Nat, jg μ4 (some b) 12 3 = some (va_rf v13) ∧ (∃ v14 : Int64, jaj μ4 v13 (x4 + x10) = some v14 ∧ ((¬ x6 = 0) ∧ (∃ μ16 : jM, jsj μ4 v12 x10 ((x2 * v14) - (x2 * v14) / x6 * x6) = some μ16 ∧ (∀ v17 : Int64, v17 = (x8 - v11) → ((∃ fs, μ16 b = some (.inr (12, fs))) ∧ wX10_gets z b x10 ((Int32.toInt64 x5) * v11) μ16 (fun _ μ19 => ∀ v20 : Int32, v20 = x10 + (1 : Int32) → (ih x1 x2 x4 x5 x6 v17 v20 μ19)))))))))))))))))))))
def wX10_split_65 (z : Nat × Nat) (b : Nat) (Q : Unit → jM → Prop) (n : Nat) : Int32 → Int64 → Int32 → Int32 → Int64 → Int64 → Int32 → jM → Prop := Nat.rec (motive := fun _ => Int32 → Int64 → Int32 → Int32 → Int64 → Int64 → Int32 → jM → Prop) (fun _ _ _ _ _ _ _ _ => False) (fun _ ih => wX10_split_65_b z b Q ih) n
def wX10_split_6_b (z : Nat × Nat) (b : Nat) (Q : Unit → jM → Prop) (ih : Int32 → Int64 → Int32 → Int32 → Int64 → Int32 → jM → Prop) (x1 : Int32) (x2 : Int64) (x4 : Int32) (x5 : Int32) (x6 : Int64) (x8 : Int32) (μ : jM) : Prop :=
  ∃ v1 : Int32, jg μ (some b) 12 0 = some (.int v1) ∧ (((v1 ≤ x8) → (((¬ x6 = (0 : Int64)) → (∀ v2 : Int32, v2 = (0 : Int32) → (∃ n3 : Nat, wX10_split_65 z b Q n3 x1 x2 x4 x5 x6 x2 v2 μ))) ∧ (x6 = (0 : Int64) → (Q () μ)))) ∧ (¬ (v1 ≤ x8) → (∃ v4 : Option Nat, jg μ (some b) 12 6 = some (va_rf v4) ∧ (∃ v5 : Int32, jai 0 μ v4 x8 = some v5 ∧ (((¬ v5 = x1) → (∀ v6 : Int64, v6 = (x6 + (0 : Int64)) → (∀ v7 : Int32, v7 = x8 + (1 : Int32) → (ih x1 x2 x4 x5 v6 v7 μ)))) ∧ (v5 = x1 → (∃ v8 : Option Nat, jg μ (some b) 12 3 = some (va_rf v8) ∧ (∃ v9 : Int64, jaj μ v8 (x4 + x8) = some v9 ∧ (∀ v10 : Int64, v10 = (x6 + v9) → (∀ v11 : Int32, v11 = x8 + (1 : Int32) → (ih x1 x2 x4 x5 v10 v11 μ)))))))))))
def wX10_split_6 (z : Nat × Nat) (b : Nat) (Q : Unit → jM → Prop) (n : Nat) : Int32 → Int64 → Int32 → Int32 → Int64 → Int32 → jM → Prop := Nat.rec (motive := fun _ => Int32 → Int64 → Int32 → Int32 → Int64 → Int32 → jM → Prop) (fun _ _ _ _ _ _ _ => False) (fun _ ih => wX10_split_6_b z b Q ih) n
def wX10_split_0 (z : Nat × Nat) (b : Nat) (Q : Unit → jM → Prop) (x1 : Int32) (x2 : Int64) (x4 : Int32) (x5 : Int32) (μ : jM) : Prop :=
  ∀ v1 : Int64, v1 = (0 : Int64) → (∀ v2 : Int32, v2 = (0 : Int32) → (∃ n3 : Nat, wX10_split_6 z b Q n3 x1 x2 x4 x5 v1 v2 μ))
def wX10_split (z : Nat × Nat) (b : Nat) (x1 : Int32) (x2 : Int64) (x4 : Int32) (x5 : Int32) (μ : jM) (Q : Unit → jM → Prop) : Prop := wX10_split_0 z b Q x1 x2 x4 x5 μ
/-! X10_bookInterest: bookInterest ()V -/
abbrev rmX10_bookInterest : Room := { frames := 2, cells := 0, slots := 0, locals := 55 }
def wX10_bookInterest_156_b (z : Nat × Nat) (b : Nat) (Q : Unit → jM → Prop) (ih : Int32 → jM → Prop) (x1 : Int32) (μ : jM) : Prop :=
  ∃ v1 : Int32, jg μ (some b) 12 1 = some (.int v1) ∧ (((v1 ≤ x1) → (Q () μ)) ∧ (¬ (v1 ≤ x1) → (∃ v2 : Option Nat, jg μ (some b) 12 3 = some (va_rf v2) ∧ (∃ v3 : Int64, jaj μ v2 ((76 : Int32) + x1) = some v3 ∧ (∀ v4 : Int64, v4 = (v3 / (3600000 : Int64)) → (∃ v5 : Option Nat, jg μ (some b) 12 3 = some (va_rf v5) ∧ (∃ v6 : Int64, jaj μ v5 ((76 : Int32) + x1) = some v6 ∧ (∃ μ7 : jM, jsj μ v5 ((76 : Int32) + x1) (v6 - v6 / (3600000 : Int64) * (3600000 : Int64)) = some μ7 ∧ (∃ v8 : Option Nat, jg μ7 (some b) 12 3 = some (va_rf v8) ∧ (∃ v9 : Int64, jaj μ7 v8 ((82 : Int32) + x1) = some v9 ∧ (∃ μ10 : jM, jsj μ7 v8 ((82 : Int32) + x1) (v9 + v4) = some μ10 ∧ (∃ v11 : Option Nat, jg μ10 (some b) 12 3 = some (va_rf v11) ∧ (∃ v12 : Option Nat, jg μ10 (some b) 12 13 = some (va_rf v12) ∧ (∃ v13 : Int32, jai 0 μ10 v12 x1 = some v13 ∧ (∃ v14 : Int64, jaj μ10 v11 ((0 : Int32) + v13) = some v14 ∧ (∃ μ15 : jM, jsj μ10 v11 ((0 : Int32) + v13) (v14 - v4) = some μ15 ∧ (∀ v16 : Int32, v16 = x1 + (1 : Int32) → (ih v16 μ15))))))))))))))))))
def wX10_bookInterest_156 (z : Nat × Nat) (b : Nat) (Q : Unit → jM → Prop) (n : Nat) : Int32 → jM → Prop := Nat.rec (motive := fun _ => Int32 → jM → Prop) (fun _ _ => False) (fun _ ih => wX10_bookInterest_156_b z b Q ih) n
def wX10_bookInterest_120_b (z : Nat × Nat) (b : Nat) (Q : Unit → jM → Prop) (ih : Int32 → jM → Prop) (x1 : Int32) (μ : jM) : Prop :=
  ∃ v1 : Int32, jg μ (some b) 12 0 = some (.int v1) ∧ (((v1 ≤ x1) → (∀ v2 : Int32, v2 = (0 : Int32) → (∃ n3 : Nat, wX10_bookInterest_156 z b Q n3 v2 μ))) ∧ (¬ (v1 ≤ x1) → (∃ v4 : Option Nat, jg μ (some b) 12 3 = some (va_rf v4) ∧ (∃ μ5 : jM, jsj μ v4 ((30 : Int32) + x1) (0 : Int64) = some μ5 ∧ (∃ v6 : Option Nat, jg μ5 (some b) 12 3 = some (va_rf v6) ∧ (∃ μ7 : jM, jsj μ5 v6 ((40 : Int32) + x1) (0 : Int64) = some μ7 ∧ (∀ v8 : Int32, v8 = x1 + (1 : Int32) → (ih v8 μ7))))))))
def wX10_bookInterest_120 (z : Nat × Nat) (b : Nat) (Q : Unit → jM → Prop) (n : Nat) : Int32 → jM → Prop := Nat.rec (motive := fun _ => Int32 → jM → Prop) (fun _ _ => False) (fun _ ih => wX10_bookInterest_120_b z b Q ih) n
def wX10_bookInterest_2_b (z : Nat × Nat) (b : Nat) (Q : Unit → jM → Prop) (ih : Int32 → jM → Prop) (x1 : Int32) (μ : jM) : Prop :=
  ∃ v1 : Int32, jg μ (some b) 12 0 = some (.int v1) ∧ (((v1 ≤ x1) → (∀ v2 : Int32, v2 = (0 : Int32) → (∃ n3 : Nat, wX10_bookInterest_120 z b Q n3 v2 μ))) ∧ (¬ (v1 ≤ x1) → ((∃ fs, μ b = some (.inr (12, fs))) ∧ wX10_isTop z b x1 μ (fun v4 μ5 => ((v4 = 0) → (∀ v6 : Int32, v6 = x1 + (1 : Int32) → (ih v6 μ5))) ∧ (¬ (v4 = 0) → (∃ v7 : Option Nat, jg μ5 (some b) 12 3 = some (va_rf v7) ∧ (∃ v8 : Int64, jaj μ5 v7 ((10 : Int32) + x1) = some v8 ∧ (∀ v9 : Int64, v9 = (v8 / (3600000 : Int64)) → (∃ v10 : Option Nat, jg μ5 (some b) 12 3 = some (va_rf v10) ∧ (∃ v11 : Int64, jaj μ5 v10 ((20 : Int32) + x1) = some v11 ∧ (∀ v12 : Int64, v12 = (v11 / (3600000 : Int64)) → ((∃ fs, μ5 b = some (.inr (12, fs))) ∧ wX10_split z b x1 v9 (30 : Int32) (1 : Int32) μ5 (fun _ μ14 => (∃ fs, μ14 b = some (.inr (12, fs))) ∧ wX10_split z b x1 v12 (40 : Int32) (-1 : Int32) μ14 (fun _ μ16 => ∃ v17 : Option Nat, jg μ16 (some b) 12 3 = some (va_rf v17) ∧ (∃ v18 : Int64, jaj μ16 v17 ((10 : Int32) + x1) = some v18 ∧ (∃ μ19 : jM, jsj μ16 v17 ((10 : Int32) + x1) (v18 - v18 / (3600000 : Int64) * (3600000 : Int64)) = some μ19 ∧ (∃ v20 : Option Nat, jg μ19 (some b) 12 3 = some (va_rf v20) ∧ (∃ v21 : Int64, jaj μ19 v20 ((20 : Int32) + x1) = some v21 ∧ (∃ μ22 : jM, jsj μ19 v20 ((20 : Int32) + x1) (v21 - v21 / (3600000 : Int64) * (3600000 : Int64)) = some μ22 ∧ (∃ v23 : Option Nat, jg μ22 (some b) 12 3 = some (va_rf v23) ∧ (∃ v24 : Int64, jaj μ22 v23 ((60 : Int32) + x1) = some v24 ∧ (∃ μ25 : jM, jsj μ22 v23 ((60 : Int32) + x1) (v24 + (v9 - v12)) = some μ25 ∧ (∀ v26 : Int32, v26 = x1 + (1 : Int32) → (ih v26 μ25))))))))))))))))))))))))
def wX10_bookInterest_2 (z : Nat × Nat) (b : Nat) (Q : Unit → jM → Prop) (n : Nat) : Int32 → jM → Prop := Nat.rec (motive := fun _ => Int32 → jM → Prop) (fun _ _ => False) (fun _ ih => wX10_bookInterest_2_b z b Q ih) n
def wX10_bookInterest_0 (z : Nat × Nat) (b : Nat) (Q : Unit → jM → Prop)  (μ : jM) : Prop :=
  ∀ v1 : Int32, v1 = (0 : Int32) → (∃ n2 : Nat, wX10_bookInterest_2 z b Q n2 v1 μ)
def wX10_bookInterest (z : Nat × Nat) (b : Nat)  (μ : jM) (Q : Unit → jM → Prop) : Prop := wX10_bookInterest_0 z b Q  μ
/-! X10_due: due (II)I -/
abbrev rmX10_due : Room := { frames := 0, cells := 0, slots := 0, locals := 0 }
def wX10_due_0 (z : Nat × Nat) (b : Nat) (Q : Int32 → jM → Prop) (x1 : Int32) (x2 : Int32) (μ : jM) : Prop :=
  ∃ v1 : Option Nat, jg μ (some b) 12 19 = some (va_rf v1) ∧ (∃ v2 : Int32, jai 0 μ v1 x1 = some v2 ∧ (∃ v3 : Option Nat, jg μ (some b) 12 20 = some (va_rf v3) ∧ (∃ v4 : Int32, jai 0 μ v3 x1 = some v4 ∧ (Q (v2 + (x2 * v4)) μ))))
def wX10_due (z : Nat × Nat) (b : Nat) (x1 : Int32) (x2 : Int32) (μ : jM) (Q : Int32 → jM → Prop) : Prop := wX10_due_0 z b Q x1 x2 μ
/-! X10_passDay: passDay ()V -/
abbrev rmX10_passDay : Room := { frames := 5, cells := 0, slots := 0, locals := 118 }
def wX10_passDay_27_b (z : Nat × Nat) (b : Nat) (K19 : Int32 → Int32 → jM → Prop) (Q : Unit → jM → Prop) (ih : Int32 → Int32 → jM → Prop) (x1 : Int32) (x2 : Int32) (μ : jM) : Prop :=
  ∃ v1 : Option Nat, jg μ (some b) 12 3 = some (va_rf v1) ∧ (∃ v2 : Int64, jaj μ v1 ((88 : Int32) + x2) = some v2 ∧ (∃ v3 : Option Nat, jg μ (some b) 12 21 = some (va_rf v3) ∧ (∃ v4 : Int32, jai 0 μ v3 x2 = some v4 ∧ ((((Int32.toInt64 v4) ≤ v2) → (∀ v5 : Int32, v5 = x2 + (1 : Int32) → (K19 x1 v5 μ))) ∧ (¬ ((Int32.toInt64 v4) ≤ v2) → (∃ v6 : Option Nat, jg μ (some b) 12 3 = some (va_rf v6) ∧ (∃ v7 : Int64, jaj μ v6 ((88 : Int32) + x2) = some v7 ∧ ((∃ fs, μ b = some (.inr (12, fs))) ∧ wX10_due z b x2 (Int64.toInt32 v7) μ (fun v8 μ9 => ((x1 < v8) → (∀ v10 : Int32, v10 = x2 + (1 : Int32) → (K19 x1 v10 μ9))) ∧ (¬ (x1 < v8) → (∃ v11 : Option Nat, jg μ9 (some b) 12 3 = some (va_rf v11) ∧ (∃ v12 : Option Nat, jg μ9 (some b) 12 17 = some (va_rf v12) ∧ (∃ v13 : Int32, jai 0 μ9 v12 x2 = some v13 ∧ (∃ v14 : Int64, jaj μ9 v11 ((0 : Int32) + v13) = some v14 ∧ (∃ v15 : Option Nat, jg μ9 (some b) 12 18 = some (va_rf v15) ∧ (∃ v16 : Int32, jai 0 μ9 v15 x2 = some v16 ∧ (∃ μ17 : jM, jsj μ9 v11 ((0 : Int32) + v13) (v14 + (Int32.toInt64 v16)) = some μ17 ∧ (∃ v18 : Option Nat, jg μ17 (some b) 12 3 = some (va_rf v18) ∧ (∃ v19 : Int64, jaj μ17 v18 ((88 : Int32) + x2) = some v19 ∧ (∃ μ20 : jM, jsj μ17 v18 ((88 : Int32) + x2) (v19 + (1 : Int64)) = some μ20 ∧ (ih x1 x2 μ20)))))))))))))))))))))
def wX10_passDay_27 (z : Nat × Nat) (b : Nat) (K19 : Int32 → Int32 → jM → Prop) (Q : Unit → jM → Prop) (n : Nat) : Int32 → Int32 → jM → Prop := Nat.rec (motive := fun _ => Int32 → Int32 → jM → Prop) (fun _ _ _ => False) (fun _ ih => wX10_passDay_27_b z b K19 Q ih) n
def wX10_passDay_148 (z : Nat × Nat) (b : Nat) (Q : Unit → jM → Prop) (x1 : Int32) (μ : jM) : Prop :=
  (∃ fs, μ b = some (.inr (12, fs))) ∧ wX10_accrue z b  μ (fun _ μ2 => ((¬ ((x1 + (1 : Int32)) - (x1 + (1 : Int32)) / (20 : Int32) * (20 : Int32)) = 0) → (∃ v3 : Option Nat, jg μ2 (some b) 12 3 = some (va_rf v3) ∧ (∃ μ4 : jM, jsj μ2 v3 (108 : Int32) (Int32.toInt64 (x1 + (1 : Int32))) = some μ4 ∧ (Q () μ4)))) ∧ (((x1 + (1 : Int32)) - (x1 + (1 : Int32)) / (20 : Int32) * (20 : Int32)) = 0 → ((∃ fs, μ2 b = some (.inr (12, fs))) ∧ wX10_bookInterest z b  μ2 (fun _ μ6 => ∃ v7 : Option Nat, jg μ6 (some b) 12 3 = some (va_rf v7) ∧ (∃ μ8 : jM, jsj μ6 v7 (108 : Int32) (Int32.toInt64 (x1 + (1 : Int32))) = some μ8 ∧ (Q () μ8))))))
def wX10_passDay_117_b (z : Nat × Nat) (b : Nat) (Q : Unit → jM → Prop) (ih : Int32 → Int32 → jM → Prop) (x1 : Int32) (x2 : Int32) (μ : jM) : Prop :=
  ∃ v1 : Int32, jg μ (some b) 12 0 = some (.int v1) ∧ (((v1 ≤ x2) → ((∃ fs, μ b = some (.inr (12, fs))) ∧ wX10_ease z b  μ (fun _ μ3 => wX10_passDay_148 z b Q x1 μ3))) ∧ (¬ (v1 ≤ x2) → ((∃ fs, μ b = some (.inr (12, fs))) ∧ wX10_isTop z b x2 μ (fun v4 μ5 => ((v4 = 0) → (∀ v6 : Int32, v6 = x2 + (1 : Int32) → (ih x1 v6 μ5))) ∧ (¬ (v4 = 0) → ((∃ fs, μ5 b = some (.inr (12, fs))) ∧ wX10_cover z b x2 μ5 (fun _ μ8 => ∀ v9 : Int32, v9 = x2 + (1 : Int32) → (ih x1 v9 μ8))))))))
def wX10_passDay_117 (z : Nat × Nat) (b : Nat) (Q : Unit → jM → Prop) (n : Nat) : Int32 → Int32 → jM → Prop := Nat.rec (motive := fun _ => Int32 → Int32 → jM → Prop) (fun _ _ _ => False) (fun _ ih => wX10_passDay_117_b z b Q ih) n
def wX10_passDay_19_b (z : Nat × Nat) (b : Nat) (Q : Unit → jM → Prop) (ih : Int32 → Int32 → jM → Prop) (x1 : Int32) (x2 : Int32) (μ : jM) : Prop :=
  ∃ v1 : Int32, jg μ (some b) 12 2 = some (.int v1) ∧ (((v1 ≤ x2) → ((∃ fs, μ b = some (.inr (12, fs))) ∧ wX10_sweep z b  μ (fun _ μ3 => ∀ v4 : Int32, v4 = (0 : Int32) → (∃ n5 : Nat, wX10_passDay_117 z b Q n5 x1 v4 μ3)))) ∧ (¬ (v1 ≤ x2) → (∃ n6 : Nat, wX10_passDay_27 z b ih Q n6 x1 x2 μ)))
def wX10_passDay_19 (z : Nat × Nat) (b : Nat) (Q : Unit → jM → Prop) (n : Nat) : Int32 → Int32 → jM → Prop := Nat.rec (motive := fun _ => Int32 → Int32 → jM → Prop) (fun _ _ _ => False) (fun _ ih => wX10_passDay_19_b z b Q ih) n
def wX10_passDay_0 (z : Nat × Nat) (b : Nat) (Q : Unit → jM → Prop)  (μ : jM) : Prop :=
  ∃ v1 : Option Nat, jg μ (some b) 12 3 = some (va_rf v1) ∧ (∃ v2 : Int64, jaj μ v1 (108 : Int32) = some v2 ∧ (∀ v3 : Int32, v3 = (Int64.toInt32 v2) → ((∃ fs, μ b = some (.inr (12, fs))) ∧ wX10_isSettlement z b v3 μ (fun v4 μ5 => ((v4 = 0) → (wX10_passDay_148 z b Q v3 μ5)) ∧ (¬ (v4 = 0) → (∀ v6 : Int32, v6 = (0 : Int32) → (∃ n7 : Nat, wX10_passDay_19 z b Q n7 v3 v6 μ5)))))))
def wX10_passDay (z : Nat × Nat) (b : Nat)  (μ : jM) (Q : Unit → jM → Prop) : Prop := wX10_passDay_0 z b Q  μ
/-! X10_keep: keep ()V -/
abbrev rmX10_keep : Room := { frames := 0, cells := 0, slots := 0, locals := 0 }
def wX10_keep_2_b (z : Nat × Nat) (b : Nat) (Q : Unit → jM → Prop) (ih : Int32 → jM → Prop) (x1 : Int32) (μ : jM) : Prop :=
  (((109 : Int32) ≤ x1) → (Q () μ)) ∧ (¬ ((109 : Int32) ≤ x1) → (∃ v1 : Option Nat, jg μ (some b) 12 4 = some (va_rf v1) ∧ (∃ v2 : Option Nat, jg μ (some b) 12 3 = some (va_rf v2) ∧ (∃ v3 : Int64, jaj μ v2 x1 = some v3 ∧ (∃ μ4 : jM, jsj μ v1 x1 v3 = some μ4 ∧ (∀ v5 : Int32, v5 = x1 + (1 : Int32) → (ih v5 μ4)))))))
def wX10_keep_2 (z : Nat × Nat) (b : Nat) (Q : Unit → jM → Prop) (n : Nat) : Int32 → jM → Prop := Nat.rec (motive := fun _ => Int32 → jM → Prop) (fun _ _ => False) (fun _ ih => wX10_keep_2_b z b Q ih) n
def wX10_keep_0 (z : Nat × Nat) (b : Nat) (Q : Unit → jM → Prop)  (μ : jM) : Prop :=
  ∀ v1 : Int32, v1 = (0 : Int32) → (∃ n2 : Nat, wX10_keep_2 z b Q n2 v1 μ)
def wX10_keep (z : Nat × Nat) (b : Nat)  (μ : jM) (Q : Unit → jM → Prop) : Prop := wX10_keep_0 z b Q  μ
/-! X10_goBack: goBack ()V -/
abbrev rmX10_goBack : Room := { frames := 0, cells := 0, slots := 0, locals := 0 }
def wX10_goBack_2_b (z : Nat × Nat) (b : Nat) (Q : Unit → jM → Prop) (ih : Int32 → jM → Prop) (x1 : Int32) (μ : jM) : Prop :=
  (((109 : Int32) ≤ x1) → (Q () μ)) ∧ (¬ ((109 : Int32) ≤ x1) → (∃ v1 : Option Nat, jg μ (some b) 12 3 = some (va_rf v1) ∧ (∃ v2 : Option Nat, jg μ (some b) 12 4 = some (va_rf v2) ∧ (∃ v3 : Int64, jaj μ v2 x1 = some v3 ∧ (∃ μ4 : jM, jsj μ v1 x1 v3 = some μ4 ∧ (∀ v5 : Int32, v5 = x1 + (1 : Int32) → (ih v5 μ4)))))))
def wX10_goBack_2 (z : Nat × Nat) (b : Nat) (Q : Unit → jM → Prop) (n : Nat) : Int32 → jM → Prop := Nat.rec (motive := fun _ => Int32 → jM → Prop) (fun _ _ => False) (fun _ ih => wX10_goBack_2_b z b Q ih) n
def wX10_goBack_0 (z : Nat × Nat) (b : Nat) (Q : Unit → jM → Prop)  (μ : jM) : Prop :=
  ∀ v1 : Int32, v1 = (0 : Int32) → (∃ n2 : Nat, wX10_goBack_2 z b Q n2 v1 μ)
def wX10_goBack (z : Nat × Nat) (b : Nat)  (μ : jM) (Q : Unit → jM → Prop) : Prop := wX10_goBack_0 z b Q  μ
/-! X10_today: today ()I -/
abbrev rmX10_today : Room := { frames := 0, cells := 0, slots := 0, locals := 0 }
def wX10_today_0 (z : Nat × Nat) (b : Nat) (Q : Int32 → jM → Prop)  (μ : jM) : Prop :=
  ∃ μ1 : jM, jp μ (some b) 12 24 (.int (0 : Int32)) = some μ1 ∧ (∃ v2 : Option Nat, jg μ1 (some b) 12 3 = some (va_rf v2) ∧ (∃ v3 : Int64, jaj μ1 v2 (108 : Int32) = some v3 ∧ (Q (Int64.toInt32 v3) μ1)))
def wX10_today (z : Nat × Nat) (b : Nat)  (μ : jM) (Q : Int32 → jM → Prop) : Prop := wX10_today_0 z b Q  μ
/-! X10_addHoliday: addHoliday (I)I -/
abbrev rmX10_addHoliday : Room := { frames := 1, cells := 0, slots := 0, locals := 22 }
def wX10_addHoliday_36_b (z : Nat × Nat) (b : Nat) (Q : Int32 → jM → Prop) (ih : Int32 → Int32 → jM → Prop) (x2 : Int32) (x3 : Int32) (μ : jM) : Prop :=
  (((450 : Int32) < x3) → (Q x2 μ)) ∧ (¬ ((450 : Int32) < x3) → ((∃ fs, μ b = some (.inr (12, fs))) ∧ wX10_isSettlement z b x3 μ (fun v1 μ2 => ((v1 = 0) → (∀ v3 : Int32, v3 = (x2 + (0 : Int32)) → (∀ v4 : Int32, v4 = x3 + (1 : Int32) → (ih v3 v4 μ2)))) ∧ (¬ (v1 = 0) → (∀ v5 : Int32, v5 = (x2 + (1 : Int32)) → (∀ v6 : Int32, v6 = x3 + (1 : Int32) → (ih v5 v6 μ2)))))))
def wX10_addHoliday_36 (z : Nat × Nat) (b : Nat) (Q : Int32 → jM → Prop) (n : Nat) : Int32 → Int32 → jM → Prop := Nat.rec (motive := fun _ => Int32 → Int32 → jM → Prop) (fun _ _ _ => False) (fun _ ih => wX10_addHoliday_36_b z b Q ih) n
def wX10_addHoliday_17 (z : Nat × Nat) (b : Nat) (Q : Int32 → jM → Prop) (x1 : Int32) (t0 : Option Nat) (t1 : Int32) (μ : jM) : Prop :=
  ∃ b3 : Nat, (t0 = some b3 ∧ ∃ fs, μ b3 = some (.inr (12, fs))) ∧ wX10_can z b3 t1 μ (fun v1 μ2 => ((¬ v1 = 0) → (∃ v4 : Option Nat, jg μ2 (some b) 12 22 = some (va_rf v4) ∧ (∃ μ5 : jM, jsi 2 μ2 v4 x1 (vp_nar .boolean (1 : Int32)) = some μ5 ∧ (∀ v6 : Int32, v6 = (0 : Int32) → (∀ v7 : Int32, v7 = (0 : Int32) → (∃ n8 : Nat, wX10_addHoliday_36 z b Q n8 v6 v7 μ5)))))) ∧ (v1 = 0 → (Q (0 : Int32) μ2)))
def wX10_addHoliday_0 (z : Nat × Nat) (b : Nat) (Q : Int32 → jM → Prop) (x1 : Int32) (μ : jM) : Prop :=
  wX10_isIn z x1 (0 : Int32) (450 : Int32) μ (fun v1 μ2 => ((v1 = 0) → (wX10_addHoliday_17 z b Q x1 (some b) (1 : Int32) μ2)) ∧ (¬ (v1 = 0) → (wX10_addHoliday_17 z b Q x1 (some b) (0 : Int32) μ2)))
def wX10_addHoliday (z : Nat × Nat) (b : Nat) (x1 : Int32) (μ : jM) (Q : Int32 → jM → Prop) : Prop := wX10_addHoliday_0 z b Q x1 μ
/-! X10_settles: settles (I)I -/
abbrev rmX10_settles : Room := { frames := 1, cells := 0, slots := 0, locals := 21 }
def wX10_settles_23 (z : Nat × Nat) (b : Nat) (Q : Int32 → jM → Prop) (x2 : Int32) (μ : jM) : Prop :=
  (((450 : Int32) < x2) → (Q (-1 : Int32) μ)) ∧ (¬ ((450 : Int32) < x2) → (Q x2 μ))
def wX10_settles_2_b (z : Nat × Nat) (b : Nat) (Q : Int32 → jM → Prop) (ih : Int32 → jM → Prop) (x2 : Int32) (μ : jM) : Prop :=
  (((450 : Int32) < x2) → (wX10_settles_23 z b Q x2 μ)) ∧ (¬ ((450 : Int32) < x2) → ((∃ fs, μ b = some (.inr (12, fs))) ∧ wX10_isSettlement z b x2 μ (fun v1 μ2 => ((¬ v1 = 0) → (wX10_settles_23 z b Q x2 μ2)) ∧ (v1 = 0 → (∀ v3 : Int32, v3 = x2 + (1 : Int32) → (ih v3 μ2))))))
def wX10_settles_2 (z : Nat × Nat) (b : Nat) (Q : Int32 → jM → Prop) (n : Nat) : Int32 → jM → Prop := Nat.rec (motive := fun _ => Int32 → jM → Prop) (fun _ _ => False) (fun _ ih => wX10_settles_2_b z b Q ih) n
def wX10_settles_0 (z : Nat × Nat) (b : Nat) (Q : Int32 → jM → Prop) (x1 : Int32) (μ : jM) : Prop :=
  ∃ n1 : Nat, wX10_settles_2 z b Q n1 x1 μ
def wX10_settles (z : Nat × Nat) (b : Nat) (x1 : Int32) (μ : jM) (Q : Int32 → jM → Prop) : Prop := wX10_settles_0 z b Q x1 μ
/-! X10_settlementDay: settlementDay (I)I -/
abbrev rmX10_settlementDay : Room := { frames := 2, cells := 0, slots := 0, locals := 43 }
def wX10_settlementDay_17 (z : Nat × Nat) (b : Nat) (Q : Int32 → jM → Prop) (x1 : Int32) (t0 : Option Nat) (t1 : Int32) (μ : jM) : Prop :=
  ∃ b3 : Nat, (t0 = some b3 ∧ ∃ fs, μ b3 = some (.inr (12, fs))) ∧ wX10_can z b3 t1 μ (fun v1 μ2 => ((v1 = 0) → (Q (0 : Int32) μ2)) ∧ (¬ (v1 = 0) → ((∃ fs, μ2 b = some (.inr (12, fs))) ∧ wX10_settles z b x1 μ2 (fun v4 μ5 => Q v4 μ5))))
def wX10_settlementDay_0 (z : Nat × Nat) (b : Nat) (Q : Int32 → jM → Prop) (x1 : Int32) (μ : jM) : Prop :=
  wX10_isIn z x1 (0 : Int32) (450 : Int32) μ (fun v1 μ2 => ((v1 = 0) → (wX10_settlementDay_17 z b Q x1 (some b) (1 : Int32) μ2)) ∧ (¬ (v1 = 0) → (wX10_settlementDay_17 z b Q x1 (some b) (0 : Int32) μ2)))
def wX10_settlementDay (z : Nat × Nat) (b : Nat) (x1 : Int32) (μ : jM) (Q : Int32 → jM → Prop) : Prop := wX10_settlementDay_0 z b Q x1 μ
/-! X10_passDays: passDays (I)I -/
abbrev rmX10_passDays : Room := { frames := 6, cells := 0, slots := 0, locals := 140 }
def wX10_passDays_47_b (z : Nat × Nat) (b : Nat) (Q : Int32 → jM → Prop) (ih : Int32 → Int32 → jM → Prop) (x1 : Int32) (x2 : Int32) (μ : jM) : Prop :=
  ((x1 ≤ x2) → (∃ v1 : Option Nat, jg μ (some b) 12 3 = some (va_rf v1) ∧ (∃ v2 : Int64, jaj μ v1 (108 : Int32) = some v2 ∧ (Q (Int64.toInt32 v2) μ)))) ∧ (¬ (x1 ≤ x2) → ((∃ fs, μ b = some (.inr (12, fs))) ∧ wX10_passDay z b  μ (fun _ μ4 => ∀ v5 : Int32, v5 = x2 + (1 : Int32) → (ih x1 v5 μ4))))
def wX10_passDays_47 (z : Nat × Nat) (b : Nat) (Q : Int32 → jM → Prop) (n : Nat) : Int32 → Int32 → jM → Prop := Nat.rec (motive := fun _ => Int32 → Int32 → jM → Prop) (fun _ _ _ => False) (fun _ ih => wX10_passDays_47_b z b Q ih) n
def wX10_passDays_37 (z : Nat × Nat) (b : Nat) (Q : Int32 → jM → Prop) (x1 : Int32) (t0 : Option Nat) (t1 : Int32) (μ : jM) : Prop :=
  ∃ b3 : Nat, (t0 = some b3 ∧ ∃ fs, μ b3 = some (.inr (12, fs))) ∧ wX10_can z b3 t1 μ (fun v1 μ2 => ((¬ v1 = 0) → (∀ v4 : Int32, v4 = (0 : Int32) → (∃ n5 : Nat, wX10_passDays_47 z b Q n5 x1 v4 μ2))) ∧ (v1 = 0 → (Q (0 : Int32) μ2)))
def wX10_passDays_0 (z : Nat × Nat) (b : Nat) (Q : Int32 → jM → Prop) (x1 : Int32) (μ : jM) : Prop :=
  wX10_isIn z x1 (1 : Int32) (60 : Int32) μ (fun v1 μ2 => ((¬ v1 = 0) → (∃ v3 : Option Nat, jg μ2 (some b) 12 3 = some (va_rf v3) ∧ (∃ v4 : Int64, jaj μ2 v3 (108 : Int32) = some v4 ∧ ((((v4 + (Int32.toInt64 x1)) ≤ (400 : Int64)) → (wX10_passDays_37 z b Q x1 (some b) (0 : Int32) μ2)) ∧ (¬ ((v4 + (Int32.toInt64 x1)) ≤ (400 : Int64)) → (wX10_passDays_37 z b Q x1 (some b) (2 : Int32) μ2)))))) ∧ (v1 = 0 → (wX10_passDays_37 z b Q x1 (some b) (1 : Int32) μ2)))
def wX10_passDays (z : Nat × Nat) (b : Nat) (x1 : Int32) (μ : jM) (Q : Int32 → jM → Prop) : Prop := wX10_passDays_0 z b Q x1 μ
/-! X10_book: book (II)J -/
abbrev rmX10_book : Room := { frames := 2, cells := 0, slots := 0, locals := 42 }
def wX10_book_29 (z : Nat × Nat) (b : Nat) (Q : Int64 → jM → Prop) (x1 : Int32) (x2 : Int32) (t0 : Option Nat) (t1 : Int32) (μ : jM) : Prop :=
  ∃ b3 : Nat, (t0 = some b3 ∧ ∃ fs, μ b3 = some (.inr (12, fs))) ∧ wX10_can z b3 t1 μ (fun v1 μ2 => ((¬ v1 = 0) → (∃ v4 : Option Nat, jg μ2 (some b) 12 3 = some (va_rf v4) ∧ (∃ v5 : Int64, jaj μ2 v4 ((0 : Int32) + x1) = some v5 ∧ (∃ μ6 : jM, jsj μ2 v4 ((0 : Int32) + x1) (v5 + (Int32.toInt64 x2)) = some μ6 ∧ (∃ v7 : Option Nat, jg μ6 (some b) 12 3 = some (va_rf v7) ∧ (∃ v8 : Int64, jaj μ6 v7 ((0 : Int32) + x1) = some v8 ∧ (Q v8 μ6))))))) ∧ (v1 = 0 → (Q (0 : Int64) μ2)))
def wX10_book_24 (z : Nat × Nat) (b : Nat) (Q : Int64 → jM → Prop) (x1 : Int32) (x2 : Int32) (t0 : Option Nat) (μ : jM) : Prop :=
  wX10_book_29 z b Q x1 x2 t0 (2 : Int32) μ
def wX10_book_0 (z : Nat × Nat) (b : Nat) (Q : Int64 → jM → Prop) (x1 : Int32) (x2 : Int32) (μ : jM) : Prop :=
  (∃ fs, μ b = some (.inr (12, fs))) ∧ wX10_isAccount z b x1 μ (fun v1 μ2 => ((¬ v1 = 0) → (wX10_isAmount z x2 μ2 (fun v3 μ4 => ((v3 = 0) → (wX10_book_24 z b Q x1 x2 (some b) μ4)) ∧ (¬ (v3 = 0) → (((¬ x2 = 0) → (wX10_book_29 z b Q x1 x2 (some b) (0 : Int32) μ4)) ∧ (x2 = 0 → (wX10_book_24 z b Q x1 x2 (some b) μ4))))))) ∧ (v1 = 0 → (wX10_book_29 z b Q x1 x2 (some b) (1 : Int32) μ2)))
def wX10_book (z : Nat × Nat) (b : Nat) (x1 : Int32) (x2 : Int32) (μ : jM) (Q : Int64 → jM → Prop) : Prop := wX10_book_0 z b Q x1 x2 μ
/-! X10_schedule: schedule (IIIII)I -/
abbrev rmX10_schedule : Room := { frames := 2, cells := 0, slots := 0, locals := 42 }
def wX10_schedule_96 (z : Nat × Nat) (b : Nat) (Q : Int32 → jM → Prop) (x1 : Int32) (x2 : Int32) (x3 : Int32) (x4 : Int32) (x5 : Int32) (t0 : Option Nat) (t1 : Int32) (μ : jM) : Prop :=
  ∃ b3 : Nat, (t0 = some b3 ∧ ∃ fs, μ b3 = some (.inr (12, fs))) ∧ wX10_can z b3 t1 μ (fun v1 μ2 => ((¬ v1 = 0) → (∃ v4 : Option Nat, jg μ2 (some b) 12 17 = some (va_rf v4) ∧ (∃ v5 : Int32, jg μ2 (some b) 12 2 = some (.int v5) ∧ (∃ μ6 : jM, jsi 0 μ2 v4 v5 x1 = some μ6 ∧ (∃ v7 : Option Nat, jg μ6 (some b) 12 18 = some (va_rf v7) ∧ (∃ v8 : Int32, jg μ6 (some b) 12 2 = some (.int v8) ∧ (∃ μ9 : jM, jsi 0 μ6 v7 v8 x2 = some μ9 ∧ (∃ v10 : Option Nat, jg μ9 (some b) 12 19 = some (va_rf v10) ∧ (∃ v11 : Int32, jg μ9 (some b) 12 2 = some (.int v11) ∧ (∃ μ12 : jM, jsi 0 μ9 v10 v11 x3 = some μ12 ∧ (∃ v13 : Option Nat, jg μ12 (some b) 12 20 = some (va_rf v13) ∧ (∃ v14 : Int32, jg μ12 (some b) 12 2 = some (.int v14) ∧ (∃ μ15 : jM, jsi 0 μ12 v13 v14 x4 = some μ15 ∧ (∃ v16 : Option Nat, jg μ15 (some b) 12 21 = some (va_rf v16) ∧ (∃ v17 : Int32, jg μ15 (some b) 12 2 = some (.int v17) ∧ (∃ μ18 : jM, jsi 0 μ15 v16 v17 x5 = some μ18 ∧ (∃ v19 : Int32, jg μ18 (some b) 12 2 = some (.int v19) ∧ (∃ μ20 : jM, jp μ18 (some b) 12 2 (.int (v19 + (1 : Int32))) = some μ20 ∧ (∃ v21 : Int32, jg μ20 (some b) 12 2 = some (.int v21) ∧ (Q (v21 - (1 : Int32)) μ20)))))))))))))))))))) ∧ (v1 = 0 → (Q (0 : Int32) μ2)))
def wX10_schedule_58 (z : Nat × Nat) (b : Nat) (Q : Int32 → jM → Prop) (x1 : Int32) (x2 : Int32) (x3 : Int32) (x4 : Int32) (x5 : Int32) (t0 : Int32) (μ : jM) : Prop :=
  (∃ fs, μ b = some (.inr (12, fs))) ∧ wX10_isAccount z b x1 μ (fun v1 μ2 => ((¬ v1 = 0) → (((¬ t0 = 0) → (∃ v3 : Int32, jg μ2 (some b) 12 2 = some (.int v3) ∧ (((¬ v3 = (20 : Int32)) → (wX10_schedule_96 z b Q x1 x2 x3 x4 x5 (some b) (0 : Int32) μ2)) ∧ (v3 = (20 : Int32) → (wX10_schedule_96 z b Q x1 x2 x3 x4 x5 (some b) (3 : Int32) μ2))))) ∧ (t0 = 0 → (wX10_schedule_96 z b Q x1 x2 x3 x4 x5 (some b) (2 : Int32) μ2)))) ∧ (v1 = 0 → (wX10_schedule_96 z b Q x1 x2 x3 x4 x5 (some b) (1 : Int32) μ2)))
def wX10_schedule_57 (z : Nat × Nat) (b : Nat) (Q : Int32 → jM → Prop) (x1 : Int32) (x2 : Int32) (x3 : Int32) (x4 : Int32) (x5 : Int32) (μ : jM) : Prop :=
  wX10_schedule_58 z b Q x1 x2 x3 x4 x5 (0 : Int32) μ
def wX10_schedule_0 (z : Nat × Nat) (b : Nat) (Q : Int32 → jM → Prop) (x1 : Int32) (x2 : Int32) (x3 : Int32) (x4 : Int32) (x5 : Int32) (μ : jM) : Prop :=
  wX10_isAmount z x2 μ (fun v1 μ2 => ((v1 = 0) → (wX10_schedule_57 z b Q x1 x2 x3 x4 x5 μ2)) ∧ (¬ (v1 = 0) → (((x2 = 0) → (wX10_schedule_57 z b Q x1 x2 x3 x4 x5 μ2)) ∧ (¬ (x2 = 0) → (∃ v3 : Option Nat, jg μ2 (some b) 12 3 = some (va_rf v3) ∧ (∃ v4 : Int64, jaj μ2 v3 (108 : Int32) = some v4 ∧ ((((Int32.toInt64 x3) < v4) → (wX10_schedule_57 z b Q x1 x2 x3 x4 x5 μ2)) ∧ (¬ ((Int32.toInt64 x3) < v4) → ((((450 : Int32) < x3) → (wX10_schedule_57 z b Q x1 x2 x3 x4 x5 μ2)) ∧ (¬ ((450 : Int32) < x3) → (wX10_isIn z x4 (1 : Int32) (100 : Int32) μ2 (fun v5 μ6 => ((v5 = 0) → (wX10_schedule_57 z b Q x1 x2 x3 x4 x5 μ6)) ∧ (¬ (v5 = 0) → (wX10_isIn z x5 (1 : Int32) (30 : Int32) μ6 (fun v7 μ8 => ((v7 = 0) → (wX10_schedule_57 z b Q x1 x2 x3 x4 x5 μ8)) ∧ (¬ (v7 = 0) → (wX10_schedule_58 z b Q x1 x2 x3 x4 x5 (1 : Int32) μ8)))))))))))))))))
def wX10_schedule (z : Nat × Nat) (b : Nat) (x1 : Int32) (x2 : Int32) (x3 : Int32) (x4 : Int32) (x5 : Int32) (μ : jM) (Q : Int32 → jM → Prop) : Prop := wX10_schedule_0 z b Q x1 x2 x3 x4 x5 μ
/-! X10_isFlow: isFlow (I)Z -/
abbrev rmX10_isFlow : Room := { frames := 1, cells := 0, slots := 0, locals := 21 }
def wX10_isFlow_18 (z : Nat × Nat) (b : Nat) (Q : Int32 → jM → Prop) (t0 : Option Nat) (t1 : Int32) (μ : jM) : Prop :=
  ∃ b3 : Nat, (t0 = some b3 ∧ ∃ fs, μ b3 = some (.inr (12, fs))) ∧ wX10_can z b3 t1 μ (fun v1 μ2 => narrow .boolean (.int v1) = .int v1 ∧ Q v1 μ2)
def wX10_isFlow_17 (z : Nat × Nat) (b : Nat) (Q : Int32 → jM → Prop) (t0 : Option Nat) (μ : jM) : Prop :=
  wX10_isFlow_18 z b Q t0 (1 : Int32) μ
def wX10_isFlow_0 (z : Nat × Nat) (b : Nat) (Q : Int32 → jM → Prop) (x1 : Int32) (μ : jM) : Prop :=
  ((x1 < 0) → (wX10_isFlow_17 z b Q (some b) μ)) ∧ (¬ (x1 < 0) → (∃ v1 : Int32, jg μ (some b) 12 2 = some (.int v1) ∧ (((v1 ≤ x1) → (wX10_isFlow_17 z b Q (some b) μ)) ∧ (¬ (v1 ≤ x1) → (wX10_isFlow_18 z b Q (some b) (0 : Int32) μ)))))
def wX10_isFlow (z : Nat × Nat) (b : Nat) (x1 : Int32) (μ : jM) (Q : Int32 → jM → Prop) : Prop := wX10_isFlow_0 z b Q x1 μ
/-! X10_leftOf: leftOf (I)I -/
abbrev rmX10_leftOf : Room := { frames := 0, cells := 0, slots := 0, locals := 0 }
def wX10_leftOf_0 (z : Nat × Nat) (b : Nat) (Q : Int32 → jM → Prop) (x1 : Int32) (μ : jM) : Prop :=
  ∃ v1 : Option Nat, jg μ (some b) 12 21 = some (va_rf v1) ∧ (∃ v2 : Int32, jai 0 μ v1 x1 = some v2 ∧ (∃ v3 : Option Nat, jg μ (some b) 12 3 = some (va_rf v3) ∧ (∃ v4 : Int64, jaj μ v3 ((88 : Int32) + x1) = some v4 ∧ (Q (v2 - (Int64.toInt32 v4)) μ))))
def wX10_leftOf (z : Nat × Nat) (b : Nat) (x1 : Int32) (μ : jM) (Q : Int32 → jM → Prop) : Prop := wX10_leftOf_0 z b Q x1 μ
/-! X10_cancel: cancel (I)I -/
abbrev rmX10_cancel : Room := { frames := 2, cells := 0, slots := 0, locals := 42 }
def wX10_cancel_0 (z : Nat × Nat) (b : Nat) (Q : Int32 → jM → Prop) (x1 : Int32) (μ : jM) : Prop :=
  (∃ fs, μ b = some (.inr (12, fs))) ∧ wX10_isFlow z b x1 μ (fun v1 μ2 => ((¬ v1 = 0) → ((∃ fs, μ2 b = some (.inr (12, fs))) ∧ wX10_leftOf z b x1 μ2 (fun v3 μ4 => ∃ v5 : Option Nat, jg μ4 (some b) 12 21 = some (va_rf v5) ∧ (∃ v6 : Int32, jai 0 μ4 v5 x1 = some v6 ∧ (∃ μ7 : jM, jsi 0 μ4 v5 x1 (v6 - v3) = some μ7 ∧ (Q v3 μ7)))))) ∧ (v1 = 0 → (Q (0 : Int32) μ2)))
def wX10_cancel (z : Nat × Nat) (b : Nat) (x1 : Int32) (μ : jM) (Q : Int32 → jM → Prop) : Prop := wX10_cancel_0 z b Q x1 μ
/-! X10_timesLeft: timesLeft (I)I -/
abbrev rmX10_timesLeft : Room := { frames := 2, cells := 0, slots := 0, locals := 42 }
def wX10_timesLeft_0 (z : Nat × Nat) (b : Nat) (Q : Int32 → jM → Prop) (x1 : Int32) (μ : jM) : Prop :=
  (∃ fs, μ b = some (.inr (12, fs))) ∧ wX10_isFlow z b x1 μ (fun v1 μ2 => ((v1 = 0) → (Q (0 : Int32) μ2)) ∧ (¬ (v1 = 0) → ((∃ fs, μ2 b = some (.inr (12, fs))) ∧ wX10_leftOf z b x1 μ2 (fun v3 μ4 => Q v3 μ4))))
def wX10_timesLeft (z : Nat × Nat) (b : Nat) (x1 : Int32) (μ : jM) (Q : Int32 → jM → Prop) : Prop := wX10_timesLeft_0 z b Q x1 μ
/-! X10_scheduled: scheduled (III)J -/
abbrev rmX10_scheduled : Room := { frames := 2, cells := 0, slots := 0, locals := 43 }
def wX10_scheduled_146 (z : Nat × Nat) (b : Nat) (K67 : Int32 → Int32 → Int32 → Int64 → Int32 → Int32 → jM → Prop) (K89 : Int32 → Int32 → Int32 → Int64 → Int32 → Int32 → Int32 → jM → Prop) (Q : Int64 → jM → Prop) (x1 : Int32) (x2 : Int32) (x3 : Int32) (x4 : Int64) (x6 : Int32) (x7 : Int32) (x8 : Int32) (t0 : Int32) (μ : jM) : Prop :=
  ((t0 < x2) → (∀ v1 : Int64, v1 = (x4 + (0 : Int64)) → (∀ v2 : Int32, v2 = x8 + (1 : Int32) → (K89 x1 x2 x3 v1 x6 x7 v2 μ)))) ∧ (¬ (t0 < x2) → (((x3 < t0) → (∀ v3 : Int64, v3 = (x4 + (0 : Int64)) → (∀ v4 : Int32, v4 = x8 + (1 : Int32) → (K89 x1 x2 x3 v3 x6 x7 v4 μ)))) ∧ (¬ (x3 < t0) → (∃ v5 : Option Nat, jg μ (some b) 12 18 = some (va_rf v5) ∧ (∃ v6 : Int32, jai 0 μ v5 x7 = some v6 ∧ (∀ v7 : Int64, v7 = (x4 + (Int32.toInt64 v6)) → (∀ v8 : Int32, v8 = x8 + (1 : Int32) → (K89 x1 x2 x3 v7 x6 x7 v8 μ))))))))
def wX10_scheduled_89_b (z : Nat × Nat) (b : Nat) (K67 : Int32 → Int32 → Int32 → Int64 → Int32 → Int32 → jM → Prop) (Q : Int64 → jM → Prop) (ih : Int32 → Int32 → Int32 → Int64 → Int32 → Int32 → Int32 → jM → Prop) (x1 : Int32) (x2 : Int32) (x3 : Int32) (x4 : Int64) (x6 : Int32) (x7 : Int32) (x8 : Int32) (μ : jM) : Prop :=
  ∃ v1 : Option Nat, jg μ (some b) 12 21 = some (va_rf v1) ∧ (∃ v2 : Int32, jai 0 μ v1 x7 = some v2 ∧ (((v2 ≤ x8) → (∀ v3 : Int32, v3 = x7 + (1 : Int32) → (K67 x1 x2 x3 x4 x6 v3 μ))) ∧ (¬ (v2 ≤ x8) → (∃ v4 : Option Nat, jg μ (some b) 12 17 = some (va_rf v4) ∧ (∃ v5 : Int32, jai 0 μ v4 x7 = some v5 ∧ (((¬ v5 = x1) → (∀ v6 : Int32, v6 = x7 + (1 : Int32) → (K67 x1 x2 x3 x4 x6 v6 μ))) ∧ (v5 = x1 → ((∃ fs, μ b = some (.inr (12, fs))) ∧ wX10_due z b x7 x8 μ (fun v7 μ8 => ((x6 ≤ v7) → ((∃ fs, μ8 b = some (.inr (12, fs))) ∧ wX10_due z b x7 x8 μ8 (fun v9 μ10 => (∃ fs, μ10 b = some (.inr (12, fs))) ∧ wX10_settles z b v9 μ10 (fun v11 μ12 => wX10_scheduled_146 z b K67 ih Q x1 x2 x3 x4 x6 x7 x8 v11 μ12)))) ∧ (¬ (x6 ≤ v7) → ((∃ fs, μ8 b = some (.inr (12, fs))) ∧ wX10_settles z b x6 μ8 (fun v13 μ14 => wX10_scheduled_146 z b K67 ih Q x1 x2 x3 x4 x6 x7 x8 v13 μ14))))))))))))
def wX10_scheduled_89 (z : Nat × Nat) (b : Nat) (K67 : Int32 → Int32 → Int32 → Int64 → Int32 → Int32 → jM → Prop) (Q : Int64 → jM → Prop) (n : Nat) : Int32 → Int32 → Int32 → Int64 → Int32 → Int32 → Int32 → jM → Prop := Nat.rec (motive := fun _ => Int32 → Int32 → Int32 → Int64 → Int32 → Int32 → Int32 → jM → Prop) (fun _ _ _ _ _ _ _ _ => False) (fun _ ih => wX10_scheduled_89_b z b K67 Q ih) n
def wX10_scheduled_67_b (z : Nat × Nat) (b : Nat) (Q : Int64 → jM → Prop) (ih : Int32 → Int32 → Int32 → Int64 → Int32 → Int32 → jM → Prop) (x1 : Int32) (x2 : Int32) (x3 : Int32) (x4 : Int64) (x6 : Int32) (x7 : Int32) (μ : jM) : Prop :=
  ∃ v1 : Int32, jg μ (some b) 12 2 = some (.int v1) ∧ (((v1 ≤ x7) → (Q x4 μ)) ∧ (¬ (v1 ≤ x7) → (∃ v2 : Option Nat, jg μ (some b) 12 3 = some (va_rf v2) ∧ (∃ v3 : Int64, jaj μ v2 ((88 : Int32) + x7) = some v3 ∧ (∀ v4 : Int32, v4 = (Int64.toInt32 v3) → (∃ n5 : Nat, wX10_scheduled_89 z b ih Q n5 x1 x2 x3 x4 x6 x7 v4 μ))))))
def wX10_scheduled_67 (z : Nat × Nat) (b : Nat) (Q : Int64 → jM → Prop) (n : Nat) : Int32 → Int32 → Int32 → Int64 → Int32 → Int32 → jM → Prop := Nat.rec (motive := fun _ => Int32 → Int32 → Int32 → Int64 → Int32 → Int32 → jM → Prop) (fun _ _ _ _ _ _ _ => False) (fun _ ih => wX10_scheduled_67_b z b Q ih) n
def wX10_scheduled_43 (z : Nat × Nat) (b : Nat) (Q : Int64 → jM → Prop) (x1 : Int32) (x2 : Int32) (x3 : Int32) (t0 : Option Nat) (t1 : Int32) (μ : jM) : Prop :=
  ∃ b3 : Nat, (t0 = some b3 ∧ ∃ fs, μ b3 = some (.inr (12, fs))) ∧ wX10_can z b3 t1 μ (fun v1 μ2 => ((¬ v1 = 0) → (∀ v4 : Int64, v4 = (0 : Int64) → (∃ v5 : Option Nat, jg μ2 (some b) 12 3 = some (va_rf v5) ∧ (∃ v6 : Int64, jaj μ2 v5 (108 : Int32) = some v6 ∧ (∀ v7 : Int32, v7 = (Int64.toInt32 v6) → (∀ v8 : Int32, v8 = (0 : Int32) → (∃ n9 : Nat, wX10_scheduled_67 z b Q n9 x1 x2 x3 v4 v7 v8 μ2))))))) ∧ (v1 = 0 → (Q (0 : Int64) μ2)))
def wX10_scheduled_38 (z : Nat × Nat) (b : Nat) (Q : Int64 → jM → Prop) (x1 : Int32) (x2 : Int32) (x3 : Int32) (t0 : Option Nat) (μ : jM) : Prop :=
  wX10_scheduled_43 z b Q x1 x2 x3 t0 (2 : Int32) μ
def wX10_scheduled_0 (z : Nat × Nat) (b : Nat) (Q : Int64 → jM → Prop) (x1 : Int32) (x2 : Int32) (x3 : Int32) (μ : jM) : Prop :=
  (∃ fs, μ b = some (.inr (12, fs))) ∧ wX10_isAccount z b x1 μ (fun v1 μ2 => ((¬ v1 = 0) → (∃ v3 : Option Nat, jg μ2 (some b) 12 3 = some (va_rf v3) ∧ (∃ v4 : Int64, jaj μ2 v3 (108 : Int32) = some v4 ∧ ((((Int32.toInt64 x2) < v4) → (wX10_scheduled_38 z b Q x1 x2 x3 (some b) μ2)) ∧ (¬ ((Int32.toInt64 x2) < v4) → (((x3 < x2) → (wX10_scheduled_38 z b Q x1 x2 x3 (some b) μ2)) ∧ (¬ (x3 < x2) → (((x3 ≤ (450 : Int32)) → (wX10_scheduled_43 z b Q x1 x2 x3 (some b) (0 : Int32) μ2)) ∧ (¬ (x3 ≤ (450 : Int32)) → (wX10_scheduled_38 z b Q x1 x2 x3 (some b) μ2)))))))))) ∧ (v1 = 0 → (wX10_scheduled_43 z b Q x1 x2 x3 (some b) (1 : Int32) μ2)))
def wX10_scheduled (z : Nat × Nat) (b : Nat) (x1 : Int32) (x2 : Int32) (x3 : Int32) (μ : jM) (Q : Int64 → jM → Prop) : Prop := wX10_scheduled_0 z b Q x1 x2 x3 μ
/-! X10_accounts: accounts ()I -/
abbrev rmX10_accounts : Room := { frames := 0, cells := 0, slots := 0, locals := 0 }
def wX10_accounts_0 (z : Nat × Nat) (b : Nat) (Q : Int32 → jM → Prop)  (μ : jM) : Prop :=
  ∃ μ1 : jM, jp μ (some b) 12 24 (.int (0 : Int32)) = some μ1 ∧ (∃ v2 : Int32, jg μ1 (some b) 12 0 = some (.int v2) ∧ (Q v2 μ1))
def wX10_accounts (z : Nat × Nat) (b : Nat)  (μ : jM) (Q : Int32 → jM → Prop) : Prop := wX10_accounts_0 z b Q  μ
/-! X10_isThere: isThere (I)Z -/
abbrev rmX10_isThere : Room := { frames := 1, cells := 0, slots := 0, locals := 21 }
def wX10_isThere_14 (z : Nat × Nat) (b : Nat) (Q : Int32 → jM → Prop) (t0 : Option Nat) (t1 : Int32) (μ : jM) : Prop :=
  ∃ b3 : Nat, (t0 = some b3 ∧ ∃ fs, μ b3 = some (.inr (12, fs))) ∧ wX10_can z b3 t1 μ (fun v1 μ2 => narrow .boolean (.int v1) = .int v1 ∧ Q v1 μ2)
def wX10_isThere_0 (z : Nat × Nat) (b : Nat) (Q : Int32 → jM → Prop) (x1 : Int32) (μ : jM) : Prop :=
  (∃ fs, μ b = some (.inr (12, fs))) ∧ wX10_isAccount z b x1 μ (fun v1 μ2 => ((v1 = 0) → (wX10_isThere_14 z b Q (some b) (1 : Int32) μ2)) ∧ (¬ (v1 = 0) → (wX10_isThere_14 z b Q (some b) (0 : Int32) μ2)))
def wX10_isThere (z : Nat × Nat) (b : Nat) (x1 : Int32) (μ : jM) (Q : Int32 → jM → Prop) : Prop := wX10_isThere_0 z b Q x1 μ
/-! X10_poolOf: poolOf (I)I -/
abbrev rmX10_poolOf : Room := { frames := 2, cells := 0, slots := 0, locals := 42 }
def wX10_poolOf_0 (z : Nat × Nat) (b : Nat) (Q : Int32 → jM → Prop) (x1 : Int32) (μ : jM) : Prop :=
  (∃ fs, μ b = some (.inr (12, fs))) ∧ wX10_isThere z b x1 μ (fun v1 μ2 => ((v1 = 0) → (Q (0 : Int32) μ2)) ∧ (¬ (v1 = 0) → (∃ v3 : Option Nat, jg μ2 (some b) 12 6 = some (va_rf v3) ∧ (∃ v4 : Int32, jai 0 μ2 v3 x1 = some v4 ∧ (Q v4 μ2)))))
def wX10_poolOf (z : Nat × Nat) (b : Nat) (x1 : Int32) (μ : jM) (Q : Int32 → jM → Prop) : Prop := wX10_poolOf_0 z b Q x1 μ
/-! X10_balance: balance (I)J -/
abbrev rmX10_balance : Room := { frames := 2, cells := 0, slots := 0, locals := 42 }
def wX10_balance_0 (z : Nat × Nat) (b : Nat) (Q : Int64 → jM → Prop) (x1 : Int32) (μ : jM) : Prop :=
  (∃ fs, μ b = some (.inr (12, fs))) ∧ wX10_isThere z b x1 μ (fun v1 μ2 => ((v1 = 0) → (Q (0 : Int64) μ2)) ∧ (¬ (v1 = 0) → (∃ v3 : Option Nat, jg μ2 (some b) 12 3 = some (va_rf v3) ∧ (∃ v4 : Int64, jaj μ2 v3 ((0 : Int32) + x1) = some v4 ∧ (Q v4 μ2)))))
def wX10_balance (z : Nat × Nat) (b : Nat) (x1 : Int32) (μ : jM) (Q : Int64 → jM → Prop) : Prop := wX10_balance_0 z b Q x1 μ
/-! X10_total: total (I)J -/
abbrev rmX10_total : Room := { frames := 2, cells := 0, slots := 0, locals := 48 }
def wX10_total_0 (z : Nat × Nat) (b : Nat) (Q : Int64 → jM → Prop) (x1 : Int32) (μ : jM) : Prop :=
  (∃ fs, μ b = some (.inr (12, fs))) ∧ wX10_isThere z b x1 μ (fun v1 μ2 => ((v1 = 0) → (Q (0 : Int64) μ2)) ∧ (¬ (v1 = 0) → (∃ v3 : Option Nat, jg μ2 (some b) 12 6 = some (va_rf v3) ∧ (∃ v4 : Int32, jai 0 μ2 v3 x1 = some v4 ∧ ((∃ fs, μ2 b = some (.inr (12, fs))) ∧ wX10_sumOf z b v4 x1 μ2 (fun v5 μ6 => Q v5 μ6))))))
def wX10_total (z : Nat × Nat) (b : Nat) (x1 : Int32) (μ : jM) (Q : Int64 → jM → Prop) : Prop := wX10_total_0 z b Q x1 μ
/-! X10_exposure: exposure (I)J -/
abbrev rmX10_exposure : Room := { frames := 1, cells := 0, slots := 0, locals := 24 }
def wX10_exposure_15 (z : Nat × Nat) (b : Nat) (Q : Int64 → jM → Prop) (x1 : Int32) (t0 : Option Nat) (t1 : Int32) (μ : jM) : Prop :=
  ∃ b3 : Nat, (t0 = some b3 ∧ ∃ fs, μ b3 = some (.inr (12, fs))) ∧ wX10_can z b3 t1 μ (fun v1 μ2 => ((v1 = 0) → (Q (0 : Int64) μ2)) ∧ (¬ (v1 = 0) → ((∃ fs, μ2 b = some (.inr (12, fs))) ∧ wX10_exposed z b x1 μ2 (fun v4 μ5 => Q v4 μ5))))
def wX10_exposure_0 (z : Nat × Nat) (b : Nat) (Q : Int64 → jM → Prop) (x1 : Int32) (μ : jM) : Prop :=
  wX10_isIn z x1 (0 : Int32) (3 : Int32) μ (fun v1 μ2 => ((v1 = 0) → (wX10_exposure_15 z b Q x1 (some b) (1 : Int32) μ2)) ∧ (¬ (v1 = 0) → (wX10_exposure_15 z b Q x1 (some b) (0 : Int32) μ2)))
def wX10_exposure (z : Nat × Nat) (b : Nat) (x1 : Int32) (μ : jM) (Q : Int64 → jM → Prop) : Prop := wX10_exposure_0 z b Q x1 μ
/-! X10_isLine: isLine (I)Z -/
abbrev rmX10_isLine : Room := { frames := 1, cells := 0, slots := 0, locals := 21 }
def wX10_isLine_18 (z : Nat × Nat) (b : Nat) (Q : Int32 → jM → Prop) (t0 : Option Nat) (t1 : Int32) (μ : jM) : Prop :=
  ∃ b3 : Nat, (t0 = some b3 ∧ ∃ fs, μ b3 = some (.inr (12, fs))) ∧ wX10_can z b3 t1 μ (fun v1 μ2 => narrow .boolean (.int v1) = .int v1 ∧ Q v1 μ2)
def wX10_isLine_17 (z : Nat × Nat) (b : Nat) (Q : Int32 → jM → Prop) (t0 : Option Nat) (μ : jM) : Prop :=
  wX10_isLine_18 z b Q t0 (1 : Int32) μ
def wX10_isLine_0 (z : Nat × Nat) (b : Nat) (Q : Int32 → jM → Prop) (x1 : Int32) (μ : jM) : Prop :=
  ((x1 < 0) → (wX10_isLine_17 z b Q (some b) μ)) ∧ (¬ (x1 < 0) → (∃ v1 : Int32, jg μ (some b) 12 1 = some (.int v1) ∧ (((v1 ≤ x1) → (wX10_isLine_17 z b Q (some b) μ)) ∧ (¬ (v1 ≤ x1) → (wX10_isLine_18 z b Q (some b) (0 : Int32) μ)))))
def wX10_isLine (z : Nat × Nat) (b : Nat) (x1 : Int32) (μ : jM) (Q : Int32 → jM → Prop) : Prop := wX10_isLine_0 z b Q x1 μ
/-! X10_drawn: drawn (I)I -/
abbrev rmX10_drawn : Room := { frames := 2, cells := 0, slots := 0, locals := 42 }
def wX10_drawn_0 (z : Nat × Nat) (b : Nat) (Q : Int32 → jM → Prop) (x1 : Int32) (μ : jM) : Prop :=
  (∃ fs, μ b = some (.inr (12, fs))) ∧ wX10_isLine z b x1 μ (fun v1 μ2 => ((v1 = 0) → (Q (0 : Int32) μ2)) ∧ (¬ (v1 = 0) → (∃ v3 : Option Nat, jg μ2 (some b) 12 3 = some (va_rf v3) ∧ (∃ v4 : Int64, jaj μ2 v3 ((70 : Int32) + x1) = some v4 ∧ (Q (Int64.toInt32 v4) μ2)))))
def wX10_drawn (z : Nat × Nat) (b : Nat) (x1 : Int32) (μ : jM) (Q : Int32 → jM → Prop) : Prop := wX10_drawn_0 z b Q x1 μ
/-! X10_costOf: costOf (I)J -/
abbrev rmX10_costOf : Room := { frames := 2, cells := 0, slots := 0, locals := 42 }
def wX10_costOf_0 (z : Nat × Nat) (b : Nat) (Q : Int64 → jM → Prop) (x1 : Int32) (μ : jM) : Prop :=
  (∃ fs, μ b = some (.inr (12, fs))) ∧ wX10_isLine z b x1 μ (fun v1 μ2 => ((v1 = 0) → (Q (0 : Int64) μ2)) ∧ (¬ (v1 = 0) → (∃ v3 : Option Nat, jg μ2 (some b) 12 3 = some (va_rf v3) ∧ (∃ v4 : Int64, jaj μ2 v3 ((82 : Int32) + x1) = some v4 ∧ (Q v4 μ2)))))
def wX10_costOf (z : Nat × Nat) (b : Nat) (x1 : Int32) (μ : jM) (Q : Int64 → jM → Prop) : Prop := wX10_costOf_0 z b Q x1 μ
/-! X10_interestOf: interestOf (I)J -/
abbrev rmX10_interestOf : Room := { frames := 2, cells := 0, slots := 0, locals := 42 }
def wX10_interestOf_0 (z : Nat × Nat) (b : Nat) (Q : Int64 → jM → Prop) (x1 : Int32) (μ : jM) : Prop :=
  (∃ fs, μ b = some (.inr (12, fs))) ∧ wX10_isThere z b x1 μ (fun v1 μ2 => ((v1 = 0) → (Q (0 : Int64) μ2)) ∧ (¬ (v1 = 0) → (∃ v3 : Option Nat, jg μ2 (some b) 12 3 = some (va_rf v3) ∧ (∃ v4 : Int64, jaj μ2 v3 ((50 : Int32) + x1) = some v4 ∧ (Q v4 μ2)))))
def wX10_interestOf (z : Nat × Nat) (b : Nat) (x1 : Int32) (μ : jM) (Q : Int64 → jM → Prop) : Prop := wX10_interestOf_0 z b Q x1 μ
/-! X10_poolInterest: poolInterest (I)J -/
abbrev rmX10_poolInterest : Room := { frames := 1, cells := 0, slots := 0, locals := 21 }
def wX10_poolInterest_26 (z : Nat × Nat) (b : Nat) (Q : Int64 → jM → Prop) (x1 : Int32) (t0 : Option Nat) (t1 : Int32) (μ : jM) : Prop :=
  ∃ b3 : Nat, (t0 = some b3 ∧ ∃ fs, μ b3 = some (.inr (12, fs))) ∧ wX10_can z b3 t1 μ (fun v1 μ2 => ((v1 = 0) → (Q (0 : Int64) μ2)) ∧ (¬ (v1 = 0) → (∃ v4 : Option Nat, jg μ2 (some b) 12 3 = some (va_rf v4) ∧ (∃ v5 : Int64, jaj μ2 v4 ((60 : Int32) + x1) = some v5 ∧ (Q v5 μ2)))))
def wX10_poolInterest_0 (z : Nat × Nat) (b : Nat) (Q : Int64 → jM → Prop) (x1 : Int32) (μ : jM) : Prop :=
  (∃ fs, μ b = some (.inr (12, fs))) ∧ wX10_isAccount z b x1 μ (fun v1 μ2 => ((¬ v1 = 0) → ((∃ fs, μ2 b = some (.inr (12, fs))) ∧ wX10_isTop z b x1 μ2 (fun v3 μ4 => ((v3 = 0) → (wX10_poolInterest_26 z b Q x1 (some b) (2 : Int32) μ4)) ∧ (¬ (v3 = 0) → (wX10_poolInterest_26 z b Q x1 (some b) (0 : Int32) μ4))))) ∧ (v1 = 0 → (wX10_poolInterest_26 z b Q x1 (some b) (1 : Int32) μ2)))
def wX10_poolInterest (z : Nat × Nat) (b : Nat) (x1 : Int32) (μ : jM) (Q : Int64 → jM → Prop) : Prop := wX10_poolInterest_0 z b Q x1 μ
/-! X10_swept: swept (I)J -/
abbrev rmX10_swept : Room := { frames := 2, cells := 0, slots := 0, locals := 49 }
def wX10_swept_0 (z : Nat × Nat) (b : Nat) (Q : Int64 → jM → Prop) (x1 : Int32) (μ : jM) : Prop :=
  (∃ fs, μ b = some (.inr (12, fs))) ∧ wX10_keep z b  μ (fun _ μ2 => (∃ fs, μ2 b = some (.inr (12, fs))) ∧ wX10_sweep z b  μ2 (fun _ μ4 => ∃ v5 : Option Nat, jg μ4 (some b) 12 3 = some (va_rf v5) ∧ (∃ v6 : Int64, jaj μ4 v5 ((0 : Int32) + x1) = some v6 ∧ ((∃ fs, μ4 b = some (.inr (12, fs))) ∧ wX10_goBack z b  μ4 (fun _ μ8 => Q v6 μ8)))))
def wX10_swept (z : Nat × Nat) (b : Nat) (x1 : Int32) (μ : jM) (Q : Int64 → jM → Prop) : Prop := wX10_swept_0 z b Q x1 μ
/-! X10_afterSweep: afterSweep (I)J -/
abbrev rmX10_afterSweep : Room := { frames := 3, cells := 0, slots := 0, locals := 72 }
def wX10_afterSweep_0 (z : Nat × Nat) (b : Nat) (Q : Int64 → jM → Prop) (x1 : Int32) (μ : jM) : Prop :=
  (∃ fs, μ b = some (.inr (12, fs))) ∧ wX10_isThere z b x1 μ (fun v1 μ2 => ((v1 = 0) → (Q (0 : Int64) μ2)) ∧ (¬ (v1 = 0) → ((∃ fs, μ2 b = some (.inr (12, fs))) ∧ wX10_swept z b x1 μ2 (fun v3 μ4 => Q v3 μ4))))
def wX10_afterSweep (z : Nat × Nat) (b : Nat) (x1 : Int32) (μ : jM) (Q : Int64 → jM → Prop) : Prop := wX10_afterSweep_0 z b Q x1 μ
/-! X10_afterSweepByMoves: afterSweepByMoves (I)J -/
abbrev rmX10_afterSweepByMoves : Room := { frames := 3, cells := 0, slots := 0, locals := 72 }
def wX10_afterSweepByMoves_0 (z : Nat × Nat) (b : Nat) (Q : Int64 → jM → Prop) (x1 : Int32) (μ : jM) : Prop :=
  (∃ fs, μ b = some (.inr (12, fs))) ∧ wX10_isThere z b x1 μ (fun v1 μ2 => ((v1 = 0) → (Q (0 : Int64) μ2)) ∧ (¬ (v1 = 0) → ((∃ fs, μ2 b = some (.inr (12, fs))) ∧ wX10_swept z b x1 μ2 (fun v3 μ4 => Q v3 μ4))))
def wX10_afterSweepByMoves (z : Nat × Nat) (b : Nat) (x1 : Int32) (μ : jM) (Q : Int64 → jM → Prop) : Prop := wX10_afterSweepByMoves_0 z b Q x1 μ
/-! X10_forecast: forecast (II)J -/
abbrev rmX10_forecast : Room := { frames := 6, cells := 0, slots := 0, locals := 140 }
def wX10_forecast_42_b (z : Nat × Nat) (b : Nat) (Q : Int64 → jM → Prop) (ih : Int32 → Int32 → Int32 → jM → Prop) (x1 : Int32) (x2 : Int32) (x3 : Int32) (μ : jM) : Prop :=
  ((x2 ≤ x3) → (∃ v1 : Option Nat, jg μ (some b) 12 3 = some (va_rf v1) ∧ (∃ v2 : Int64, jaj μ v1 ((0 : Int32) + x1) = some v2 ∧ ((∃ fs, μ b = some (.inr (12, fs))) ∧ wX10_goBack z b  μ (fun _ μ4 => Q v2 μ4))))) ∧ (¬ (x2 ≤ x3) → ((∃ fs, μ b = some (.inr (12, fs))) ∧ wX10_passDay z b  μ (fun _ μ6 => ∀ v7 : Int32, v7 = x3 + (1 : Int32) → (ih x1 x2 v7 μ6))))
def wX10_forecast_42 (z : Nat × Nat) (b : Nat) (Q : Int64 → jM → Prop) (n : Nat) : Int32 → Int32 → Int32 → jM → Prop := Nat.rec (motive := fun _ => Int32 → Int32 → Int32 → jM → Prop) (fun _ _ _ _ => False) (fun _ ih => wX10_forecast_42_b z b Q ih) n
def wX10_forecast_28 (z : Nat × Nat) (b : Nat) (Q : Int64 → jM → Prop) (x1 : Int32) (x2 : Int32) (t0 : Option Nat) (t1 : Int32) (μ : jM) : Prop :=
  ∃ b3 : Nat, (t0 = some b3 ∧ ∃ fs, μ b3 = some (.inr (12, fs))) ∧ wX10_can z b3 t1 μ (fun v1 μ2 => ((¬ v1 = 0) → ((∃ fs, μ2 b = some (.inr (12, fs))) ∧ wX10_keep z b  μ2 (fun _ μ5 => ∀ v6 : Int32, v6 = (0 : Int32) → (∃ n7 : Nat, wX10_forecast_42 z b Q n7 x1 x2 v6 μ5)))) ∧ (v1 = 0 → (Q (0 : Int64) μ2)))
def wX10_forecast_0 (z : Nat × Nat) (b : Nat) (Q : Int64 → jM → Prop) (x1 : Int32) (x2 : Int32) (μ : jM) : Prop :=
  (∃ fs, μ b = some (.inr (12, fs))) ∧ wX10_isAccount z b x1 μ (fun v1 μ2 => ((¬ v1 = 0) → (wX10_isIn z x2 (1 : Int32) (60 : Int32) μ2 (fun v3 μ4 => ((v3 = 0) → (wX10_forecast_28 z b Q x1 x2 (some b) (2 : Int32) μ4)) ∧ (¬ (v3 = 0) → (wX10_forecast_28 z b Q x1 x2 (some b) (0 : Int32) μ4))))) ∧ (v1 = 0 → (wX10_forecast_28 z b Q x1 x2 (some b) (1 : Int32) μ2)))
def wX10_forecast (z : Nat × Nat) (b : Nat) (x1 : Int32) (x2 : Int32) (μ : jM) (Q : Int64 → jM → Prop) : Prop := wX10_forecast_0 z b Q x1 x2 μ
/-! X10_daysToShort: daysToShort (II)I -/
abbrev rmX10_daysToShort : Room := { frames := 6, cells := 0, slots := 0, locals := 140 }
def wX10_daysToShort_98 (z : Nat × Nat) (b : Nat) (Q : Int32 → jM → Prop) (x3 : Int32) (μ : jM) : Prop :=
  (∃ fs, μ b = some (.inr (12, fs))) ∧ wX10_goBack z b  μ (fun _ μ2 => Q x3 μ2)
def wX10_daysToShort_57_b (z : Nat × Nat) (b : Nat) (Q : Int32 → jM → Prop) (ih : Int32 → Int32 → Int32 → Int32 → jM → Prop) (x1 : Int32) (x2 : Int32) (x3 : Int32) (x4 : Int32) (μ : jM) : Prop :=
  ((x2 < x4) → (wX10_daysToShort_98 z b Q x3 μ)) ∧ (¬ (x2 < x4) → (((¬ x3 = (-1 : Int32)) → (wX10_daysToShort_98 z b Q x3 μ)) ∧ (x3 = (-1 : Int32) → ((∃ fs, μ b = some (.inr (12, fs))) ∧ wX10_passDay z b  μ (fun _ μ2 => ∃ v3 : Option Nat, jg μ2 (some b) 12 3 = some (va_rf v3) ∧ (∃ v4 : Int64, jaj μ2 v3 ((0 : Int32) + x1) = some v4 ∧ ((((0 : Int64) ≤ v4) → (∀ v5 : Int32, v5 = (-1 : Int32) → (∀ v6 : Int32, v6 = x4 + (1 : Int32) → (ih x1 x2 v5 v6 μ2)))) ∧ (¬ ((0 : Int64) ≤ v4) → (∀ v7 : Int32, v7 = x4 + (1 : Int32) → (ih x1 x2 x4 v7 μ2))))))))))
def wX10_daysToShort_57 (z : Nat × Nat) (b : Nat) (Q : Int32 → jM → Prop) (n : Nat) : Int32 → Int32 → Int32 → Int32 → jM → Prop := Nat.rec (motive := fun _ => Int32 → Int32 → Int32 → Int32 → jM → Prop) (fun _ _ _ _ _ => False) (fun _ ih => wX10_daysToShort_57_b z b Q ih) n
def wX10_daysToShort_40 (z : Nat × Nat) (b : Nat) (Q : Int32 → jM → Prop) (x1 : Int32) (x2 : Int32) (t0 : Option Nat) (t1 : Int32) (μ : jM) : Prop :=
  ∃ b3 : Nat, (t0 = some b3 ∧ ∃ fs, μ b3 = some (.inr (12, fs))) ∧ wX10_can z b3 t1 μ (fun v1 μ2 => ((¬ v1 = 0) → ((∃ fs, μ2 b = some (.inr (12, fs))) ∧ wX10_keep z b  μ2 (fun _ μ5 => ∀ v6 : Int32, v6 = (-1 : Int32) → (∀ v7 : Int32, v7 = (1 : Int32) → (∃ n8 : Nat, wX10_daysToShort_57 z b Q n8 x1 x2 v6 v7 μ5))))) ∧ (v1 = 0 → (Q (0 : Int32) μ2)))
def wX10_daysToShort_0 (z : Nat × Nat) (b : Nat) (Q : Int32 → jM → Prop) (x1 : Int32) (x2 : Int32) (μ : jM) : Prop :=
  (∃ fs, μ b = some (.inr (12, fs))) ∧ wX10_isAccount z b x1 μ (fun v1 μ2 => ((¬ v1 = 0) → (wX10_isIn z x2 (1 : Int32) (60 : Int32) μ2 (fun v3 μ4 => ((¬ v3 = 0) → ((∃ fs, μ4 b = some (.inr (12, fs))) ∧ wX10_isTop z b x1 μ4 (fun v5 μ6 => ((v5 = 0) → (wX10_daysToShort_40 z b Q x1 x2 (some b) (3 : Int32) μ6)) ∧ (¬ (v5 = 0) → (wX10_daysToShort_40 z b Q x1 x2 (some b) (0 : Int32) μ6))))) ∧ (v3 = 0 → (wX10_daysToShort_40 z b Q x1 x2 (some b) (2 : Int32) μ4))))) ∧ (v1 = 0 → (wX10_daysToShort_40 z b Q x1 x2 (some b) (1 : Int32) μ2)))
def wX10_daysToShort (z : Nat × Nat) (b : Nat) (x1 : Int32) (x2 : Int32) (μ : jM) (Q : Int32 → jM → Prop) : Prop := wX10_daysToShort_0 z b Q x1 x2 μ
