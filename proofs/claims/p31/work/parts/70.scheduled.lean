/-! ===== the sum of the flows that are scheduled, both sides ===== -/
def qa (I : Nat → Nat → Int32) (f : Nat) : Nat := (I 17 f).toNatClampNeg
def qb (I : Nat → Nat → Int32) (f : Nat) : Nat := (I 18 f).toNatClampNeg
def qT (I : Nat → Nat → Int32) (f : Nat) : Nat := (I 19 f).toNatClampNeg
def qm (y : Nat → Int64) (f : Nat) : Nat := (y (88 + f)).toInt.toNat
/-- the flows: how many times are done, and that a due day gone by was followed by no settlement day -/
def fwOk (F d : Nat) (I : Nat → Nat → Int32) (y : Nat → Int64) : Prop := ∀ f, f < F → qa I f ≤ 450 ∧ qb I f ≤ 100 ∧ qm y f ≤ qT I f ∧ qT I f ≤ 30 ∧ I 17 f = nI (qa I f) ∧ I 18 f = nI (qb I f) ∧ I 19 f = nI (qT I f) ∧ y (88 + f) = lN (qm y f) ∧ (qm y f < qT I f → ∀ e, qa I f + qm y f * qb I f ≤ e → e < d → ¬ stF I e = true)
def gF (I : Nat → Nat → Int32) (f : Nat) (u v : Int32) (t : Nat) : Int64 := if oI (stlF I (451 - (qa I f + t * qb I f)) (qa I f + t * qb I f)) < u then 0 else if v < oI (stlF I (451 - (qa I f + t * qb I f)) (qa I f + t * qb I f)) then 0 else (I 16 f).toInt64
def gS (I : Nat → Nat → Int32) (f m : Nat) (u v : Int32) (t : Nat) (s : Int64) : Int64 := s + gF I f u v (m + t)
def sfF (I : Nat → Nat → Int32) (y : Nat → Int64) (i : Nat) (u v : Int32) (f : Nat) (s : Int64) : Int64 := if fA I f = i then itr (gS I f (qm y f) u v) (qT I f - qm y f) s else s
def scF (I : Nat → Nat → Int32) (F : Nat) (y : Nat → Int64) (i : Nat) (u v : Int32) : Int64 := itr (sfF I y i u v) F 0
theorem gS_shift {I : Nat → Nat → Int32} {f m : Nat} {u v : Int32} {s : Int64} : ∀ n, itr (gS I f m u v) n s = s + itr (gS I f m u v) n 0
  | 0 => (Int64.add_zero s).symm
  | n + 1 => by
    show itr (gS I f m u v) n s + gF I f u v (m + n) = s + (itr (gS I f m u v) n 0 + gF I f u v (m + n))
    rw [gS_shift n, Int64.add_assoc]
theorem nI_mul2 (a b : Nat) : nI a * nI b = nI (a * b) := (Int32.ofNat_mul a b).symm
theorem nI_sub2 {a b : Nat} (h : b ≤ a) : nI a - nI b = nI (a - b) := by
  rw [show nI a = nI (a - b) + nI b by rw [nI_add, Nat.sub_add_cancel h], Int32.add_sub_cancel]
/-- without a settlement day between, the next one is the same -/
theorem stl_skip {I : Nat → Nat → Int32} : ∀ (n e d : Nat), e + n = d → (∀ x, e ≤ x → x < d → ¬ stF I x = true) → stlF I (451 - e) e = stlF I (451 - d) d := by
  intro n
  induction n with
  | zero => intro e d h _; rw [show e = d by omega]
  | succ n ih =>
    intro e d h hs
    rw [← ih (e + 1) d (by omega) (fun x hx => hs x (by omega))]
    by_cases g : e ≤ 450
    · rw [show 451 - e = (451 - (e + 1)) + 1 by omega]
      show (if stF I e = true then some e else stlF I (451 - (e + 1)) (e + 1)) = _
      rw [if_neg (hs e (Nat.le_refl _) (by omega))]
    · rw [show 451 - e = 0 by omega, show 451 - (e + 1) = 0 by omega]
      rfl
section SC
variable {z : Nat × Nat} {ad : Nat × Nat → Nat} {nm : Nat → Nat × Nat} {A L F : Nat} {I : Nat → Nat → Int32} {K : Nat → Nat → Int64} {k : Nat → Nat → Int32} {μ0 : jM} {y : Nat → Int64} {d : Nat}
theorem c_sumWithin (h : cE ad nm A L F I) (hw : fwOk F d I y) {f : Nat} (hf : f < F) {u v : Int32} {Q : Int64 → jM → Prop} (q : Q (itr (gS I f (qm y f) u v) (qT I f - qm y f) 0) (cM z ad nm A L F I y K k μ0)) : wX4_sumWithin z (ad (21, f)) (some (ad (2, 0))) u v (cM z ad nm A L F I y K k μ0) Q := by
  obtain ⟨w1, w2, w3, w4, w5, w6, w7, w8, -⟩ := hw f hf
  have e4 : I 19 f - (y (88 + f)).toInt32 = nI (qT I f - qm y f) := by rw [w7, w8, lN_i, nI_sub2 w3]
  have e3 : I 17 f + (y (88 + f)).toInt32 * I 18 f = nI (qa I f + qm y f * qb I f) := by rw [w5, w6, w8, lN_i, nI_mul2, nI_add]
  unfold wX4_sumWithin wX4_sumWithin_0
  intro v1 e1 v2 e2
  subst e1
  subst e2
  refine jfor (fun n j s => wX4_sumWithin_6 z (ad (21, f)) Q n (some (ad (2, 0))) u v s (nI j) (cM z ad nm A L F I y K k μ0)) (qT I f - qm y f) (gS I f (qm y f) u v) 0 ?_ ?_
  · intro n j hj hn
    generalize itr (gS I f (qm y f) u v) j 0 = s at hn ⊢
    have mb : (qm y f + j) * qb I f ≤ 30 * 100 := Nat.mul_le_mul (by omega) w2
    have e : nI (qa I f + qm y f * qb I f) + nI j * nI (qb I f) = nI (qa I f + (qm y f + j) * qb I f) := by
      rw [nI_mul2, nI_add, Nat.add_mul, Nat.add_assoc]
    show wX4_sumWithin_6_b z (ad (21, f)) Q (wX4_sumWithin_6 z (ad (21, f)) Q n) (some (ad (2, 0))) u v s (nI j) _
    unfold wX4_sumWithin_6_b
    refine ⟨_, cg21_4 h.1 hf, ?_⟩
    rw [e4]
    refine ⟨fun c => absurd c (nI_ge hj (by omega)), fun _ => ⟨_, cg21_3 h.1 hf, _, cg21_2 h.1 hf, _, ⟨rfl, ch2 h.1⟩, c_firstSettling h (d := qa I f + (qm y f + j) * qb I f) (by rw [e3, w6]; exact e) (by omega) ?_⟩⟩
    have hn : wX4_sumWithin_6 z (ad (21, f)) Q n (some (ad (2, 0))) u v (s + gF I f u v (qm y f + j)) (nI (j + 1)) (cM z ad nm A L F I y K k μ0) := hn
    unfold gF at hn
    generalize oI (stlF I (451 - (qa I f + (qm y f + j) * qb I f)) (qa I f + (qm y f + j) * qb I f)) = r at hn ⊢
    refine ⟨fun c => ?_, fun c => ⟨fun c2 => ?_, fun c2 => ⟨_, cg21_1 h.1 hf, ?_⟩⟩⟩
    · intro v7 e7
      rw [if_pos c, Int64.add_zero] at hn
      rw [e7, nI_1]
      exact hn
    · intro v7 e7
      rw [if_neg c, if_pos c2, Int64.add_zero] at hn
      rw [e7, nI_1]
      exact hn
    · intro v10 e10 v11 e11
      rw [if_neg c, if_neg c2] at hn
      rw [e10, e11, nI_1]
      exact hn
  · show wX4_sumWithin_6_b z (ad (21, f)) Q (wX4_sumWithin_6 z (ad (21, f)) Q 0) (some (ad (2, 0))) u v _ _ _
    unfold wX4_sumWithin_6_b
    refine ⟨_, cg21_4 h.1 hf, ?_⟩
    rw [e4]
    exact ⟨fun _ => q, fun c => absurd (Int32.le_refl _) c⟩
theorem ad7_inj (h : cOk ad nm A L F I) {i j : Nat} (hi : i < A) (hj : j < A) (e : ad (7, i) = ad (7, j)) : i = j := by
  have l : ∀ i, i < A → cLv A L F I (7, i) := fun i hi => cLv_iff.mpr ⟨_, cC7 (z := (0, 0)) (ad := ad) (zz := fun _ => 0) (K := fun _ _ => 0) (k := fun _ _ => 0) hi⟩
  have e1 := h.1 _ (l i hi)
  rw [e, h.1 _ (l j hj)] at e1
  exact (Prod.mk.inj e1).2.symm
theorem c_sumOfFlows (h : cE ad nm A L F I) (hw : fwOk F d I y) {i : Nat} (hi : i < A) {u v : Int32} {Q : Int64 → jM → Prop} (q : Q (scF I F y i u v) (cM z ad nm A L F I y K k μ0)) : wX3_sumOfFlows z (ad (1, 0)) (some (ad (7, i))) u v (cM z ad nm A L F I y K k μ0) Q := by
  have hF := h.2.2.2.1
  have hl : clv A I 4 3 := Or.inl ⟨rfl, by decide⟩
  have hl3 : (clist A L F I 4 3).length = F := List.length_range
  unfold wX3_sumOfFlows wX3_sumOfFlows_0
  intro v1 e1 v2 e2
  subst e1
  subst e2
  refine jfor (fun n j s => wX3_sumOfFlows_6 z (ad (1, 0)) Q n (some (ad (7, i))) u v s (nI j) (cM z ad nm A L F I y K k μ0)) F (sfF I y i u v) 0 ?_ ?_
  · intro n f hf hn
    generalize itr (sfF I y i u v) f 0 = s at hn ⊢
    have fl := (h.2.2.2.2.2.2.2.2.1 f hf).2
    show wX3_sumOfFlows_6_b z (ad (1, 0)) Q (wX3_sumOfFlows_6 z (ad (1, 0)) Q n) (some (ad (7, i))) u v s (nI f) _
    unfold wX3_sumOfFlows_6_b
    refine ⟨_, cg1_3 h.1, _, ⟨rfl, c_lh h hl⟩, c_size h hl ?_⟩
    rw [hl3]
    refine ⟨fun c => absurd c (nI_ge hf (by omega)), fun _ => ⟨_, cg1_3 h.1, _, ⟨rfl, c_lh h hl⟩, c_get h hl (List.getElem?_range hf) rfl ⟨cj21 h.1 hf, _, cg21_0 h.1 hf, fun c => ?_, fun c => ⟨_, cg1_5 h.1, _, ⟨rfl, ch21 h.1 hf⟩, c_sumWithin h hw hf ?_⟩⟩⟩⟩
    · have ne : ¬ fA I f = i := fun e => c (by rw [e])
      intro v11 e11
      unfold sfF at hn
      rw [if_neg ne] at hn
      rw [e11, nI_1]
      exact hn
    · have eq : fA I f = i := ad7_inj h.1 fl hi (Option.some.inj c)
      intro v16 e16 v17 e17
      unfold sfF at hn
      rw [if_pos eq, gS_shift] at hn
      rw [e16, e17, nI_1]
      exact hn
  · show wX3_sumOfFlows_6_b z (ad (1, 0)) Q (wX3_sumOfFlows_6 z (ad (1, 0)) Q 0) (some (ad (7, i))) u v _ (nI F) _
    unfold wX3_sumOfFlows_6_b
    refine ⟨_, cg1_3 h.1, _, ⟨rfl, c_lh h hl⟩, c_size h hl ?_⟩
    rw [hl3]
    exact ⟨fun _ => q, fun c => absurd (Int32.le_refl _) c⟩
theorem c_scheduled (h : cE ad nm A L F I) (hw : fwOk F d I y) (s4 : y 108 = lN d) {x x2 x3 : Int32} {Q : Int64 → jM → Prop} {E : String → jM → Prop} (q : ∀ i, i < A → x = nI i → (nI d ≤ x2 ∧ x2 ≤ x3 ∧ x3 ≤ 450) → Q (scF I F y i x2 x3) (cM z ad nm A L F I y K k μ0)) (e : ¬ (0 ≤ x ∧ x < nI A) → E "java/lang/IndexOutOfBoundsException" (cM z ad nm A L F I y K k μ0)) (e2 : 0 ≤ x ∧ x < nI A → ¬ (nI d ≤ x2 ∧ x2 ≤ x3 ∧ x3 ≤ 450) → E "java/lang/IllegalArgumentException" (cM z ad nm A L F I y K k μ0)) : wX9_scheduled z (ad (0, 0)) x x2 x3 (cM z ad nm A L F I y K k μ0) Q E := by
  have hA := h.2.1
  unfold wX9_scheduled wX9_scheduled_0
  refine ⟨ch0 h.1, c_accountAt h (fun i hi ei => ⟨_, cg0_0 h.1, _, cg1_6 h.1, ?_⟩) e⟩
  have r : 0 ≤ x ∧ x < nI A := by rw [ei]; exact ⟨nI_pos' (by omega), nI_lt hi (by omega)⟩
  rw [s4, lN_i]
  exact c_within (fun v2 => c_within (fun v3 => ⟨_, cg0_0 h.1, _, ⟨rfl, ch1 h.1⟩, c_sumOfFlows h hw hi (q i hi ei ⟨v2.1, v3.1, v3.2⟩)⟩) (fun v3 => e2 r (fun w => v3 ⟨w.2.1, w.2.2⟩))) (fun v2 => e2 r (fun w => v2 ⟨w.1, Int32.le_trans w.2.1 w.2.2⟩))
end SC
section MS
variable {ad nm : Nat → Nat} {n : Nat → Int32} {I : Nat → Nat → Int32} {J : Nat → Nat → Int64} {μ0 : jM} {z : Nat × Nat} {A F d : Nat}
end MS
