/-! ===== the sum of the flows that are scheduled, both sides ===== -/
def qa (I : Nat → Nat → Int32) (f : Nat) : Nat := (I 17 f).toNatClampNeg
def qb (I : Nat → Nat → Int32) (f : Nat) : Nat := (I 18 f).toNatClampNeg
def qT (I : Nat → Nat → Int32) (f : Nat) : Nat := (I 19 f).toNatClampNeg
def qm (y : Nat → Int64) (f : Nat) : Nat := (y (88 + f)).toInt.toNat
/-- the flows: how many times are done, and that a due day gone by was followed by no settlement day -/
def fwOk (F d : Nat) (I : Nat → Nat → Int32) (y : Nat → Int64) : Prop := ∀ f, f < F → qa I f ≤ 450 ∧ qb I f ≤ 100 ∧ qm y f ≤ qT I f ∧ qT I f ≤ 30 ∧ I 17 f = nI (qa I f) ∧ I 18 f = nI (qb I f) ∧ I 19 f = nI (qT I f) ∧ y (88 + f) = lN (qm y f) ∧ (qm y f < qT I f → ∀ e, qa I f + qm y f * qb I f ≤ e → e < d → ¬ stF I e = true)
def gF (I : Nat → Nat → Int32) (f : Nat) (u v : Int32) (t : Nat) : Int64 := if oI (stlF I (451 - (qa I f + t * qb I f)) (qa I f + t * qb I f)) < u then 0 else if v < oI (stlF I (451 - (qa I f + t * qb I f)) (qa I f + t * qb I f)) then 0 else (I 16 f).toInt64
def gS (I : Nat → Nat → Int32) (f m : Nat) (u v : Int32) (t : Nat) (s : Int64) : Int64 := s + gF I f u v (m + t)
def sfF (I : Nat → Nat → Int32) (y : Nat → Int64) (i : Nat) (u v : Int32) (f : Nat) (s : Int64) : Int64 := if fA I f = i then itr (gS I f (qm y f) u v) (qT I f - qm y f) s else s
def scF (I : Nat → Nat → Int32) (F : Nat) (y : Nat → Int64) (i : Nat) (u v : Int32) : Int64 := itr (sfF I y i u v) F 0
theorem gS_shift {I : Nat → Nat → Int32} {f m : Nat} {u v : Int32} {s : Int64} : ∀ n, itr (gS I f m u v) n s = s + itr (gS I f m u v) n 0
  | 0 => (Int64.add_zero s).symm
  | n + 1 => by
    show itr (gS I f m u v) n s + gF I f u v (m + n) = s + (itr (gS I f m u v) n 0 + gF I f u v (m + n))
    rw [gS_shift n, Int64.add_assoc]
theorem nI_mul2 (a b : Nat) : nI a * nI b = nI (a * b) := (Int32.ofNat_mul a b).symm
theorem nI_sub2 {a b : Nat} (h : b ≤ a) : nI a - nI b = nI (a - b) := by
  rw [show nI a = nI (a - b) + nI b by rw [nI_add, Nat.sub_add_cancel h], Int32.add_sub_cancel]
/-- without a settlement day between, the next one is the same -/
theorem stl_skip {I : Nat → Nat → Int32} : ∀ (n e d : Nat), e + n = d → (∀ x, e ≤ x → x < d → ¬ stF I x = true) → stlF I (451 - e) e = stlF I (451 - d) d := by
  intro n
  induction n with
  | zero => intro e d h _; rw [show e = d by omega]
  | succ n ih =>
    intro e d h hs
    rw [← ih (e + 1) d (by omega) (fun x hx => hs x (by omega))]
    by_cases g : e ≤ 450
    · rw [show 451 - e = (451 - (e + 1)) + 1 by omega]
      show (if stF I e = true then some e else stlF I (451 - (e + 1)) (e + 1)) = _
      rw [if_neg (hs e (Nat.le_refl _) (by omega))]
    · rw [show 451 - e = 0 by omega, show 451 - (e + 1) = 0 by omega]
      rfl
section SC
variable {z : Nat × Nat} {ad : Nat × Nat → Nat} {nm : Nat → Nat × Nat} {A L F : Nat} {I : Nat → Nat → Int32} {K : Nat → Nat → Int64} {k : Nat → Nat → Int32} {μ0 : jM} {y : Nat → Int64} {d : Nat}
theorem c_sumWithin (h : cE ad nm A L F I) (hw : fwOk F d I y) {f : Nat} (hf : f < F) {u v : Int32} {Q : Int64 → jM → Prop} (q : Q (itr (gS I f (qm y f) u v) (qT I f - qm y f) 0) (cM z ad nm A L F I y K k μ0)) : wX4_sumWithin z (ad (21, f)) (some (ad (2, 0))) u v (cM z ad nm A L F I y K k μ0) Q := by
  obtain ⟨w1, w2, w3, w4, w5, w6, w7, w8, -⟩ := hw f hf
  have e4 : I 19 f - (y (88 + f)).toInt32 = nI (qT I f - qm y f) := by rw [w7, w8, lN_i, nI_sub2 w3]
  have e3 : I 17 f + (y (88 + f)).toInt32 * I 18 f = nI (qa I f + qm y f * qb I f) := by rw [w5, w6, w8, lN_i, nI_mul2, nI_add]
  unfold wX4_sumWithin wX4_sumWithin_0
  intro v1 e1 v2 e2
  subst e1
  subst e2
  refine jfor (fun n j s => wX4_sumWithin_6 z (ad (21, f)) Q n (some (ad (2, 0))) u v s (nI j) (cM z ad nm A L F I y K k μ0)) (qT I f - qm y f) (gS I f (qm y f) u v) 0 ?_ ?_
  · intro n j hj hn
    generalize itr (gS I f (qm y f) u v) j 0 = s at hn ⊢
    have mb : (qm y f + j) * qb I f ≤ 30 * 100 := Nat.mul_le_mul (by omega) w2
    have e : nI (qa I f + qm y f * qb I f) + nI j * nI (qb I f) = nI (qa I f + (qm y f + j) * qb I f) := by
      rw [nI_mul2, nI_add, Nat.add_mul, Nat.add_assoc]
    show wX4_sumWithin_6_b z (ad (21, f)) Q (wX4_sumWithin_6 z (ad (21, f)) Q n) (some (ad (2, 0))) u v s (nI j) _
    unfold wX4_sumWithin_6_b
    refine ⟨_, cg21_4 h.1 hf, ?_⟩
    rw [e4]
    refine ⟨fun c => absurd c (nI_ge hj (by omega)), fun _ => ⟨_, cg21_3 h.1 hf, _, cg21_2 h.1 hf, _, ⟨rfl, ch2 h.1⟩, c_firstSettling h (d := qa I f + (qm y f + j) * qb I f) (by rw [e3, w6]; exact e) (by omega) ?_⟩⟩
    have hn : wX4_sumWithin_6 z (ad (21, f)) Q n (some (ad (2, 0))) u v (s + gF I f u v (qm y f + j)) (nI (j + 1)) (cM z ad nm A L F I y K k μ0) := hn
    unfold gF at hn
    generalize oI (stlF I (451 - (qa I f + (qm y f + j) * qb I f)) (qa I f + (qm y f + j) * qb I f)) = r at hn ⊢
    refine ⟨fun c => ?_, fun c => ⟨fun c2 => ?_, fun c2 => ⟨_, cg21_1 h.1 hf, ?_⟩⟩⟩
    · intro v7 e7
      rw [if_pos c, Int64.add_zero] at hn
      rw [e7, nI_1]
      exact hn
    · intro v7 e7
      rw [if_neg c, if_pos c2, Int64.add_zero] at hn
      rw [e7, nI_1]
      exact hn
    · intro v10 e10 v11 e11
      rw [if_neg c, if_neg c2] at hn
      rw [e10, e11, nI_1]
      exact hn
  · show wX4_sumWithin_6_b z (ad (21, f)) Q (wX4_sumWithin_6 z (ad (21, f)) Q 0) (some (ad (2, 0))) u v _ _ _
    unfold wX4_sumWithin_6_b
    refine ⟨_, cg21_4 h.1 hf, ?_⟩
    rw [e4]
    exact ⟨fun _ => q, fun c => absurd (Int32.le_refl _) c⟩
theorem ad7_inj (h : cOk ad nm A L F I) {i j : Nat} (hi : i < A) (hj : j < A) (e : ad (7, i) = ad (7, j)) : i = j := by
  have l : ∀ i, i < A → cLv A L F I (7, i) := fun i hi => cLv_iff.mpr ⟨_, cC7 (z := (0, 0)) (ad := ad) (zz := fun _ => 0) (K := fun _ _ => 0) (k := fun _ _ => 0) hi⟩
  have e1 := h.1 _ (l i hi)
  rw [e, h.1 _ (l j hj)] at e1
  exact (Prod.mk.inj e1).2.symm
theorem c_sumOfFlows (h : cE ad nm A L F I) (hw : fwOk F d I y) {i : Nat} (hi : i < A) {u v : Int32} {Q : Int64 → jM → Prop} (q : Q (scF I F y i u v) (cM z ad nm A L F I y K k μ0)) : wX3_sumOfFlows z (ad (1, 0)) (some (ad (7, i))) u v (cM z ad nm A L F I y K k μ0) Q := by
  have hF := h.2.2.2.1
  have hl : clv A I 4 3 := Or.inl ⟨rfl, by decide⟩
  have hl3 : (clist A L F I 4 3).length = F := List.length_range
  unfold wX3_sumOfFlows wX3_sumOfFlows_0
  intro v1 e1 v2 e2
  subst e1
  subst e2
  refine jfor (fun n j s => wX3_sumOfFlows_6 z (ad (1, 0)) Q n (some (ad (7, i))) u v s (nI j) (cM z ad nm A L F I y K k μ0)) F (sfF I y i u v) 0 ?_ ?_
  · intro n f hf hn
    generalize itr (sfF I y i u v) f 0 = s at hn ⊢
    have fl := (h.2.2.2.2.2.2.2.2.1 f hf).2
    show wX3_sumOfFlows_6_b z (ad (1, 0)) Q (wX3_sumOfFlows_6 z (ad (1, 0)) Q n) (some (ad (7, i))) u v s (nI f) _
    unfold wX3_sumOfFlows_6_b
    refine ⟨_, cg1_3 h.1, _, ⟨rfl, c_lh h hl⟩, c_size h hl ?_⟩
    rw [hl3]
    refine ⟨fun c => absurd c (nI_ge hf (by omega)), fun _ => ⟨_, cg1_3 h.1, _, ⟨rfl, c_lh h hl⟩, c_get h hl (List.getElem?_range hf) rfl ⟨cj21 h.1 hf, _, cg21_0 h.1 hf, fun c => ?_, fun c => ⟨_, cg1_5 h.1, _, ⟨rfl, ch21 h.1 hf⟩, c_sumWithin h hw hf ?_⟩⟩⟩⟩
    · have ne : ¬ fA I f = i := fun e => c (by rw [e])
      intro v11 e11
      unfold sfF at hn
      rw [if_neg ne] at hn
      rw [e11, nI_1]
      exact hn
    · have eq : fA I f = i := ad7_inj h.1 fl hi (Option.some.inj c)
      intro v16 e16 v17 e17
      unfold sfF at hn
      rw [if_pos eq, gS_shift] at hn
      rw [e16, e17, nI_1]
      exact hn
  · show wX3_sumOfFlows_6_b z (ad (1, 0)) Q (wX3_sumOfFlows_6 z (ad (1, 0)) Q 0) (some (ad (7, i))) u v _ (nI F) _
    unfold wX3_sumOfFlows_6_b
    refine ⟨_, cg1_3 h.1, _, ⟨rfl, c_lh h hl⟩, c_size h hl ?_⟩
    rw [hl3]
    exact ⟨fun _ => q, fun c => absurd (Int32.le_refl _) c⟩
theorem c_scheduled (h : cE ad nm A L F I) (hw : fwOk F d I y) (s4 : y 108 = lN d) {x x2 x3 : Int32} {Q : Int64 → jM → Prop} {E : String → jM → Prop} (q : ∀ i, i < A → x = nI i → (nI d ≤ x2 ∧ x2 ≤ x3 ∧ x3 ≤ 450) → Q (scF I F y i x2 x3) (cM z ad nm A L F I y K k μ0)) (e : ¬ (0 ≤ x ∧ x < nI A) → E "java/lang/IndexOutOfBoundsException" (cM z ad nm A L F I y K k μ0)) (e2 : 0 ≤ x ∧ x < nI A → ¬ (nI d ≤ x2 ∧ x2 ≤ x3 ∧ x3 ≤ 450) → E "java/lang/IllegalArgumentException" (cM z ad nm A L F I y K k μ0)) : wX9_scheduled z (ad (0, 0)) x x2 x3 (cM z ad nm A L F I y K k μ0) Q E := by
  have hA := h.2.1
  unfold wX9_scheduled wX9_scheduled_0
  refine ⟨ch0 h.1, c_accountAt h (fun i hi ei => ⟨_, cg0_0 h.1, _, cg1_6 h.1, ?_⟩) e⟩
  have r : 0 ≤ x ∧ x < nI A := by rw [ei]; exact ⟨nI_pos' (by omega), nI_lt hi (by omega)⟩
  rw [s4, lN_i]
  exact c_within (fun v2 => c_within (fun v3 => ⟨_, cg0_0 h.1, _, ⟨rfl, ch1 h.1⟩, c_sumOfFlows h hw hi (q i hi ei ⟨v2.1, v3.1, v3.2⟩)⟩) (fun v3 => e2 r (fun w => v3 ⟨w.2.1, w.2.2⟩))) (fun v2 => e2 r (fun w => v2 ⟨w.1, Int32.le_trans w.2.1 w.2.2⟩))
end SC
section MS
variable {ad nm : Nat → Nat} {n : Nat → Int32} {I : Nat → Nat → Int32} {J : Nat → Nat → Int64} {μ0 : jM} {z : Nat × Nat} {A F d : Nat}
theorem m_sched (h : mOk ad nm) (hF : n 2 = nI F) (hF20 : F ≤ 20) {i : Nat} (hi : i < 2 ^ 31) (hfa : ∀ f, f < F → I 15 f = nI (fA I f) ∧ fA I f < 10) (hw : fwOk F d I (J 1)) (hd : d ≤ 450) {x2 x3 : Int32} {Q : Int64 → jM → Prop} (q : Q (scF I F (J 1) i x2 x3) (mM ad nm n I J μ0)) : ∃ c, wX10_scheduled_67 z (ad 0) Q c (nI i) x2 x3 0 (nI d) 0 (mM ad nm n I J μ0) := by
  refine jfor (fun c j s => wX10_scheduled_67 z (ad 0) Q c (nI i) x2 x3 s (nI d) (nI j) (mM ad nm n I J μ0)) F (sfF I (J 1) i x2 x3) 0 ?_ ?_
  · intro c f hf hn
    generalize itr (sfF I (J 1) i x2 x3) f 0 = s at hn ⊢
    obtain ⟨w1, w2, w3, w4, w5, w6, w7, w8, w9⟩ := hw f hf
    obtain ⟨f1, f2⟩ := hfa f hf
    have e1 : (88 : Int32) + nI f = nI (88 + f) := nI_add 88 f
    have f20 : f < 20 := by omega
    show wX10_scheduled_67_b z (ad 0) Q (wX10_scheduled_67 z (ad 0) Q c) (nI i) x2 x3 s (nI d) (nI f) _
    unfold wX10_scheduled_67_b
    simp only [mg2 h, mg3 h, mJ h (k := 1) (Or.inl rfl) (show 88 + f < mlen 1 by show 88 + f < 109; omega) e1, Option.some.injEq, Value.int.injEq, Value.long.injEq, jrf_inj, jrf_ref, jrf_null, exists_eq_left, exists_eq_left', exists_eq_right, forall_eq, forall_eq', and_true, true_and, not_true_eq_false, not_false_eq_true, false_and, and_false, true_implies, implies_true, false_implies]
    rw [hF, w8, lN_i]
    refine ⟨fun w => absurd w (nI_ge hf (by omega)), fun _ => ?_⟩
    by_cases eq : fA I f = i
    · have hn : wX10_scheduled_67 z (ad 0) Q c (nI i) x2 x3 (itr (gS I f (qm (J 1) f) x2 x3) (qT I f - qm (J 1) f) s) (nI d) (nI (f + 1)) (mM ad nm n I J μ0) := by
        unfold sfF at hn
        rw [if_pos eq] at hn
        exact hn
      have all := jfor (fun c' j s' => wX10_scheduled_89 z (ad 0) (wX10_scheduled_67 z (ad 0) Q c) Q c' (nI i) x2 x3 s' (nI d) (nI f) (nI (qm (J 1) f + j)) (mM ad nm n I J μ0)) (qT I f - qm (J 1) f) (gS I f (qm (J 1) f) x2 x3) s ?_ ?_
      · exact all
      · intro c' j hj hn'
        generalize itr (gS I f (qm (J 1) f) x2 x3) j s = s' at hn' ⊢
        have mb : (qm (J 1) f + j) * qb I f ≤ 30 * 100 := Nat.mul_le_mul (by omega) w2
        have eD : I 17 f + nI (qm (J 1) f + j) * I 18 f = nI (qa I f + (qm (J 1) f + j) * qb I f) := by rw [w5, w6, nI_mul2, nI_add]
        have hn' : wX10_scheduled_89 z (ad 0) (wX10_scheduled_67 z (ad 0) Q c) Q c' (nI i) x2 x3 (s' + gF I f x2 x3 (qm (J 1) f + j)) (nI d) (nI f) (nI (qm (J 1) f + (j + 1))) (mM ad nm n I J μ0) := hn'
        have fin : wX10_scheduled_146 z (ad 0) (wX10_scheduled_67 z (ad 0) Q c) (wX10_scheduled_89 z (ad 0) (wX10_scheduled_67 z (ad 0) Q c) Q c') Q (nI i) x2 x3 s' (nI d) (nI f) (nI (qm (J 1) f + j)) (oI (stlF I (451 - (qa I f + (qm (J 1) f + j) * qb I f)) (qa I f + (qm (J 1) f + j) * qb I f))) (mM ad nm n I J μ0) := by
          unfold wX10_scheduled_146
          unfold gF at hn'
          generalize oI (stlF I (451 - (qa I f + (qm (J 1) f + j) * qb I f)) (qa I f + (qm (J 1) f + j) * qb I f)) = r at hn' ⊢
          refine ⟨fun g => ?_, fun g => ⟨fun g2 => ?_, fun g2 => ?_⟩⟩
          · intro v1 e1 v2 e2
            rw [if_pos g] at hn'
            rw [e1, e2, nI_1]
            exact hn'
          · intro v1 e1 v2 e2
            rw [if_neg g, if_pos g2] at hn'
            rw [e1, e2, nI_1]
            exact hn'
          · rw [if_neg g, if_neg g2] at hn'
            refine ⟨_, mg18 h, _, mI h (k := 16) (by omega) (by omega) (show f < mlen 16 from f20) rfl, ?_⟩
            intro v1 e1 v2 e2
            rw [e1, e2, nI_1]
            exact hn'
        show wX10_scheduled_89_b z (ad 0) (wX10_scheduled_67 z (ad 0) Q c) Q (wX10_scheduled_89 z (ad 0) (wX10_scheduled_67 z (ad 0) Q c) Q c') (nI i) x2 x3 s' (nI d) (nI f) (nI (qm (J 1) f + j)) _
        unfold wX10_scheduled_89_b
        simp only [mg21 h, mg17 h, mI h (k := 19) (by omega) (by omega) (show f < mlen 19 from f20) rfl, mI h (k := 15) (by omega) (by omega) (show f < mlen 15 from f20) rfl, Option.some.injEq, Value.int.injEq, Value.long.injEq, jrf_inj, jrf_ref, jrf_null, exists_eq_left, exists_eq_left', exists_eq_right, forall_eq, forall_eq', and_true, true_and, not_true_eq_false, not_false_eq_true, false_and, and_false, true_implies, implies_true, false_implies]
        rw [w7]
        refine ⟨fun w => absurd w (nI_ge (by omega) (by omega)), fun _ => ⟨fun w => absurd (by rw [f1, eq]) w, fun _ => ⟨mhere h, m_due h rfl f20 ?_⟩⟩⟩
        rw [eD]
        refine ⟨fun g => ⟨mhere h, m_due h rfl f20 ?_⟩, fun g => ⟨mhere h, m_settles h rfl (by omega) ?_⟩⟩
        · rw [eD]
          exact ⟨mhere h, m_settles h rfl (by omega) fin⟩
        · have lt : qa I f + (qm (J 1) f + j) * qb I f < d := by
            have := mt (nI_leI (a := d) (b := qa I f + (qm (J 1) f + j) * qb I f) (by omega) (by omega)).mpr g
            omega
          have mb2 : qm (J 1) f * qb I f ≤ (qm (J 1) f + j) * qb I f := Nat.mul_le_mul_right _ (by omega)
          rw [← stl_skip (d - (qa I f + (qm (J 1) f + j) * qb I f)) (qa I f + (qm (J 1) f + j) * qb I f) d (by omega) (fun e he1 he2 => w9 (by omega) e (by omega) he2)]
          exact fin
      · show wX10_scheduled_89_b z (ad 0) (wX10_scheduled_67 z (ad 0) Q c) Q (wX10_scheduled_89 z (ad 0) (wX10_scheduled_67 z (ad 0) Q c) Q 0) (nI i) x2 x3 _ (nI d) (nI f) (nI (qm (J 1) f + (qT I f - qm (J 1) f))) _
        unfold wX10_scheduled_89_b
        simp only [mg21 h, mI h (k := 19) (by omega) (by omega) (show f < mlen 19 from f20) rfl, Option.some.injEq, Value.int.injEq, Value.long.injEq, jrf_inj, jrf_ref, jrf_null, exists_eq_left, exists_eq_left', exists_eq_right, forall_eq, forall_eq', and_true, true_and, not_true_eq_false, not_false_eq_true, false_and, and_false, true_implies, implies_true, false_implies]
        rw [w7, show qm (J 1) f + (qT I f - qm (J 1) f) = qT I f by omega, nI_1]
        exact ⟨fun _ => hn, fun w => absurd (Int32.le_refl _) w⟩
    · unfold sfF at hn
      rw [if_neg eq] at hn
      refine ⟨1, ?_⟩
      show wX10_scheduled_89_b z (ad 0) (wX10_scheduled_67 z (ad 0) Q c) Q (wX10_scheduled_89 z (ad 0) (wX10_scheduled_67 z (ad 0) Q c) Q 0) (nI i) x2 x3 _ (nI d) (nI f) (nI (qm (J 1) f)) _
      unfold wX10_scheduled_89_b
      simp only [mg21 h, mg17 h, mI h (k := 19) (by omega) (by omega) (show f < mlen 19 from f20) rfl, mI h (k := 15) (by omega) (by omega) (show f < mlen 15 from f20) rfl, Option.some.injEq, Value.int.injEq, Value.long.injEq, jrf_inj, jrf_ref, jrf_null, exists_eq_left, exists_eq_left', exists_eq_right, forall_eq, forall_eq', and_true, true_and, not_true_eq_false, not_false_eq_true, false_and, and_false, true_implies, implies_true, false_implies]
      rw [nI_1]
      refine ⟨fun _ => hn, fun _ => ⟨fun _ => hn, fun w => ?_⟩⟩
      rw [f1] at w
      exact absurd ((nI_eq (by omega) hi).mp w) eq
  · show wX10_scheduled_67_b z (ad 0) Q (wX10_scheduled_67 z (ad 0) Q 0) (nI i) x2 x3 _ (nI d) (nI F) _
    unfold wX10_scheduled_67_b
    simp only [mg2 h, Option.some.injEq, Value.int.injEq, Value.long.injEq, jrf_inj, jrf_ref, jrf_null, exists_eq_left, exists_eq_left', exists_eq_right, forall_eq, forall_eq', and_true, true_and, not_true_eq_false, not_false_eq_true, false_and, and_false, true_implies, implies_true, false_implies]
    rw [hF]
    exact ⟨fun _ => q, fun w => absurd (Int32.le_refl _) w⟩
theorem m_scheduled (h : mOk ad nm) (hA : n 0 = nI A) (hA10 : A ≤ 10) (hF : n 2 = nI F) (hF20 : F ≤ 20) (hfa : ∀ f, f < F → I 15 f = nI (fA I f) ∧ fA I f < A) (hw : fwOk F d I (J 1)) (hd : d ≤ 450) (s4 : J 1 108 = lN d) {x x2 x3 : Int32} {Q : Int64 → jM → Prop} (q0 : ∀ i, i < A → x = nI i → (nI d ≤ x2 ∧ x2 ≤ x3 ∧ x3 ≤ 450) → Q (scF I F (J 1) i x2 x3) (mM ad nm (upd n 3 0) I J μ0)) (q1 : ¬ (0 ≤ x ∧ x < n 0) → Q 0 (mM ad nm (upd n 3 1) I J μ0)) (q2 : 0 ≤ x ∧ x < n 0 → ¬ (nI d ≤ x2 ∧ x2 ≤ x3 ∧ x3 ≤ 450) → Q 0 (mM ad nm (upd n 3 2) I J μ0)) : wX10_scheduled z (ad 0) x x2 x3 (mM ad nm n I J μ0) Q := by
  have lt64 : x2.toInt64 < lN d ↔ x2 < nI d := by
    rw [Int64.lt_iff_toInt_lt, Int32.lt_iff_toInt_lt, Int32.toInt_toInt64, lN_toInt (by omega), nI_toInt (by omega)]
  have b1 : ∀ {c : Prop} [Decidable c] {P R : Prop}, (c → P) → (¬ c → R) → ((¬ (if c then (1 : Int32) else 0) = 0) → P) ∧ ((if c then (1 : Int32) else 0) = 0 → R) := by
    intro c _ P R p r
    by_cases g : c
    · rw [if_pos g]; exact ⟨fun _ => p g, fun e => absurd e (by decide)⟩
    · rw [if_neg g]; exact ⟨fun e => absurd rfl e, fun _ => r g⟩
  unfold wX10_scheduled wX10_scheduled_0
  refine ⟨mhere h, m_isAccount h (b1 (fun v => ?_) (fun v => ?_))⟩
  · obtain ⟨i, hi, ei⟩ := ix_of hA (by omega) v
    have no : ¬ (nI d ≤ x2 ∧ x2 ≤ x3 ∧ x3 ≤ 450) → wX10_scheduled_38 z (ad 0) Q x x2 x3 (some (ad 0)) (mM ad nm n I J μ0) := fun g => by
      unfold wX10_scheduled_38 wX10_scheduled_43
      exact ⟨ad 0, ⟨rfl, mhere h⟩, m_can h ⟨fun e => absurd rfl e, fun _ => q2 v g⟩⟩
    simp only [mg3 h, mJ h (k := 1) (Or.inl rfl) (show 108 < mlen 1 by decide) (show (108 : Int32) = nI 108 from rfl), Option.some.injEq, Value.int.injEq, Value.long.injEq, jrf_inj, jrf_ref, jrf_null, exists_eq_left, exists_eq_left', exists_eq_right, forall_eq, forall_eq', and_true, true_and, not_true_eq_false, not_false_eq_true, false_and, and_false, true_implies, implies_true, false_implies]
    rw [s4]
    refine ⟨fun g => no (fun w => absurd (lt64.mp g) (Int32.not_lt.mpr w.1)), fun g => ⟨fun g2 => no (fun w => absurd g2 (Int32.not_lt.mpr w.2.1)), fun g2 => ⟨fun g3 => ?_, fun g3 => no (fun w => g3 w.2.2)⟩⟩⟩
    unfold wX10_scheduled_43
    refine ⟨ad 0, ⟨rfl, mhere h⟩, m_can h ⟨fun _ => ?_, fun e => absurd e (by decide)⟩⟩
    simp only [mg3 h, mJ h (k := 1) (Or.inl rfl) (show 108 < mlen 1 by decide) (show (108 : Int32) = nI 108 from rfl), Option.some.injEq, Value.int.injEq, Value.long.injEq, jrf_inj, jrf_ref, jrf_null, exists_eq_left, exists_eq_left', exists_eq_right, forall_eq, forall_eq', and_true, true_and, not_true_eq_false, not_false_eq_true, false_and, and_false, true_implies, implies_true, false_implies]
    rw [s4, lN_i, ei]
    exact m_sched h (by rw [upd3_2]; exact hF) hF20 (by omega) (fun f hf => ⟨(hfa f hf).1, by have := (hfa f hf).2; omega⟩) hw hd (q0 i hi ei ⟨Int32.not_lt.mp (fun c => g (lt64.mpr c)), Int32.not_lt.mp g2, g3⟩)
  · unfold wX10_scheduled_43
    exact ⟨ad 0, ⟨rfl, mhere h⟩, m_can h ⟨fun e => absurd rfl e, fun _ => q1 v⟩⟩
end MS
