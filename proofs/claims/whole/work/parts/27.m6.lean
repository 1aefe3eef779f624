/-! ===== the reference covers pools ===== -/
noncomputable def nlS (I : Nat → Nat → Int32) (y : Nat → Int64) (p : Nat) (dr : Bool) (k : Nat) (f : Option Nat) : Option Nat :=
  @ite _ ((I 11 k = nI p ∧ (if dr then y (70 + k) < (I 12 k).toInt64 else 0 < y (70 + k))) ∧ (∀ g, f = some g → (if dr then I 13 k < I 13 g else I 13 g ≤ I 13 k))) (Classical.propDecidable _) (some k) f
noncomputable def nlF (I : Nat → Nat → Int32) (Ln : Nat) (y : Nat → Int64) (p : Nat) (dr : Bool) : Option Nat := itr (nlS I y p dr) Ln none
section NL
variable {I : Nat → Nat → Int32} {y : Nat → Int64} {p k : Nat} {dr : Bool} {o : Option Nat}
theorem nlS_pos (h : (I 11 k = nI p ∧ (if dr then y (70 + k) < (I 12 k).toInt64 else 0 < y (70 + k))) ∧ (∀ g, o = some g → (if dr then I 13 k < I 13 g else I 13 g ≤ I 13 k))) : nlS I y p dr k o = some k := by
  unfold nlS; exact if_pos h
theorem nlS_neg (h : ¬ ((I 11 k = nI p ∧ (if dr then y (70 + k) < (I 12 k).toInt64 else 0 < y (70 + k))) ∧ (∀ g, o = some g → (if dr then I 13 k < I 13 g else I 13 g ≤ I 13 k)))) : nlS I y p dr k o = o := by
  unfold nlS; exact if_neg h
theorem nlS_or : nlS I y p dr k o = some k ∨ nlS I y p dr k o = o := by
  by_cases h : (I 11 k = nI p ∧ (if dr then y (70 + k) < (I 12 k).toInt64 else 0 < y (70 + k))) ∧ (∀ g, o = some g → (if dr then I 13 k < I 13 g else I 13 g ≤ I 13 k))
  · exact Or.inl (nlS_pos h)
  · exact Or.inr (nlS_neg h)
end NL
def bI1 (d : Bool) : Int32 := if d then 1 else 0
theorem bI1_t : bI1 true = 1 := rfl
theorem bI1_f : bI1 false = 0 := rfl
/-- what is drawn of a line, or paid back -/
def camt (I : Nat → Nat → Int32) (dr : Bool) (p l : Nat) (y : Nat → Int64) : Int64 :=
  if dr then (if -(y p) ≤ (I 12 l).toInt64 - y (70 + l) then -(y p) else (I 12 l).toInt64 - y (70 + l)) else (if y p ≤ y (70 + l) then y p else y (70 + l))
def csg (dr : Bool) (v : Int64) : Int64 := if dr then v else -v
def covS (I : Nat → Nat → Int32) (dr : Bool) (p l : Nat) (y : Nat → Int64) : Nat → Int64 := vp_updL (vp_updL y (70 + l) (y (70 + l) + csg dr (camt I dr p l y))) p (y p + csg dr (camt I dr p l y))
noncomputable def nextC (I : Nat → Nat → Int32) (Ln : Nat) (dr : Bool) (p : Nat) (y : Nat → Int64) : Option (Nat → Int64) := if y p = 0 then none else (nlF I Ln y p dr).map (fun l => covS I dr p l y)
noncomputable def covF (I : Nat → Nat → Int32) (Ln : Nat) (dr : Bool) (p : Nat) : Nat → (Nat → Int64) → Nat → Int64
  | 0, y => y
  | f + 1, y => match nextC I Ln dr p y with
    | none => y
    | some y' => covF I Ln dr p f y'
def covEnds (I : Nat → Nat → Int32) (Ln : Nat) (dr : Bool) (p : Nat) : Nat → (Nat → Int64) → Prop
  | 0, y => nextC I Ln dr p y = none
  | f + 1, y => ∀ y', nextC I Ln dr p y = some y' → covEnds I Ln dr p f y'
section M6
variable {ad nm : Nat → Nat} {n : Nat → Int32} {I : Nat → Nat → Int32} {J : Nat → Nat → Int64} {μ0 : jM} {z : Nat × Nat} {Ln : Nat}
theorem m_nextLine (h : mOk ad nm) (hL : n 1 = nI Ln) (hL6 : Ln ≤ 6) {x x2 : Int32} {p : Nat} {dr : Bool} (hx : x = nI p) (hx2 : x2 = bI1 dr) {Q : Int32 → jM → Prop} (q : Q (oI (nlF I Ln (J 1) p dr)) (mM ad nm n I J μ0)) : wX10_nextLine z (ad 0) x x2 (mM ad nm n I J μ0) Q := by
  unfold wX10_nextLine wX10_nextLine_0
  subst hx hx2
  simp only [Option.some.injEq, Value.int.injEq, Value.long.injEq, jrf_inj, jrf_ref, jrf_null, exists_eq_left, exists_eq_left', exists_eq_right, forall_eq, forall_eq', and_true, true_and, not_true_eq_false, not_false_eq_true, false_and, and_false, true_implies, implies_true, false_implies]
  have hlt := itr_lt (f := nlS I (J 1) p dr) (fun k o => nlS_or)
  refine jfor (fun f k o => wX10_nextLine_5 z (ad 0) Q f (nI p) (bI1 dr) (oI o) (nI k) (mM ad nm n I J μ0)) Ln (nlS I (J 1) p dr) none ?_ ?_
  · intro f k hk hw
    have hl := hlt k
    generalize itr (nlS I (J 1) p dr) k none = o at hw hl ⊢
    show wX10_nextLine_5_b z (ad 0) Q (wX10_nextLine_5 z (ad 0) Q f) (nI p) (bI1 dr) (oI o) (nI k) _
    unfold wX10_nextLine_5_b
    have e0 : nI k + 1 = nI (k + 1) := nI_1 k
    have e1 : (70 : Int32) + nI k = nI (70 + k) := nI_add 70 k
    have hk11 := mI (n := n) (I := I) (J := J) (μ0 := μ0) h (k := 11) (by omega) (by omega) (show k < mlen 11 by show k < 6; omega) rfl
    have hk12 := mI (n := n) (I := I) (J := J) (μ0 := μ0) h (k := 12) (by omega) (by omega) (show k < mlen 12 by show k < 6; omega) rfl
    have hk13 := mI (n := n) (I := I) (J := J) (μ0 := μ0) h (k := 13) (by omega) (by omega) (show k < mlen 13 by show k < 6; omega) rfl
    simp only [mg1 h, mg13 h, mg14 h, mg3 h, hk11, hk12, mJ h (k := 1) (Or.inl rfl) (show 70 + k < mlen 1 by show 70 + k < 109; omega) e1, Option.some.injEq, Value.int.injEq, Value.long.injEq, jrf_inj, jrf_ref, jrf_null, exists_eq_left, exists_eq_left', exists_eq_right, forall_eq, forall_eq', and_true, true_and, not_true_eq_false, not_false_eq_true, false_and, and_false, true_implies, implies_true, false_implies]
    -- not to be had
    have no : ∀ q : ¬ (I 11 k = nI p ∧ (if dr then J 1 (70 + k) < (I 12 k).toInt64 else 0 < J 1 (70 + k))), wX10_nextLine_73 z (ad 0) (wX10_nextLine_5 z (ad 0) Q f) Q (nI p) (bI1 dr) (oI o) (nI k) (mM ad nm n I J μ0) := by
      intro c
      unfold wX10_nextLine_73 wX10_nextLine_74
      rw [nlS_neg (fun y => c y.1)] at hw
      simp only [e0, Option.some.injEq, Value.int.injEq, Value.long.injEq, jrf_inj, jrf_ref, jrf_null, exists_eq_left, exists_eq_left', exists_eq_right, forall_eq, forall_eq', and_true, true_and, not_true_eq_false, not_false_eq_true, false_and, and_false, true_implies, implies_true, false_implies]
      exact hw
    have yes : ∀ q : (I 11 k = nI p ∧ (if dr then J 1 (70 + k) < (I 12 k).toInt64 else 0 < J 1 (70 + k))), wX10_nextLine_69 z (ad 0) (wX10_nextLine_5 z (ad 0) Q f) Q (nI p) (bI1 dr) (oI o) (nI k) (mM ad nm n I J μ0) := by
      intro c
      unfold wX10_nextLine_69 wX10_nextLine_74
      refine ⟨fun c2 => absurd c2 (by decide), fun _ => ⟨fun ho => ?_, fun ho => ?_⟩⟩
      · have ho := (oI_none (fun g hg => by have := hl g hg; omega)).mp ho
        rw [nlS_pos ⟨c, fun g hg => by rw [ho] at hg; cases hg⟩] at hw
        intro v hv
        rw [hv, e0]
        exact hw
      · cases o with
        | none => exact absurd rfl ho
        | some g =>
          have hg := hl g rfl
          have hg13 := mI (n := n) (I := I) (J := J) (μ0 := μ0) h (k := 13) (by omega) (by omega) (show g < mlen 13 by show g < 6; omega) rfl
          simp only [mg15 h, hk13, hg13, oI, e0, Option.some.injEq, Value.int.injEq, Value.long.injEq, jrf_inj, jrf_ref, jrf_null, exists_eq_left, exists_eq_left', exists_eq_right, forall_eq, forall_eq', and_true, true_and, not_true_eq_false, not_false_eq_true, false_and, and_false, true_implies, implies_true, false_implies]
          cases dr with
          | true =>
            refine ⟨fun d => absurd d (by decide), fun _ => ⟨fun d => ?_, fun d => ?_⟩⟩
            · rw [nlS_neg (I := I) (y := J 1) (p := p) (k := k) (dr := true) (fun y => absurd (show I 13 k < I 13 g from y.2 g rfl) (Int32.not_lt.mpr d))] at hw; exact hw
            · rw [nlS_pos ⟨c, fun g' hg' => by cases hg'; exact Int32.not_le.mp d⟩] at hw; exact hw
          | false =>
            refine ⟨fun _ => ⟨fun d => ?_, fun d => ?_⟩, fun d => absurd rfl d⟩
            · rw [nlS_neg (I := I) (y := J 1) (p := p) (k := k) (dr := false) (fun y => absurd (show I 13 g ≤ I 13 k from y.2 g rfl) (Int32.not_le.mpr d))] at hw; exact hw
            · rw [nlS_pos ⟨c, fun g' hg' => by cases hg'; exact Int32.not_lt.mp d⟩] at hw; exact hw
    refine ⟨fun c => absurd (hL ▸ c) (nI_ge hk (by omega)), fun _ => ⟨fun c => no (fun y => c y.1), fun c => ?_⟩⟩
    cases dr with
    | true => exact ⟨fun d => absurd d (by decide), fun _ => ⟨fun d => no (fun y => absurd y.2 (Int64.not_lt.mpr d)), fun d => yes ⟨c, Int64.not_le.mp d⟩⟩⟩
    | false => exact ⟨fun _ => ⟨fun d => no (fun y => absurd y.2 (Int64.not_lt.mpr d)), fun d => yes ⟨c, Int64.not_le.mp d⟩⟩, fun d => absurd rfl d⟩
  · show wX10_nextLine_5_b z (ad 0) Q (wX10_nextLine_5 z (ad 0) Q 0) (nI p) _ _ (nI Ln) _
    unfold wX10_nextLine_5_b
    simp only [mg1 h, Option.some.injEq, Value.int.injEq, Value.long.injEq, jrf_inj, jrf_ref, jrf_null, exists_eq_left, exists_eq_left', exists_eq_right, forall_eq, forall_eq', and_true, true_and, not_true_eq_false, not_false_eq_true, false_and, and_false, true_implies, implies_true, false_implies]
    exact ⟨fun _ => q, fun c => absurd (show n 1 ≤ nI Ln by rw [hL]; exact Int32.le_refl _) c⟩
theorem m_cover (h : mOk ad nm) (hL : n 1 = nI Ln) (hL6 : Ln ≤ 6) {x : Int32} {p : Nat} (hx : x = nI p) (hp : p < 10) (f : Nat) (he : covEnds I Ln (decide (J 1 p < 0)) p f (J 1)) {Q : Unit → jM → Prop}
    (q : Q () (mM ad nm n I (upR J 1 (covF I Ln (decide (J 1 p < 0)) p f (J 1))) μ0)) : wX10_cover z (ad 0) x (mM ad nm n I J μ0) Q := by
  unfold wX10_cover wX10_cover_0
  subst hx
  have e1 : (0 : Int32) + nI p = nI p := Int32.zero_add _
  have lp : p < mlen 1 := by show p < 109; omega
  simp only [mg3 h, mJ h (k := 1) (Or.inl rfl) lp e1, Option.some.injEq, Value.int.injEq, Value.long.injEq, jrf_inj, jrf_ref, jrf_null, exists_eq_left, exists_eq_left', exists_eq_right, forall_eq, forall_eq', and_true, true_and, not_true_eq_false, not_false_eq_true, false_and, and_false, true_implies, implies_true, false_implies]
  have loop : ∀ dr f y, covEnds I Ln dr p f y → Q () (mM ad nm n I (upR J 1 (covF I Ln dr p f y)) μ0) → ∃ c, wX10_cover_26 z (ad 0) Q c (nI p) (bI1 dr) (oI (nlF I Ln y p dr)) (mM ad nm n I (upR J 1 y) μ0) := by
    intro dr f
    have stop : ∀ y, nextC I Ln dr p y = none → Q () (mM ad nm n I (upR J 1 y) μ0) → ∃ c, wX10_cover_26 z (ad 0) Q c (nI p) (bI1 dr) (oI (nlF I Ln y p dr)) (mM ad nm n I (upR J 1 y) μ0) := by
      intro y hn q
      refine ⟨1, ?_⟩
      show wX10_cover_26_b z (ad 0) Q (wX10_cover_26 z (ad 0) Q 0) _ _ _ _
      unfold wX10_cover_26_b
      have hyJ := mJ (n := n) (I := I) (J := upR J 1 y) (μ0 := μ0) h (k := 1) (Or.inl rfl) lp e1
      rw [upR_same] at hyJ
      simp only [mg3 h, hyJ, Option.some.injEq, Value.int.injEq, Value.long.injEq, jrf_inj, jrf_ref, jrf_null, exists_eq_left, exists_eq_left', exists_eq_right, forall_eq, forall_eq', and_true, true_and, not_true_eq_false, not_false_eq_true, false_and, and_false, true_implies, implies_true, false_implies]
      refine ⟨fun _ => q, fun c => ⟨fun _ => q, fun d => ?_⟩⟩
      exfalso
      unfold nextC at hn
      rw [if_neg d] at hn
      cases hl : nlF I Ln y p dr with
      | none => rw [hl] at c; exact c rfl
      | some l => rw [hl] at hn; cases hn
    induction f with
    | zero => intro y he q; exact stop y he q
    | succ f ih =>
      intro y he q
      cases hn : nextC I Ln dr p y with
      | none =>
        unfold covF at q
        rw [hn] at q
        exact stop y hn q
      | some y' =>
        have he2 := he y' hn
        unfold covF at q
        rw [hn] at q
        obtain ⟨c, hw⟩ := ih y' he2 q
        unfold nextC at hn
        by_cases hy0 : y p = 0
        · rw [if_pos hy0] at hn; cases hn
        rw [if_neg hy0] at hn
        cases hl : nlF I Ln y p dr with
        | none => rw [hl] at hn; cases hn
        | some l =>
          rw [hl] at hn
          have hn : some (covS I dr p l y) = some y' := hn
          cases hn
          have hll := itr_lt (f := nlS I y p dr) (fun k o => nlS_or) Ln l hl
          refine ⟨c + 1, ?_⟩
          show wX10_cover_26_b z (ad 0) Q (wX10_cover_26 z (ad 0) Q c) _ _ _ _
          unfold wX10_cover_26_b
          have e2 : (70 : Int32) + nI l = nI (70 + l) := nI_add 70 l
          have ll : 70 + l < mlen 1 := by show 70 + l < 109; omega
          have hne : ¬ nI l = -1 := fun e => by have := nI_pos (n := l) (by omega); rw [e] at this; exact this (by decide)
          have hyJ := mJ (n := n) (I := I) (J := upR J 1 y) (μ0 := μ0) h (k := 1) (Or.inl rfl) lp e1
          have hyL := mJ (n := n) (I := I) (J := upR J 1 y) (μ0 := μ0) h (k := 1) (Or.inl rfl) ll e2
          have hl12 := mI (n := n) (I := I) (J := upR J 1 y) (μ0 := μ0) h (k := 12) (by omega) (by omega) (show l < mlen 12 by show l < 6; omega) rfl
          rw [upR_same] at hyJ hyL
          simp only [mg3 h, mg14 h, hyJ, hyL, hl12, oI, Option.some.injEq, Value.int.injEq, Value.long.injEq, jrf_inj, jrf_ref, jrf_null, exists_eq_left, exists_eq_left', exists_eq_right, forall_eq, forall_eq', and_true, true_and, not_true_eq_false, not_false_eq_true, false_and, and_false, true_implies, implies_true, false_implies]
          refine ⟨fun e => absurd e hne, fun _ => ⟨fun e => absurd e hy0, fun _ => ?_⟩⟩
          -- from the amount on
          have fin : ∀ v, v = camt I dr p l y → wX10_cover_120 z (ad 0) (wX10_cover_26 z (ad 0) Q c) Q (nI p) (bI1 dr) (nI l) v (mM ad nm n I (upR J 1 y) μ0) := by
            intro v hv
            unfold wX10_cover_120
            simp only [mg3 h, hyL, Option.some.injEq, Value.int.injEq, Value.long.injEq, jrf_inj, jrf_ref, jrf_null, exists_eq_left, exists_eq_left', exists_eq_right, forall_eq, forall_eq', and_true, true_and, not_true_eq_false, not_false_eq_true, false_and, and_false, true_implies, implies_true, false_implies]
            have hpl : p ≠ 70 + l := by omega
            have step : ∀ w, w = csg dr v → wX10_cover_144 z (ad 0) (wX10_cover_26 z (ad 0) Q c) Q (nI p) (bI1 dr) v (some (ad 1)) (70 + nI l) (y (70 + l)) w (mM ad nm n I (upR J 1 y) μ0) := by
              intro w hw2
              unfold wX10_cover_144
              have s1 := msJ (n := n) (I := I) (J := upR J 1 y) (μ0 := μ0) h (k := 1) (v := y (70 + l) + w) (Or.inl rfl) ll e2
              rw [upR_same, upR_up] at s1
              have r1 := mJ (n := n) (I := I) (J := upR J 1 (vp_updL y (70 + l) (y (70 + l) + w))) (μ0 := μ0) h (k := 1) (Or.inl rfl) lp e1
              rw [upR_same, pk_uLn hpl] at r1
              have s2 := fun u => msJ (n := n) (I := I) (J := upR J 1 (vp_updL y (70 + l) (y (70 + l) + w))) (μ0 := μ0) h (k := 1) (v := u) (Or.inl rfl) lp e1
              simp only [s1, mg3 h, r1, Option.some.injEq, Value.int.injEq, Value.long.injEq, jrf_inj, jrf_ref, jrf_null, exists_eq_left, exists_eq_left', exists_eq_right, forall_eq, forall_eq', and_true, true_and, not_true_eq_false, not_false_eq_true, false_and, and_false, true_implies, implies_true, false_implies]
              have last : ∀ u, u = csg dr v → wX10_cover_167 z (ad 0) (wX10_cover_26 z (ad 0) Q c) Q (nI p) (bI1 dr) (some (ad 1)) (0 + nI p) (y p) u (mM ad nm n I (upR J 1 (vp_updL y (70 + l) (y (70 + l) + w))) μ0) := by
                intro u hu
                unfold wX10_cover_167
                simp only [s2, upR_same, upR_up, Option.some.injEq, Value.int.injEq, Value.long.injEq, jrf_inj, jrf_ref, jrf_null, exists_eq_left, exists_eq_left', exists_eq_right, forall_eq, forall_eq', and_true, true_and, not_true_eq_false, not_false_eq_true, false_and, and_false, true_implies, implies_true, false_implies]
                refine ⟨mhere h, m_nextLine h hL hL6 rfl rfl ?_⟩
                rw [upR_same, hu, hw2, hv]
                exact hw
              refine ⟨fun d => last _ ?_, fun d => last _ ?_⟩
              · cases dr with
                | true => exact absurd d (by decide)
                | false => rfl
              · cases dr with
                | true => rfl
                | false => exact absurd rfl d
            refine ⟨fun d => step _ ?_, fun d => step _ ?_⟩
            · cases dr with
              | true => exact absurd d (by decide)
              | false => rfl
            · cases dr with
              | true => rfl
              | false => exact absurd rfl d
          refine ⟨fun d => ?_, fun d => ?_⟩
          · cases dr with
            | true => exact absurd d (by decide)
            | false =>
              unfold wX10_cover_77
              simp only [mg3 h, hyJ, Option.some.injEq, Value.int.injEq, Value.long.injEq, jrf_inj, jrf_ref, jrf_null, exists_eq_left, exists_eq_left', exists_eq_right, forall_eq, forall_eq', and_true, true_and, not_true_eq_false, not_false_eq_true, false_and, and_false, true_implies, implies_true, false_implies]
              refine ⟨fun _ => ?_, fun d => absurd rfl d⟩
              unfold wX10_cover_103
              refine ⟨fun e => fin _ ?_, fun e => fin _ ?_⟩
              · unfold camt; rw [if_neg (by decide), if_pos e]
              · unfold camt; rw [if_neg (by decide), if_neg e]
          · cases dr with
            | false => exact absurd rfl d
            | true =>
              unfold wX10_cover_77
              simp only [mg3 h, hyJ, Option.some.injEq, Value.int.injEq, Value.long.injEq, jrf_inj, jrf_ref, jrf_null, exists_eq_left, exists_eq_left', exists_eq_right, forall_eq, forall_eq', and_true, true_and, not_true_eq_false, not_false_eq_true, false_and, and_false, true_implies, implies_true, false_implies]
              refine ⟨fun d => absurd d (by decide), fun _ => ?_⟩
              unfold wX10_cover_103
              refine ⟨fun e => fin _ ?_, fun e => fin _ ?_⟩
              · unfold camt; rw [if_pos rfl, if_pos e]
              · unfold camt; rw [if_pos rfl, if_neg e]
  refine ⟨fun c => ?_, fun c => ?_⟩
  · unfold wX10_cover_18
    have hd : decide (J 1 p < 0) = false := decide_eq_false (Int64.not_lt.mpr c)
    rw [hd] at he q
    refine ⟨mhere h, m_nextLine (dr := false) h hL hL6 rfl rfl ?_⟩
    have := loop false f (J 1) he q
    rw [upR_id] at this
    exact this
  · unfold wX10_cover_18
    have hd : decide (J 1 p < 0) = true := decide_eq_true (Int64.not_le.mp c)
    rw [hd] at he q
    refine ⟨mhere h, m_nextLine (dr := true) h hL hL6 rfl rfl ?_⟩
    have := loop true f (J 1) he q
    rw [upR_id] at this
    exact this
end M6
