/-! ===== the reference's calls that let days pass ===== -/
section MD
variable {ad nm : Nat → Nat} {n : Nat → Int32} {I : Nat → Nat → Int32} {J : Nat → Nat → Int64} {μ0 : jM} {z : Nat × Nat} {A L F : Nat} {X : Int} {c d : Nat}
theorem ln_flOk (hn : cEn A L F I) : lnOk L I ∧ flOk F I := by
  obtain ⟨hA, -, -, -, -, -, hl, hf, -⟩ := hn
  exact ⟨fun k hk => ⟨pL I k, by have := (hl k hk).2.1; omega, (hl k hk).1⟩, fun k hk => ⟨fA I k, by have := (hf k hk).2; omega, (hf k hk).1⟩⟩
theorem m_pass1 (h : mOk ad nm) (hA : n 0 = nI A) (hL : n 1 = nI L) (hF : n 2 = nI F) (hc : cfg A L F I) (hcc : c ≤ 512) {y l : Nat → Int64} (st : stD A L F I c d X y) {t : Nat} (ht : d + t < 460) {Q : Unit → jM → Prop} (q : Q () (mM ad nm n I (uJ J (dyF I A L F d (y, l) (t + 1))) μ0)) : wX10_passDay z (ad 0) (mM ad nm n I (uJ J (dyF I A L F d (y, l) t)) μ0) Q := by
  obtain ⟨⟨X1, h1, h2⟩, -, h4⟩ := dy_st (l := l) hc hcc st (t + 1) (by omega)
  obtain ⟨⟨X2, g1, g2⟩, -⟩ := dy_st (l := l) hc hcc st t (by omega)
  have hn := hc.1
  refine m_passDay h hA hn.1 hn.2.2.2.1 hn.2.2.2.2.1 hL hn.2.1 (ln_flOk hn).1 hF hn.2.2.1 (ln_flOk hn).2 (d := d + t) ?_ ?_ 6 18 (h4 t (by omega)) q
  · by_cases g : d + t ≤ 450
    · exact Or.inl g
    · exact Or.inr ⟨by omega, hc.2.2.2.2 _ (by omega)⟩
  · rw [g2.2.2.2, nI_l (by omega)]
theorem m_passDays (h : mOk ad nm) (hA : n 0 = nI A) (hL : n 1 = nI L) (hF : n 2 = nI F) (hc : cfg A L F I) (hcc : c ≤ 512) (hd : d ≤ 400) (st : stD A L F I c d X (J 1)) {x : Int32} {Q : Int32 → jM → Prop}
    (q1 : ∀ t, 1 ≤ t → t ≤ 60 → x = nI t → d + t ≤ 400 → Q (nI (d + t)) (mM ad nm (upd n 3 0) I (uJ J (dyF I A L F d (J 1, J 21) t)) μ0)) (q0 : ¬ (1 ≤ x ∧ x ≤ 60) → Q 0 (mM ad nm (upd n 3 1) I J μ0)) (q2 : ∀ t, 1 ≤ t → t ≤ 60 → x = nI t → ¬ d + t ≤ 400 → Q 0 (mM ad nm (upd n 3 2) I J μ0)) : wX10_passDays z (ad 0) x (mM ad nm n I J μ0) Q := by
  unfold wX10_passDays wX10_passDays_0
  refine m_isIn ?_
  unfold wX10_passDays_37
  by_cases v : 1 ≤ x ∧ x ≤ 60
  · rw [if_pos v]
    obtain ⟨t, ht1, ht, et⟩ := rg_of v
    subst et
    refine ⟨fun _ => ?_, fun e => absurd e (by decide)⟩
    simp only [mg3 h, mJ h (k := 1) (Or.inl rfl) (show 108 < mlen 1 by decide) (show (108 : Int32) = nI 108 from rfl), Option.some.injEq, Value.int.injEq, Value.long.injEq, jrf_inj, jrf_ref, jrf_null, exists_eq_left, exists_eq_left', exists_eq_right, forall_eq, forall_eq', and_true, true_and, not_true_eq_false, not_false_eq_true, false_and, and_false, true_implies, implies_true, false_implies]
    rw [st.2.2.2, nI_l (show t < 2 ^ 31 by omega), lN_add]
    have g : lN (d + t) ≤ (400 : Int64) ↔ d + t ≤ 400 := lN_le (b := 400) (by omega) (by decide)
    refine ⟨fun w => ⟨ad 0, ⟨rfl, mhere h⟩, m_can h ⟨fun _ => ?_, fun e => absurd e (by decide)⟩⟩, fun w => ⟨ad 0, ⟨rfl, mhere h⟩, m_can h ⟨fun e => absurd rfl e, fun _ => q2 t ht1 ht rfl (fun u => w (g.mpr u))⟩⟩⟩
    have hdt := g.mp w
    have n0 : upd n 3 0 0 = nI A := by rw [upd3_0]; exact hA
    have n1 : upd n 3 0 1 = nI L := by rw [upd3_1]; exact hL
    have n2 : upd n 3 0 2 = nI F := by rw [upd3_2]; exact hF
    have all := jforE (σ := Unit) (fun f j _ => wX10_passDays_47 z (ad 0) Q f (nI t) (nI j) (mM ad nm (upd n 3 0) I (uJ J (dyF I A L F d (J 1, J 21) j)) μ0)) t (fun _ _ => True) ?_ ?_ () trivial
    · rw [show dyF I A L F d (J 1, J 21) 0 = (J 1, J 21) from rfl, uJ_id] at all
      exact all
    · intro f j _ hj _ hw
      show wX10_passDays_47_b z (ad 0) Q (wX10_passDays_47 z (ad 0) Q f) (nI t) (nI j) _
      unfold wX10_passDays_47_b
      refine ⟨fun w => absurd w (nI_ge hj (by omega)), fun _ => ⟨mhere h, m_pass1 h n0 n1 n2 hc hcc st (by omega) ?_⟩⟩
      intro v7 e7
      rw [e7, nI_1]
      exact hw () trivial
    · intro _ _
      show wX10_passDays_47_b z (ad 0) Q (wX10_passDays_47 z (ad 0) Q 0) (nI t) (nI t) _
      unfold wX10_passDays_47_b
      obtain ⟨⟨X1, -, h2⟩, -⟩ := dy_st (l := J 21) hc hcc st t (by omega)
      simp only [mg3 h, mJ h (k := 1) (Or.inl rfl) (show 108 < mlen 1 by decide) (show (108 : Int32) = nI 108 from rfl), uJ_1, Option.some.injEq, Value.int.injEq, Value.long.injEq, jrf_inj, jrf_ref, jrf_null, exists_eq_left, exists_eq_left', exists_eq_right, forall_eq, forall_eq', and_true, true_and, not_true_eq_false, not_false_eq_true, false_and, and_false, true_implies, implies_true, false_implies]
      rw [h2.2.2.2, lN_i]
      exact ⟨fun _ => q1 t ht1 ht rfl hdt, fun w => absurd (Int32.le_refl _) w⟩
  · rw [if_neg v]
    exact ⟨fun e => absurd rfl e, fun _ => ⟨ad 0, ⟨rfl, mhere h⟩, m_can h ⟨fun e => absurd rfl e, fun _ => q0 v⟩⟩⟩
/-- kept, days passed, and back -/
theorem m_back (h : mOk ad nm) (hc : cfg A L F I) (hcc : c ≤ 512) (st : stD A L F I c d X (J 1)) {t : Nat} (ht : d + t ≤ 460) {Q : Unit → jM → Prop} (q : ∀ o l', Q () (mM ad nm n I (upR (upR J 2 o) 21 l') μ0)) : wX10_goBack z (ad 0) (mM ad nm n I (uJ (upR J 2 (cpF (J 1) (J 2))) (dyF I A L F d (J 1, J 21) t)) μ0) Q := by
  obtain ⟨-, h3, -⟩ := dy_st (l := J 21) hc hcc st t ht
  refine m_goBack h ?_
  have e2 : uJ (upR J 2 (cpF (J 1) (J 2))) (dyF I A L F d (J 1, J 21) t) 2 = cpF (J 1) (J 2) := by simp [uJ, upR]
  rw [uJ_1, e2, cp_back h3]
  have w := q (cpF (J 1) (J 2)) (dyF I A L F d (J 1, J 21) t).2
  have e : upR (uJ (upR J 2 (cpF (J 1) (J 2))) (dyF I A L F d (J 1, J 21) t)) 1 (J 1) = upR (upR J 2 (cpF (J 1) (J 2))) 21 (dyF I A L F d (J 1, J 21) t).2 := by
    rw [uJ_u1]
    funext j
    unfold uJ upR
    by_cases h1 : j = 21
    · simp [h1]
    · by_cases h2 : j = 1
      · simp [h1, h2]
      · simp [h1, h2]
  rw [e]
  exact w
theorem m_forecast (h : mOk ad nm) (hA : n 0 = nI A) (hL : n 1 = nI L) (hF : n 2 = nI F) (hc : cfg A L F I) (hcc : c ≤ 512) (hd : d ≤ 400) (st : stD A L F I c d X (J 1)) {x x2 : Int32} {Q : Int64 → jM → Prop}
    (q0 : ∀ i t, i < A → x = nI i → 1 ≤ t → t ≤ 60 → x2 = nI t → ∀ o l', Q ((dyF I A L F d (J 1, J 21) t).1 i) (mM ad nm (upd n 3 0) I (upR (upR J 2 o) 21 l') μ0)) (q1 : ¬ (0 ≤ x ∧ x < n 0) → Q 0 (mM ad nm (upd n 3 1) I J μ0)) (q2 : 0 ≤ x ∧ x < n 0 → ¬ (1 ≤ x2 ∧ x2 ≤ 60) → Q 0 (mM ad nm (upd n 3 2) I J μ0)) : wX10_forecast z (ad 0) x x2 (mM ad nm n I J μ0) Q := by
  have hA10 := hc.1.1
  unfold wX10_forecast wX10_forecast_0
  refine ⟨mhere h, m_isAccount h ?_⟩
  unfold wX10_forecast_28
  by_cases v : 0 ≤ x ∧ x < n 0
  · rw [if_pos v]
    refine ⟨fun _ => m_isIn ?_, fun e => absurd e (by decide)⟩
    obtain ⟨i, hi, ei⟩ := ix_of hA (by omega) v
    by_cases w : 1 ≤ x2 ∧ x2 ≤ 60
    · rw [if_pos w]
      obtain ⟨t, ht1, ht, et⟩ := rg_of w
      subst et
      refine ⟨fun e => absurd e (by decide), fun _ => ⟨ad 0, ⟨rfl, mhere h⟩, m_can h ⟨fun _ => ⟨mhere h, m_keep h ?_⟩, fun e => absurd e (by decide)⟩⟩⟩
      intro v6 e6
      subst e6
      have n0 : upd n 3 0 0 = nI A := by rw [upd3_0]; exact hA
      have n1 : upd n 3 0 1 = nI L := by rw [upd3_1]; exact hL
      have n2 : upd n 3 0 2 = nI F := by rw [upd3_2]; exact hF
      have J1 : upR J 2 (cpF (J 1) (J 2)) 1 = J 1 := if_neg (by decide)
      have J21 : upR J 2 (cpF (J 1) (J 2)) 21 = J 21 := if_neg (by decide)
      have all := jforE (σ := Unit) (fun f j _ => wX10_forecast_42 z (ad 0) Q f x (nI t) (nI j) (mM ad nm (upd n 3 0) I (uJ (upR J 2 (cpF (J 1) (J 2))) (dyF I A L F d (J 1, J 21) j)) μ0)) t (fun _ _ => True) ?_ ?_ () trivial
      · have e0 : uJ (upR J 2 (cpF (J 1) (J 2))) (J 1, J 21) = upR J 2 (cpF (J 1) (J 2)) := by
          have := uJ_id (J := upR J 2 (cpF (J 1) (J 2)))
          rw [J1, J21] at this
          exact this
        rw [show dyF I A L F d (J 1, J 21) 0 = (J 1, J 21) from rfl, e0] at all
        exact all
      · intro f j _ hj _ hw
        show wX10_forecast_42_b z (ad 0) Q (wX10_forecast_42 z (ad 0) Q f) x (nI t) (nI j) _
        unfold wX10_forecast_42_b
        refine ⟨fun w => absurd w (nI_ge hj (by omega)), fun _ => ⟨mhere h, m_pass1 h n0 n1 n2 hc hcc st (by omega) ?_⟩⟩
        intro v7 e7
        rw [e7, nI_1]
        exact hw () trivial
      · intro _ _
        show wX10_forecast_42_b z (ad 0) Q (wX10_forecast_42 z (ad 0) Q 0) x (nI t) (nI t) _
        unfold wX10_forecast_42_b
        have e1 : (0 : Int32) + x = nI i := by rw [ei]; exact Int32.zero_add _
        simp only [mg3 h, mJ h (k := 1) (Or.inl rfl) (show i < mlen 1 by show i < 109; omega) e1, uJ_1, Option.some.injEq, Value.int.injEq, Value.long.injEq, jrf_inj, jrf_ref, jrf_null, exists_eq_left, exists_eq_left', exists_eq_right, forall_eq, forall_eq', and_true, true_and, not_true_eq_false, not_false_eq_true, false_and, and_false, true_implies, implies_true, false_implies]
        exact ⟨fun _ => ⟨mhere h, m_back h hc hcc st (by omega) (fun o l' => q0 i t hi ei ht1 ht rfl o l')⟩, fun w => absurd (Int32.le_refl _) w⟩
    · rw [if_neg w]
      exact ⟨fun _ => ⟨ad 0, ⟨rfl, mhere h⟩, m_can h ⟨fun e => absurd rfl e, fun _ => q2 v w⟩⟩, fun e => absurd rfl e⟩
  · rw [if_neg v]
    exact ⟨fun e => absurd rfl e, fun _ => ⟨ad 0, ⟨rfl, mhere h⟩, m_can h ⟨fun e => absurd rfl e, fun _ => q1 v⟩⟩⟩
theorem m_daysToShort (h : mOk ad nm) (hA : n 0 = nI A) (hL : n 1 = nI L) (hF : n 2 = nI F) (hc : cfg A L F I) (hcc : c ≤ 512) (hd : d ≤ 400) (st : stD A L F I c d X (J 1)) {x x2 : Int32} {Q : Int32 → jM → Prop}
    (q0 : ∀ i t, i < A → x = nI i → 1 ≤ t → t ≤ 60 → x2 = nI t → I 3 i = -1 → ∀ o l', Q (shF I A L F d (J 1, J 21) i t 1) (mM ad nm (upd n 3 0) I (upR (upR J 2 o) 21 l') μ0)) (q1 : ¬ (0 ≤ x ∧ x < n 0) → Q 0 (mM ad nm (upd n 3 1) I J μ0)) (q2 : 0 ≤ x ∧ x < n 0 → ¬ (1 ≤ x2 ∧ x2 ≤ 60) → Q 0 (mM ad nm (upd n 3 2) I J μ0)) (q3 : ∀ i, i < A → x = nI i → (1 ≤ x2 ∧ x2 ≤ 60) → ¬ I 3 i = -1 → Q 0 (mM ad nm (upd n 3 3) I J μ0)) : wX10_daysToShort z (ad 0) x x2 (mM ad nm n I J μ0) Q := by
  have hA10 := hc.1.1
  unfold wX10_daysToShort wX10_daysToShort_0
  refine ⟨mhere h, m_isAccount h ?_⟩
  unfold wX10_daysToShort_40
  by_cases v : 0 ≤ x ∧ x < n 0
  · rw [if_pos v]
    refine ⟨fun _ => m_isIn ?_, fun e => absurd e (by decide)⟩
    obtain ⟨i, hi, ei⟩ := ix_of hA (by omega) v
    by_cases w : 1 ≤ x2 ∧ x2 ≤ 60
    · rw [if_pos w]
      obtain ⟨T, ht1, ht, et⟩ := rg_of w
      subst et
      refine ⟨fun _ => ⟨mhere h, m_isTop h ei (by omega) ?_⟩, fun e => absurd e (by decide)⟩
      by_cases tp : I 3 i = -1
      · rw [if_pos tp]
        refine ⟨fun e => absurd e (by decide), fun _ => ⟨ad 0, ⟨rfl, mhere h⟩, m_can h ⟨fun _ => ⟨mhere h, m_keep h ?_⟩, fun e => absurd e (by decide)⟩⟩⟩
        intro v6 e6 v7 e7
        subst e6
        subst e7
        have n0 : upd n 3 0 0 = nI A := by rw [upd3_0]; exact hA
        have n1 : upd n 3 0 1 = nI L := by rw [upd3_1]; exact hL
        have n2 : upd n 3 0 2 = nI F := by rw [upd3_2]; exact hF
        have J1 : upR J 2 (cpF (J 1) (J 2)) 1 = J 1 := if_neg (by decide)
        have J21 : upR J 2 (cpF (J 1) (J 2)) 21 = J 21 := if_neg (by decide)
        have q := q0 i T hi ei ht1 ht rfl tp
        have all : ∀ f t, t + f = T → (∀ o l', Q (shF I A L F d (J 1, J 21) i f (t + 1)) (mM ad nm (upd n 3 0) I (upR (upR J 2 o) 21 l') μ0)) → wX10_daysToShort_57 z (ad 0) Q (f + 2) x (nI T) (-1) (nI (t + 1)) (mM ad nm (upd n 3 0) I (uJ (upR J 2 (cpF (J 1) (J 2))) (dyF I A L F d (J 1, J 21) t)) μ0) := by
          have e1 : (0 : Int32) + x = nI i := by rw [ei]; exact Int32.zero_add _
          intro f
          induction f with
          | zero =>
            intro t htf q
            show wX10_daysToShort_57_b z (ad 0) Q (wX10_daysToShort_57 z (ad 0) Q 1) _ _ _ _ _
            unfold wX10_daysToShort_57_b wX10_daysToShort_98
            exact ⟨fun _ => ⟨mhere h, m_back h hc hcc st (by omega) q⟩, fun w => absurd (nI_lt (show T < t + 1 by omega) (by omega)) w⟩
          | succ f ih =>
            intro t htf q
            have hle : ¬ nI T < nI (t + 1) := nI_nlt (by omega) (by omega)
            unfold shF at q
            show wX10_daysToShort_57_b z (ad 0) Q (wX10_daysToShort_57 z (ad 0) Q (f + 2)) _ _ _ _ _
            unfold wX10_daysToShort_57_b
            refine ⟨fun w => absurd w hle, fun _ => ⟨fun w => absurd rfl w, fun _ => ⟨mhere h, m_pass1 h n0 n1 n2 hc hcc st (by omega) ?_⟩⟩⟩
            simp only [mg3 h, mJ h (k := 1) (Or.inl rfl) (show i < mlen 1 by show i < 109; omega) e1, uJ_1, Option.some.injEq, Value.int.injEq, Value.long.injEq, jrf_inj, jrf_ref, jrf_null, exists_eq_left, exists_eq_left', exists_eq_right, forall_eq, forall_eq', and_true, true_and, not_true_eq_false, not_false_eq_true, false_and, and_false, true_implies, implies_true, false_implies]
            refine ⟨fun g => ?_, fun g => ?_⟩
            · rw [nI_1]
              refine ih (t + 1) (by omega) (fun o l' => ?_)
              have w := q o l'
              rw [if_pos g] at w
              exact w
            · rw [nI_1]
              show wX10_daysToShort_57_b z (ad 0) Q (wX10_daysToShort_57 z (ad 0) Q (f + 1)) _ _ _ _ _
              unfold wX10_daysToShort_57_b wX10_daysToShort_98
              have qn : ∀ o l', Q (nI (t + 1)) (mM ad nm (upd n 3 0) I (upR (upR J 2 o) 21 l') μ0) := fun o l' => by
                have w := q o l'
                rw [if_neg g] at w
                exact w
              refine ⟨fun _ => ⟨mhere h, m_back h hc hcc st (by omega) qn⟩, fun _ => ⟨fun _ => ⟨mhere h, m_back h hc hcc st (by omega) qn⟩, fun w => ?_⟩⟩
              have p := nI_pos' (n := t + 1) (by omega)
              rw [w] at p
              exact absurd p (by decide)
        have a := all T 0 (by omega) q
        have e0 : uJ (upR J 2 (cpF (J 1) (J 2))) (J 1, J 21) = upR J 2 (cpF (J 1) (J 2)) := by
          have := uJ_id (J := upR J 2 (cpF (J 1) (J 2)))
          rw [J1, J21] at this
          exact this
        rw [show dyF I A L F d (J 1, J 21) 0 = (J 1, J 21) from rfl, e0] at a
        exact ⟨_, a⟩
      · rw [if_neg tp]
        exact ⟨fun _ => ⟨ad 0, ⟨rfl, mhere h⟩, m_can h ⟨fun e => absurd rfl e, fun _ => q3 i hi ei w tp⟩⟩, fun e => absurd rfl e⟩
    · rw [if_neg w]
      exact ⟨fun e => absurd rfl e, fun _ => ⟨ad 0, ⟨rfl, mhere h⟩, m_can h ⟨fun e => absurd rfl e, fun _ => q2 v w⟩⟩⟩
  · rw [if_neg v]
    exact ⟨fun e => absurd rfl e, fun _ => ⟨ad 0, ⟨rfl, mhere h⟩, m_can h ⟨fun e => absurd rfl e, fun _ => q1 v⟩⟩⟩
end MD
