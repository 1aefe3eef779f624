/-! ===== days that pass one after another; the class's calls that let them pass ===== -/
/-- t days from day d on -/
noncomputable def dyF (I : Nat → Nat → Int32) (A L F d : Nat) (s : (Nat → Int64) × (Nat → Int64)) : Nat → (Nat → Int64) × (Nat → Int64)
  | 0 => s
  | t + 1 => passF I A L F 6 18 (d + t) (dyF I A L F d s t)
/-- f more days, t - 1 have passed: the first with a balance below 0 -/
noncomputable def shF (I : Nat → Nat → Int32) (A L F d : Nat) (s : (Nat → Int64) × (Nat → Int64)) (i : Nat) : Nat → Nat → Int32
  | 0, _ => -1
  | f + 1, t => if 0 ≤ (dyF I A L F d s t).1 i then shF I A L F d s i f (t + 1) else nI t
section DA
variable {z : Nat × Nat} {ad : Nat × Nat → Nat} {nm : Nat → Nat × Nat} {A L F : Nat} {I : Nat → Nat → Int32} {K : Nat → Nat → Int64} {k : Nat → Nat → Int32} {μ0 : jM} {y l : Nat → Int64} {X : Int} {c d : Nat}
theorem dy_st (hc : cfg A L F I) (hcc : c ≤ 512) (h : stD A L F I c d X y) : ∀ t, d + t ≤ 460 → (∃ X', X ≤ X' ∧ stD A L F I c (d + t) X' (dyF I A L F d (y, l) t).1) ∧ far y (dyF I A L F d (y, l) t).1 ∧ ∀ t', t' < t → stF I (d + t') = true → setlE I A L F 6 18 (d + t') (dyF I A L F d (y, l) t').1 := by
  intro t
  induction t with
  | zero => intro _; exact ⟨⟨X, Int.le_refl _, h⟩, far_refl, fun t' ht' => by omega⟩
  | succ t ih =>
    intro ht
    obtain ⟨⟨X1, h1, h2⟩, h3, h4⟩ := ih (by omega)
    obtain ⟨⟨X2, g1, g2⟩, g3, g4⟩ := pass_st (l := (dyF I A L F d (y, l) t).2) hc hcc (show d + t < 460 by omega) h2 (fun _ s => if s % 2 = 0 then (dyF I A L F d (y, l) t).1 (60 + s / 2) else 0) (fun p hp => by
      rw [if_pos (by omega), if_neg (by omega), Int64.sub_zero, show 2 * p / 2 = p by omega])
    refine ⟨⟨X2, by omega, g2⟩, far_tr h3 g4, fun t' ht' => ?_⟩
    by_cases e : t' = t
    · rw [e]; exact g3
    · exact h4 t' (by omega)
/-- scratch as a day leaves it -/
def dkO (A : Nat) (I : Nat → Nat → Int32) (y : Nat → Int64) (K K' : Nat → Nat → Int64) : Prop := (∀ a b, a ≠ 4 → a ≠ 5 → a < 100 ∨ 300 ≤ a → K' a b = K a b) ∧ ∀ p, cisp A I p → y (60 + p) = K' 4 (2 * p) - K' 4 (2 * p + 1)
theorem c_pass1 (h : cE ad nm A L F I) (hc : cfg A L F I) (hcc : c ≤ 512) (st : stD A L F I c d X y) {t : Nat} (ht : d + t < 460) {K0 : Nat → Nat → Int64} (hk : dkO A I (dyF I A L F d (y, l) t).1 K0 K) {Q : Unit → jM → Prop} (q : ∀ K', dkO A I (dyF I A L F d (y, l) (t + 1)).1 K0 K' → Q () (cM z ad nm A L F I (dyF I A L F d (y, l) (t + 1)).1 K' k μ0)) : wX3_passDay z (ad (1, 0)) (cM z ad nm A L F I (dyF I A L F d (y, l) t).1 K k μ0) Q := by
  obtain ⟨⟨X1, h1, h2⟩, h3, h4⟩ := dy_st (l := l) hc hcc st t (by omega)
  exact c_passDay (l := (dyF I A L F d (y, l) t).2) h hc hcc ht h2 hk.2 (fun K' k1 k2 => q K' ⟨fun a b e1 e2 e3 => (k1 a b e1 e2 e3).trans (hk.1 a b e1 e2 e3), k2⟩)
theorem i32_add_le {d t m : Nat} (hd : d + t < 2 ^ 31) (hm : m < 2 ^ 31) : nI d + nI t ≤ nI m ↔ d + t ≤ m := by
  rw [nI_add]
  exact nI_leI hd hm
theorem rg_of {x : Int32} (v : 1 ≤ x ∧ x ≤ 60) : ∃ t, 1 ≤ t ∧ t ≤ 60 ∧ x = nI t := by
  obtain ⟨t, ht, et⟩ := nI_of2 (M := 60) (n := 60) rfl (Int32.not_lt.mpr (Int32.le_trans (show (0 : Int32) ≤ 1 by decide) v.1)) v.2
  refine ⟨t, ?_, ht, et⟩
  by_cases e : t = 0
  · subst e
    subst et
    exact absurd v.1 (by decide)
  · omega
theorem c_passDays (h : cE ad nm A L F I) (hc : cfg A L F I) (hcc : c ≤ 512) (hd : d ≤ 400) (st : stD A L F I c d X y) (h60 : ∀ p, cisp A I p → y (60 + p) = K 4 (2 * p) - K 4 (2 * p + 1)) {x : Int32} {Q : Int32 → jM → Prop} {E : String → jM → Prop}
    (q : ∀ t, 1 ≤ t → t ≤ 60 → x = nI t → d + t ≤ 400 → ∀ K', dkO A I (dyF I A L F d (y, l) t).1 K K' → Q (nI (d + t)) (cM z ad nm A L F I (dyF I A L F d (y, l) t).1 K' k μ0)) (e : ¬ (1 ≤ x ∧ x ≤ 60) → E "java/lang/IllegalArgumentException" (cM z ad nm A L F I y K k μ0)) (e2 : ∀ t, 1 ≤ t → t ≤ 60 → x = nI t → ¬ d + t ≤ 400 → E "java/lang/IllegalStateException" (cM z ad nm A L F I y K k μ0)) : wX9_passDays z (ad (0, 0)) x (cM z ad nm A L F I y K k μ0) Q E := by
  unfold wX9_passDays wX9_passDays_0
  refine c_within (fun v => ?_) e
  obtain ⟨t, ht1, ht, et⟩ := rg_of v
  subst et
  have s4 : (y 108).toInt32 = nI d := by rw [st.2.2.2, lN_i]
  refine ⟨_, cg0_0 h.1, _, cg1_6 h.1, ?_⟩
  rw [s4]
  have g : nI d + nI t ≤ (400 : Int32) ↔ d + t ≤ 400 := i32_add_le (m := 400) (by omega) (by decide)
  refine ⟨fun w => ?_, fun w => e2 t ht1 ht rfl (fun u => w (g.mpr u))⟩
  have hdt := g.mp w
  intro v5 e5
  subst e5
  have all := jforE (fun n j (s : Nat → Nat → Int64) => wX9_passDays_34 z (ad (0, 0)) Q E n (nI t) (nI j) (cM z ad nm A L F I (dyF I A L F d (y, l) j).1 s k μ0)) t (fun j s => dkO A I (dyF I A L F d (y, l) j).1 K s) ?_ ?_ K ⟨fun _ _ _ _ _ => rfl, h60⟩
  · exact all
  · intro n j s hj hv hw
    show wX9_passDays_34_b z (ad (0, 0)) Q E (wX9_passDays_34 z (ad (0, 0)) Q E n) (nI t) (nI j) _
    unfold wX9_passDays_34_b
    refine ⟨fun w => absurd w (nI_ge hj (by omega)), fun _ => ⟨_, cg0_0 h.1, _, ⟨rfl, ch1 h.1⟩, c_pass1 h hc hcc st (by omega) hv (fun K' k1 => ?_)⟩⟩
    intro v7 e7
    rw [e7, nI_1]
    exact hw K' k1
  · intro s hv
    show wX9_passDays_34_b z (ad (0, 0)) Q E (wX9_passDays_34 z (ad (0, 0)) Q E 0) (nI t) (nI t) _
    unfold wX9_passDays_34_b
    refine ⟨fun _ => ⟨_, cg0_0 h.1, _, cg1_6 h.1, ?_⟩, fun w => absurd (Int32.le_refl _) w⟩
    obtain ⟨⟨X1, -, h2⟩, -⟩ := dy_st (l := l) hc hcc st t (by omega)
    rw [h2.2.2.2, lN_i]
    exact q t ht1 ht rfl hdt s hv
/-- what was kept is still kept -/
theorem kept_o {K0 : Nat → Nat → Int64} {K4 : Nat → Int64} (hk : Kept A L F I y K4 K0 k) (e : ∀ a b, a ≠ 4 → a ≠ 5 → a < 100 ∨ 300 ≤ a → K a b = K0 a b) : Kept A L F I y K4 K k := by
  obtain ⟨h1, h2, h3, h4, h5⟩ := hk
  exact ⟨kpA_o h1 (fun a b c => e a b (by omega) (by omega) (by omega)), kpP_o h2 (fun a b c => e a b (by omega) (by omega) (by omega)), kpL_o h3 (fun a b c => e a b (by omega) (by omega) (by omega)), h4, h5⟩
theorem c_back (h : cE ad nm A L F I) (hd : d < 2 ^ 31) (s4 : y 108 = lN d) (h60 : ∀ p, cisp A I p → y (60 + p) = K 4 (2 * p) - K 4 (2 * p + 1)) {K0 K1 : Nat → Nat → Int64} {k0 : Nat → Nat → Int32} {y1 : Nat → Int64} (hk : Kept A L F I y (K 4) K0 k0) (ho : ∀ a b, a ≠ 4 → a ≠ 5 → a < 100 ∨ 300 ≤ a → K1 a b = K0 a b) {Q : Unit → jM → Prop} (q : ∀ K', (∀ p, cisp A I p → y (60 + p) = K' 4 (2 * p) - K' 4 (2 * p + 1)) → Q () (cM z ad nm A L F I y K' k0 μ0)) : wX3_goBack z (ad (1, 0)) (cM z ad nm A L F I y1 K1 k0 μ0) Q := by
  refine c_goBack (y0 := y) h (kept_o hk ho) (by rw [s4, lN_i, nI_l hd]) (fun K' k1 _ => q K' (fun p hp => ?_))
  rw [k1 (2 * p) (by rw [show 2 * p / 2 = p by omega]; exact hp), k1 (2 * p + 1) (by rw [show (2 * p + 1) / 2 = p by omega]; exact hp)]
  exact h60 p hp
theorem c_forecast (h : cE ad nm A L F I) (hc : cfg A L F I) (hcc : c ≤ 512) (hd : d ≤ 400) (st : stD A L F I c d X y) (h60 : ∀ p, cisp A I p → y (60 + p) = K 4 (2 * p) - K 4 (2 * p + 1)) {x x2 : Int32} {Q : Int64 → jM → Prop} {E : String → jM → Prop}
    (q : ∀ i t, i < A → x = nI i → 1 ≤ t → t ≤ 60 → x2 = nI t → ∀ K' k', (∀ p, cisp A I p → y (60 + p) = K' 4 (2 * p) - K' 4 (2 * p + 1)) → Q ((dyF I A L F d (y, l) t).1 i) (cM z ad nm A L F I y K' k' μ0)) (e : ¬ (0 ≤ x ∧ x < nI A) → E "java/lang/IndexOutOfBoundsException" (cM z ad nm A L F I y K k μ0)) (e2 : 0 ≤ x ∧ x < nI A → ¬ (1 ≤ x2 ∧ x2 ≤ 60) → E "java/lang/IllegalArgumentException" (cM z ad nm A L F I y K k μ0)) : wX9_forecast z (ad (0, 0)) x x2 (cM z ad nm A L F I y K k μ0) Q E := by
  have hA := h.2.1
  unfold wX9_forecast wX9_forecast_0
  refine ⟨ch0 h.1, c_accountAt h (fun i hi ei => ?_) e⟩
  refine c_within (fun v => ?_) (fun v => e2 (by rw [ei]; exact ⟨nI_pos' (by omega), nI_lt hi (by omega)⟩) v)
  obtain ⟨t, ht1, ht, et⟩ := rg_of v
  subst et
  refine ⟨_, cg0_0 h.1, _, ⟨rfl, ch1 h.1⟩, c_keep h (fun K0 k0 k4 hk _ => ?_)⟩
  intro v9 e9
  subst e9
  refine jforE (fun n j (s : Nat → Nat → Int64) => wX9_forecast_23 z (ad (0, 0)) Q E n (nI t) (some (ad (7, i))) (nI j) (cM z ad nm A L F I (dyF I A L F d (y, l) j).1 s k0 μ0)) t (fun j s => dkO A I (dyF I A L F d (y, l) j).1 K0 s) ?_ ?_ K0 ⟨fun _ _ _ _ _ => rfl, fun p hp => by rw [k4]; exact h60 p hp⟩
  · intro n j s hj hv hw
    show wX9_forecast_23_b z (ad (0, 0)) Q E (wX9_forecast_23 z (ad (0, 0)) Q E n) (nI t) (some (ad (7, i))) (nI j) _
    unfold wX9_forecast_23_b
    refine ⟨fun w => absurd w (nI_ge hj (by omega)), fun _ => ⟨_, cg0_0 h.1, _, ⟨rfl, ch1 h.1⟩, c_pass1 h hc hcc st (by omega) hv (fun K' k1 => ?_)⟩⟩
    intro v7 e7
    rw [e7, nI_1]
    exact hw K' k1
  · intro s hv
    show wX9_forecast_23_b z (ad (0, 0)) Q E (wX9_forecast_23 z (ad (0, 0)) Q E 0) (nI t) (some (ad (7, i))) (nI t) _
    unfold wX9_forecast_23_b
    exact ⟨fun _ => ⟨_, cg7_8 h.1 hi, _, cg0_0 h.1, _, ⟨rfl, ch1 h.1⟩, c_back h (by omega) st.2.2.2 h60 hk hv.1 (fun K' k1 => q i t hi ei ht1 ht rfl K' k0 k1)⟩, fun w => absurd (Int32.le_refl _) w⟩
theorem c_byMoves (h : cE ad nm A L F I) (ht : tgOk A I) (hX0 : 0 ≤ X) (hX : X ≤ 900000000000) (hb : bR A L I X y) (hd : d < 2 ^ 31) (s4 : y 108 = lN d) (h60 : ∀ p, cisp A I p → y (60 + p) = K 4 (2 * p) - K 4 (2 * p + 1)) {x : Int32} {Q : Int64 → jM → Prop} {E : String → jM → Prop}
    (q : ∀ i, i < A → x = nI i → ∀ K' k', (∀ p, cisp A I p → y (60 + p) = K' 4 (2 * p) - K' 4 (2 * p + 1)) → Q (sweepF I A y i) (cM z ad nm A L F I y K' k' μ0)) (e : ¬ (0 ≤ x ∧ x < nI A) → E "java/lang/IndexOutOfBoundsException" (cM z ad nm A L F I y K k μ0)) : wX9_afterSweepByMoves z (ad (0, 0)) x (cM z ad nm A L F I y K k μ0) Q E := by
  have hA := h.2.1
  unfold wX9_afterSweepByMoves wX9_afterSweepByMoves_0
  refine ⟨ch0 h.1, c_accountAt h (fun i hi ei => ?_) e⟩
  refine ⟨_, cg0_0 h.1, _, ⟨rfl, ch1 h.1⟩, c_keep h (fun K0 k0 k4 hk _ => ⟨_, cg0_0 h.1, _, ⟨rfl, ch1 h.1⟩, c_sweepPools h ⟨_, cg7_8 h.1 hi, _, cg0_0 h.1, _, ⟨rfl, ch1 h.1⟩, c_back h hd s4 h60 hk (fun _ _ _ _ _ => rfl) (fun K' k1 => ?_)⟩⟩)⟩
  rw [sweep_eq h.2.2.2.2.1 h.2.2.2.2.2.2.1 hA, ← (sweep_bR h.2.2.2.2.1 ht hA h.2.2.1 hX0 hX hb).2]
  exact q i hi ei K' k0 k1
theorem c_daysToShort (h : cE ad nm A L F I) (hc : cfg A L F I) (hcc : c ≤ 512) (hd : d ≤ 400) (st : stD A L F I c d X y) (h60 : ∀ p, cisp A I p → y (60 + p) = K 4 (2 * p) - K 4 (2 * p + 1)) {x x2 : Int32} {Q : Int32 → jM → Prop} {E : String → jM → Prop}
    (q : ∀ i t, i < A → x = nI i → 1 ≤ t → t ≤ 60 → x2 = nI t → I 3 i = -1 → ∀ K' k', (∀ p, cisp A I p → y (60 + p) = K' 4 (2 * p) - K' 4 (2 * p + 1)) → Q (shF I A L F d (y, l) i t 1) (cM z ad nm A L F I y K' k' μ0)) (e : ¬ (0 ≤ x ∧ x < nI A) → E "java/lang/IndexOutOfBoundsException" (cM z ad nm A L F I y K k μ0)) (e2 : 0 ≤ x ∧ x < nI A → ¬ (1 ≤ x2 ∧ x2 ≤ 60) → E "java/lang/IllegalArgumentException" (cM z ad nm A L F I y K k μ0)) (e3 : ∀ i, i < A → x = nI i → (1 ≤ x2 ∧ x2 ≤ 60) → ¬ I 3 i = -1 → E "java/lang/IllegalStateException" (cM z ad nm A L F I y K k μ0)) : wX9_daysToShort z (ad (0, 0)) x x2 (cM z ad nm A L F I y K k μ0) Q E := by
  have hA := h.2.1
  unfold wX9_daysToShort wX9_daysToShort_0
  refine ⟨ch0 h.1, c_accountAt h (fun i hi ei => ?_) e⟩
  refine c_within (fun v => ?_) (fun v => e2 (by rw [ei]; exact ⟨nI_pos' (by omega), nI_lt hi (by omega)⟩) v)
  refine c_top h hi (fun tp => ?_) (fun tp => e3 i hi ei v tp)
  obtain ⟨T, ht1, ht, et⟩ := rg_of v
  subst et
  intro v7 e7
  subst e7
  refine ⟨_, cg0_0 h.1, _, ⟨rfl, ch1 h.1⟩, c_keep h (fun K0 k0 k4 hk _ => ?_)⟩
  intro v12 e12
  subst e12
  have q := fun K' => q i T hi ei ht1 ht rfl tp K' k0
  have all : ∀ f t s, t + f = T → dkO A I (dyF I A L F d (y, l) t).1 K0 s → (∀ K', (∀ p, cisp A I p → y (60 + p) = K' 4 (2 * p) - K' 4 (2 * p + 1)) → Q (shF I A L F d (y, l) i f (t + 1)) (cM z ad nm A L F I y K' k0 μ0)) → wX9_daysToShort_30 z (ad (0, 0)) Q E (f + 2) (nI T) (some (ad (7, i))) (-1) (nI (t + 1)) (cM z ad nm A L F I (dyF I A L F d (y, l) t).1 s k0 μ0) := by
    intro f
    induction f with
    | zero =>
      intro t s htf hv q
      show wX9_daysToShort_30_b z (ad (0, 0)) Q E (wX9_daysToShort_30 z (ad (0, 0)) Q E 1) _ _ _ _ _
      unfold wX9_daysToShort_30_b wX9_daysToShort_67
      refine ⟨fun w => absurd w (by decide), fun _ => ⟨fun _ => ⟨_, cg0_0 h.1, _, ⟨rfl, ch1 h.1⟩, c_back h (by omega) st.2.2.2 h60 hk hv.1 (fun K' k1 => q K' k1)⟩, fun w => absurd (nI_lt (show T < t + 1 by omega) (by omega)) w⟩⟩
    | succ f ih =>
      intro t s htf hv q
      have hle : ¬ nI T < nI (t + 1) := nI_nlt (by omega) (by omega)
      unfold shF at q
      by_cases g : 0 ≤ (dyF I A L F d (y, l) (t + 1)).1 i
      · show wX9_daysToShort_30_b z (ad (0, 0)) Q E (wX9_daysToShort_30 z (ad (0, 0)) Q E (f + 2)) _ _ _ _ _
        unfold wX9_daysToShort_30_b
        refine ⟨fun w => absurd w (by decide), fun _ => ⟨fun w => absurd w hle, fun _ => ⟨_, cg0_0 h.1, _, ⟨rfl, ch1 h.1⟩, c_pass1 h hc hcc st (by omega) hv (fun K' k1 => ⟨_, cg7_8 h.1 hi, fun _ => ?_, fun w => absurd g w⟩)⟩⟩⟩
        intro v6 e6
        rw [e6, nI_1]
        exact ih (t + 1) K' (by omega) k1 (fun K2 k2 => by
          have w := q K2 k2
          rw [if_pos g] at w
          exact w)
      · show wX9_daysToShort_30_b z (ad (0, 0)) Q E (wX9_daysToShort_30 z (ad (0, 0)) Q E (f + 2)) _ _ _ _ _
        unfold wX9_daysToShort_30_b
        refine ⟨fun w => absurd w (by decide), fun _ => ⟨fun w => absurd w hle, fun _ => ⟨_, cg0_0 h.1, _, ⟨rfl, ch1 h.1⟩, c_pass1 h hc hcc st (by omega) hv (fun K' k1 => ⟨_, cg7_8 h.1 hi, fun w => absurd w g, fun _ => ?_⟩)⟩⟩⟩
        intro v7 e7
        subst e7
        show wX9_daysToShort_30_b z (ad (0, 0)) Q E (wX9_daysToShort_30 z (ad (0, 0)) Q E (f + 1)) _ _ _ _ _
        unfold wX9_daysToShort_30_b wX9_daysToShort_67
        refine ⟨fun _ => ⟨_, cg0_0 h.1, _, ⟨rfl, ch1 h.1⟩, c_back h (by omega) st.2.2.2 h60 hk k1.1 (fun K2 k2 => ?_)⟩, fun w => absurd (nI_pos' (by omega)) w⟩
        have w := q K2 k2
        rw [if_neg g] at w
        exact w
  exact ⟨_, all T 0 K0 (by omega) ⟨fun _ _ _ _ _ => rfl, fun p hp => by rw [k4]; exact h60 p hp⟩ q⟩
end DA
