/-! ===== the law: settlement days; flows are scheduled ===== -/
section LH
variable {z : Nat × Nat} {q1 q4 q5 q7 : Nat} {R R' : jM} {A L F : Nat} {I : Nat → Nat → Int32} {y y' : Nat → Int64} {c d : Nat} {μ : jM} {T W : Nat → Int32} {S S' N : Nat → Int64}
theorem rm_n {a m : Nat} (ha : a < 2 ^ 31) (h0 : 0 < m) (hm : m < 2 ^ 31) {x : Int32} (e : x = nI a) : x - x / nI m * nI m = nI (a % m) := by rw [e, pk_rem ha h0 hm]
theorem dv_n {a m : Nat} (ha : a < 2 ^ 31) (h0 : 0 < m) (hm : m < 2 ^ 31) {x : Int32} (e : x = nI a) : x / nI m = nI (a / m) := by rw [e, pk_div ha h0 hm]
theorem stl_first : ∀ (n e x : Nat), stlF I n e = some x → ∀ t, e ≤ t → t < x → ¬ stF I t = true
  | 0, e, x, h => by cases h
  | n + 1, e, x, h => by
    intro t h1 h2
    unfold stlF at h
    by_cases c : stF I e = true
    · rw [if_pos c] at h
      cases h
      omega
    · rw [if_neg c] at h
      by_cases g : t = e
      · rw [g]; exact c
      · exact stl_first n (e + 1) x h t (by omega) h2
theorem l_d92 (h : pM z q1 R A L F I y μ) (v : pV A L F I y c d) {k a b : Nat} (hk : k < A) (ha : a < 2 ^ 31) (hb : b < 2 ^ 31) {Q : Int32 → jM → Prop} (q : ∀ μ', pM z q1 R A L F I y μ' → Q 1 μ') : wL_areDays_92 z Q (some q1) (nI k) (nI a) (nI b) 1 μ := by
  have dd := v_d v
  unfold wL_areDays_92
  refine p_today h v (fun μ2 h2 v4 e4 v5 e5 v6 e6 => ?_)
  have r30 : nI a - nI a / 30 * 30 = nI (a % 30) := rm_n (m := 30) ha (by omega) (by omega) rfl
  have r20 : nI b - nI b / 20 * 20 = nI (b % 20) := rm_n (m := 20) hb (by omega) (by omega) rfl
  have d30 : nI a / 30 = nI (a / 30) := dv_n (m := 30) ha (by omega) (by omega) rfl
  have a30 : a / 30 < 2 ^ 31 := by omega
  have s20 : nI (a / 30) - nI (a / 30) / 20 * 20 = nI (a / 30 % 20) := rm_n (m := 20) a30 (by omega) (by omega) rfl
  rw [r30, nI_add] at e4
  rw [r20, e4, nI_add] at e5
  rw [d30, s20, e5, nI_s, nI_add] at e6
  rw [e4, e5, e6]
  refine ⟨fun g => ⟨fun g0 => absurd g0 (by decide), fun _ => ?_⟩, fun _ => ⟨by decide, q _ h2⟩⟩
  have g : d + a % 30 + b % 20 + 1 + a / 30 % 20 ≤ 450 := (nI_le_iff (b := 450) (by omega) (by omega)).mp g
  refine p_scheduled h2 v hk rfl rfl rfl (by omega) (by omega) g (fun μ3 h3 => ?_)
  refine p_scheduled h3 v hk rfl rfl rfl (by omega) (by omega) (by omega) (fun μ4 h4 => ?_)
  refine p_scheduled h4 v hk rfl (nI_s _) rfl (by omega) (by omega) g (fun μ5 h5 => ?_)
  exact ⟨fun w => absurd (sc_cut (by omega) (by omega) (by omega)) w, fun _ => q _ h5⟩
theorem l_areDays (h : pM z q1 R A L F I y μ) (v : pV A L F I y c d) {k a b : Nat} {x1 x2 x3 : Int32} (hk : k < A) (ha : a < 2 ^ 31) (hb : b < 2 ^ 31) (e1 : x1 = nI k) (e2 : x2 = nI a) (e3 : x3 = nI b) {Q : Int32 → jM → Prop} (q : ∀ μ', pM z q1 R A L F I y μ' → Q 1 μ') : wL_areDays z (some q1) x1 x2 x3 μ Q := by
  subst e1 e2 e3
  unfold wL_areDays wL_areDays_0
  intro v1 e1
  have r451 : nI a - nI a / 451 * 451 = nI (a % 451) := rm_n (m := 451) ha (by omega) (by omega) rfl
  rw [r451] at e1
  subst e1
  have hu : a % 451 ≤ 450 := by omega
  generalize a % 451 = u at hu ⊢
  refine p_settlementDay h hu rfl (fun μ3 h3 => ?_)
  cases hs : stlF I (451 - u) u with
  | none =>
    refine ⟨fun g => absurd rfl g, fun _ => ?_⟩
    refine p_settlementDay h3 (i := 450) (by omega) rfl (fun μ4 h4 => ⟨fun g => absurd ?_ g, fun _ => l_d92 h4 v hk ha hb q⟩)
    have n450 : ¬ stF I 450 = true := stl_none _ _ hs 450 hu (by omega)
    show oI (stlF I (0 + 1) 450) = -1
    unfold stlF
    rw [if_neg n450]
    rfl
  | some w =>
    obtain ⟨w1, w2, w3⟩ := stl_some _ _ _ hs
    have fst := stl_first _ _ _ hs
    have self : ∀ t : Nat, t ≤ 450 → stF I t = true → oI (stlF I (451 - t) t) = nI t := fun t ht c => by
      rw [show 451 - t = (450 - t) + 1 by omega, stl_self c]
      rfl
    have g87 : ∀ μ', pM z q1 R A L F I y μ' → wL_areDays_87 z Q (some q1) (nI k) (nI a) (nI b) μ' := fun μ' h' => by
      unfold wL_areDays_87
      exact l_d92 h' v hk ha hb q
    show (¬ nI w = -1 → _) ∧ (nI w = -1 → _)
    refine ⟨fun _ => ⟨fun g => absurd g (nI_nlt w1 (by omega)), fun _ => ⟨fun g => ?_, fun _ => ?_⟩⟩, fun g => absurd g (n1_neg (by omega))⟩
    · unfold stF at w3
      rw [Bool.and_eq_true] at w3
      exact absurd g (of_decide_eq_true w3.1)
    · refine p_settlementDay h3 (i := w) (by omega) rfl (fun μ4 h4 => ?_)
      rw [self w (by omega) w3]
      refine ⟨fun g => absurd rfl g, fun _ => ⟨fun _ => g87 μ4 h4, fun g => ?_⟩⟩
      have ne : w ≠ u := fun e => g (congrArg nI e)
      have ew : nI w - 1 = nI (w - 1) := nI_sub2 (b := 1) (by omega)
      refine p_settlementDay h4 (i := w - 1) (by omega) ew (fun μ5 h5 => ?_)
      have e9 : oI (stlF I (451 - (w - 1)) (w - 1)) = nI w := by
        rw [stl_skip 1 (w - 1) w (by omega) (fun x a1 a2 => fst x (by omega) a2)]
        exact self w (by omega) w3
      rw [e9]
      exact ⟨fun g => absurd rfl g, fun _ => g87 μ5 h5⟩
/-! ## flows -/
theorem l_s94 {I' : Nat → Nat → Int32} (h : pM z q1 R A L (F + 1) I' y μ) (v : pV A L (F + 1) I' y (c + 1) d) (hc : c + 3 ≤ 512) {x3 x8 : Int32} (e8 : leftF I' y F = x8) {Q : Int32 → jM → Prop} (q : ∀ I'' c' μ', c' ≤ c + 3 → pM z q1 R A L (F + 1) I'' y μ' → pV A L (F + 1) I'' y c' d → (∀ r, r < 15 → I'' r = I' r) → Q 1 μ') : wL_schedules_94 z Q (some q1) x3 (nI F) x8 1 μ := by
  unfold wL_schedules_94
  refine ⟨fun g => absurd g (by decide), fun _ => ⟨fun _ => q _ _ μ (by omega) h v (fun _ _ => rfl), fun _ => ?_⟩⟩
  refine p_cancel h v (by omega) (i := F) (by omega) rfl (fun μ2 h2 v2 => ⟨fun g => absurd e8 g, fun _ => ?_⟩)
  have l0 : leftF (upR I' 19 (upd (I' 19) F (I' 19 F - leftF I' y F))) y F = 0 := by
    unfold leftF
    rw [upR_at, upd_at]
    generalize I' 19 F = a
    generalize (y (88 + F)).toInt32 = b
    grind
  refine p_timesLeft h2 (i := F) (by omega) rfl (fun μ3 h3 => ⟨fun g => absurd l0 g, fun _ => ?_⟩)
  refine p_cancel h3 v2 (by omega) (i := F) (by omega) rfl (fun μ4 h4 v4 => ⟨fun g => absurd l0 g, fun _ => ?_⟩)
  exact q _ _ μ4 (by omega) h4 v4 (fun r hr => (upR_o (by omega)).trans (upR_o (by omega)))
theorem l_s25 (h : pM z q1 R A L F I y μ) (v : pV A L F I y c d) (hc : c + 3 ≤ 512) (hF : F < 20) (hd : d + 19 ≤ 450) {i a b : Nat} (hi : i < A) (ha : a < 2 ^ 31) (hb : b < 2 ^ 31) {t0 : Int32} (ht : (-1000000 ≤ t0 ∧ t0 ≤ 1000000) ∧ ¬ t0 = 0) {Q : Int32 → jM → Prop} (q : ∀ I' c' μ', c' ≤ c + 3 → pM z q1 R A L (F + 1) I' y μ' → pV A L (F + 1) I' y c' d → (∀ r, r < 15 → I' r = I r) → Q 1 μ') : wL_schedules_25 z Q (some q1) (nI i) (nI a) (nI b) (nI F) t0 μ := by
  unfold wL_schedules_25
  refine p_today h v (fun μ2 h2 v4 e4 v5 e5 v6 e6 => ?_)
  have r20 : nI b - nI b / 20 * 20 = nI (b % 20) := rm_n (m := 20) hb (by omega) (by omega) rfl
  have d20 : nI b / 20 = nI (b / 20) := dv_n (m := 20) hb (by omega) (by omega) rfl
  have b20 : b / 20 < 2 ^ 31 := by omega
  have s30 : nI (b / 20) - nI (b / 20) / 30 * 30 = nI (b / 20 % 30) := rm_n (m := 30) b20 (by omega) (by omega) rfl
  have d7 : nI a / 7 = nI (a / 7) := dv_n (m := 7) ha (by omega) (by omega) rfl
  have a7 : a / 7 < 2 ^ 31 := by omega
  have u30 : nI (a / 7) - nI (a / 7) / 30 * 30 = nI (a / 7 % 30) := rm_n (m := 30) a7 (by omega) (by omega) rfl
  rw [r20, nI_add] at e4
  rw [d20, s30, show (1 : Int32) = nI 1 from rfl, nI_add] at e5
  rw [d7, u30, show (1 : Int32) = nI 1 from rfl, nI_add] at e6
  rw [e4, e5]
  refine p_schedule h2 v (by omega) hF hi rfl ⟨ht, ⟨nI_le (by omega) (by omega), nI_le (b := 450) (by omega) (by omega)⟩, ⟨nI_le (a := 1) (by omega) (by omega), nI_le (b := 100) (by omega) (by omega)⟩, by rw [e6]; exact ⟨nI_le (a := 1) (by omega) (by omega), nI_le (b := 30) (by omega) (by omega)⟩⟩ (fun μ3 h3 v3 => ⟨fun g => absurd rfl g, fun _ => ?_⟩)
  have lf : leftF (fsI I F (nI i) t0 (nI (d + b % 20)) (nI (1 + b / 20 % 30)) v6) y F = v6 := by
    obtain ⟨X, hv, -, -⟩ := v_st v
    unfold leftF
    rw [fsI_at.2.2.2.2, lV_flow hv hF]
    exact Int32.sub_zero v6
  refine p_timesLeft h3 (i := F) (by omega) rfl (fun μ4 h4 => ⟨fun g => absurd lf g, fun _ => ?_⟩)
  exact l_s94 h4 v3 hc lf (fun I'' c' μ' hc' h' v' hr => q I'' c' μ' (by omega) h' v' (fun r hr' => (hr r hr').trans (fsI_lo (Or.inl hr'))))
theorem am_pos {r : Nat} (h : r < 1000000) : (-1000000 ≤ (1 : Int32) + nI r ∧ (1 : Int32) + nI r ≤ 1000000) ∧ ¬ (1 : Int32) + nI r = 0 := by
  have e : (1 : Int32) + nI r = nI (1 + r) := nI_add 1 r
  have t : (nI (1 + r)).toInt = ((1 + r : Nat) : Int) := nI_toInt (by omega)
  have c1 : (-1000000 : Int32).toInt = -1000000 := by decide
  have c2 : (1000000 : Int32).toInt = 1000000 := by decide
  rw [e, Int32.le_iff_toInt_le, Int32.le_iff_toInt_le, t, c1, c2]
  exact ⟨by omega, nI_ne0 (by omega) (by omega)⟩
theorem am_neg {r : Nat} (h : r < 1000000) : (-1000000 ≤ (-1 : Int32) - nI r ∧ (-1 : Int32) - nI r ≤ 1000000) ∧ ¬ (-1 : Int32) - nI r = 0 := by
  have t : ((-1 : Int32) - nI r).toInt = -1 - (r : Int) := by
    have n : (nI r).toInt = (r : Int) := nI_toInt (by omega)
    have m : (-1 : Int32).toInt = -1 := by decide
    rw [Int32.toInt_sub, n, m]
    exact Int.bmod_eq_of_le (by omega) (by omega)
  have c1 : (-1000000 : Int32).toInt = -1000000 := by decide
  have c2 : (1000000 : Int32).toInt = 1000000 := by decide
  have c3 : (0 : Int32).toInt = 0 := by decide
  rw [Int32.le_iff_toInt_le, Int32.le_iff_toInt_le, t, c1, c2]
  refine ⟨by omega, fun e => ?_⟩
  rw [e, c3] at t
  omega
theorem l_schedules (h : pM z q1 R A L F I y μ) (v : pV A L F I y c d) (hc : c + 3 ≤ 512) (hF : F < 20) (hd : d + 19 ≤ 450) {i a b : Nat} {x1 x2 x3 x4 : Int32} (hi : i < A) (ha : a < 2 ^ 31) (hb : b < 2 ^ 31) (e1 : x1 = nI i) (e2 : x2 = nI a) (e3 : x3 = nI b) (e4 : x4 = nI F) {Q : Int32 → jM → Prop} (q : ∀ I' c' μ', c' ≤ c + 3 → pM z q1 R A L (F + 1) I' y μ' → pV A L (F + 1) I' y c' d → (∀ r, r < 15 → I' r = I r) → Q 1 μ') : wL_schedules z (some q1) x1 x2 x3 x4 μ Q := by
  subst e1 e2 e3 e4
  have d2 : nI a / 2 = nI (a / 2) := dv_n (m := 2) ha (by omega) (by omega) rfl
  have a2 : a / 2 < 2 ^ 31 := by omega
  have r : nI (a / 2) - nI (a / 2) / 1000000 * 1000000 = nI (a / 2 % 1000000) := rm_n (m := 1000000) a2 (by omega) (by omega) rfl
  have lt : a / 2 % 1000000 < 1000000 := Nat.mod_lt _ (by omega)
  unfold wL_schedules wL_schedules_0
  rw [d2, r]
  exact ⟨fun _ => l_s25 h v hc hF hd hi ha hb (am_neg lt) q, fun _ => l_s25 h v hc hF hd hi ha hb (am_pos lt) q⟩
end LH
