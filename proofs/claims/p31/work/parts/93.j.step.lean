/-! ===== the law: a step ===== -/
/-- a desk with its picture -/
def dS (z : Nat × Nat) (q1 q4 q5 F c n : Nat) (μ : jM) : Prop := ∃ R A L I y c' d T W, pM z q1 R A L F I y μ ∧ (q4 ≠ z.1 ∧ q5 ≠ z.1 ∧ q4 ≠ q5) ∧ R q4 = some (tE T) ∧ R q5 = some (wE W) ∧ tOk A L I T ∧ wOk I W ∧ pV A L F I y c' d ∧ c' ≤ c ∧ n ≤ A
section LJ
variable {z : Nat × Nat} {q1 q4 q5 q7 : Nat} {R R' : jM} {A L F : Nat} {I I' : Nat → Nat → Int32} {y y' : Nat → Int64} {c d : Nat} {μ : jM} {T W : Nat → Int32} {S S' N : Nat → Int64}
def wd : Nat → Nat
  | 0 => 0
  | n + 1 => wd n + if n % 7 < 5 then 1 else 0
theorem wd_eq : ∀ n, wd n = 5 * (n / 7) + (if n % 7 < 5 then n % 7 else 5)
  | 0 => rfl
  | n + 1 => by
    have ih := wd_eq n
    show wd n + (if n % 7 < 5 then 1 else 0) = _
    rw [ih]
    by_cases c : n % 7 < 5
    · rw [if_pos c, if_pos c]
      by_cases c2 : (n + 1) % 7 < 5
      · rw [if_pos c2]; omega
      · rw [if_neg c2]; omega
    · rw [if_neg c, if_neg c]
      by_cases c2 : (n + 1) % 7 < 5
      · rw [if_pos c2]; omega
      · rw [if_neg c2]; omega
theorem hc_le : ∀ n, n ≤ 1000 → ∃ m, itr (hcS I) n 0 = nI m ∧ m ≤ wd n
  | 0, _ => ⟨0, rfl, Nat.le_refl 0⟩
  | n + 1, h => by
    obtain ⟨m, e, l⟩ := hc_le n (by omega)
    show ∃ m, itr (hcS I) n 0 + bI1 (stF I n) = nI m ∧ m ≤ wd n + if n % 7 < 5 then 1 else 0
    rw [e]
    cases c : stF I n with
    | false => exact ⟨m, Int32.add_zero _, by omega⟩
    | true =>
      refine ⟨m + 1, nI_s m, ?_⟩
      unfold stF at c
      rw [Bool.and_eq_true] at c
      have g := of_decide_eq_true c.1
      rw [show nI n - nI n / 7 * 7 = nI (n % 7) from rm_n (m := 7) (by omega) (by omega) (by omega) rfl] at g
      rw [if_pos (Nat.lt_of_not_le (fun w => g (nI_le (a := 5) w (by omega))))]
      omega
theorem hcF_le : ¬ hcF I < 0 ∧ ¬ 323 < hcF I := by
  obtain ⟨m, e, l⟩ := hc_le (I := I) 451 (by omega)
  have w : wd 451 = 323 := wd_eq 451
  have e : hcF I = nI m := e
  rw [e]
  exact ⟨nI_pos (by omega), nI_nlt (b := m) (a := 323) (by omega) (by omega)⟩
theorem up_up (a : Nat) (f : Nat → Int32) (v : Int32) : upd (upd f a v) a v = upd f a v := by
  funext j
  by_cases e : j = a
  · rw [e, upd_at, upd_at]
  · rw [upd_no e]
theorem l_s182 (h : pM z q1 R A L F I y μ) (v : pV A L F I y c d) (hc : c + 2 ≤ 512) {b : Nat} (hb : b < 2 ^ 31) {Q : Int32 → jM → Prop} (q : ∀ I' c' μ', c' ≤ c + 2 → pM z q1 R A L F I' y μ' → pV A L F I' y c' d → (∀ r, r ≠ 20 → I' r = I r) → Q 1 μ') : wL_step_182 z Q (some q1) (nI b) μ := by
  unfold wL_step_182
  intro v1 e1
  rw [show nI b - nI b / 451 * 451 = nI (b % 451) from rm_n (m := 451) hb (by omega) (by omega) rfl] at e1
  subst e1
  have hu : b % 451 ≤ 450 := by omega
  generalize b % 451 = u at hu ⊢
  obtain ⟨c1, c2⟩ := hcF_le (I := upR I 20 (upd (I 20) u 1))
  refine p_addHoliday h v (by omega) hu rfl (fun μ2 h2 v2 => ⟨fun g => absurd g c1, fun _ => ⟨fun g => absurd g c2, fun _ => ?_⟩⟩)
  have ns : ¬ stF (upR I 20 (upd (I 20) u 1)) u = true := fun g => by
    unfold stF at g
    rw [Bool.and_eq_true] at g
    have := of_decide_eq_true g.2
    rw [upR_at, upd_at] at this
    exact absurd this (by decide)
  refine p_settlementDay h2 hu rfl (fun μ3 h3 => ⟨fun g => ?_, fun _ => ?_⟩)
  · exfalso
    rcases oI_stl (I := upR I 20 (upd (I 20) u 1)) (e := u) with w | ⟨w, w1, w2, w3, w4, w5⟩
    · rw [w] at g
      exact n1_neg (by omega) g.symm
    · rw [w2] at g
      rw [(nI_eq (by omega) (by omega)).mp g] at w5
      exact ns w5
  · have ei : upR (upR I 20 (upd (I 20) u 1)) 20 (upd (upR I 20 (upd (I 20) u 1) 20) u 1) = upR I 20 (upd (I 20) u 1) := by rw [upR_at, up_up, upR_tw]
    refine p_addHoliday h3 v2 (by omega) hu rfl (fun μ4 h4 v4 => ⟨fun g => absurd (by rw [ei]) g, fun _ => ?_⟩)
    exact q _ _ μ4 (by omega) h4 v4 (fun r hr => (upR_o hr).trans (upR_o hr))
theorem l_s259 (h : pM z q1 R A L F I y μ) (v : pV A L F I y c d) (hc : c < 512) {i : Nat} (hi : i < A) {t0 : Int32} (ht : (-1000000 ≤ t0 ∧ t0 ≤ 1000000) ∧ ¬ t0 = 0) {Q : Int32 → jM → Prop} (q : ∀ y' μ', pM z q1 R A L F I y' μ' → pV A L F I y' (c + 1) d → Q 1 μ') : wL_step_259 z Q (some q1) (nI i) t0 μ := by
  unfold wL_step_259
  refine p_balance h hi rfl (fun μ2 h2 v4 e4 => ?_)
  subst e4
  refine p_book h2 v hc hi rfl ht (fun μ3 h3 v3 => ⟨fun g => absurd rfl g, fun _ => ?_⟩)
  refine p_balance h3 hi rfl (fun μ4 h4 => ?_)
  rw [pk_uLs]
  exact ⟨fun g => absurd rfl g, fun _ => q _ μ4 h4 v3⟩
theorem l_s238 (h : pM z q1 R A L F I y μ) (v : pV A L F I y c d) (hc : c < 512) {i a b : Nat} (hi : i < A) (ha : a < 2 ^ 31) {Q : Int32 → jM → Prop} (q : ∀ y' μ', pM z q1 R A L F I y' μ' → pV A L F I y' (c + 1) d → Q 1 μ') : wL_step_238 z Q (some q1) (nI a) (nI b) (nI i) μ := by
  have r1 : nI a - nI a / 800000 * 800000 = nI (a % 800000) := rm_n (m := 800000) ha (by omega) (by omega) rfl
  have r2 : nI a - nI a / 1000000 * 1000000 = nI (a % 1000000) := rm_n (m := 1000000) ha (by omega) (by omega) rfl
  have l1 : a % 800000 < 800000 := Nat.mod_lt _ (by omega)
  have l2 : a % 1000000 < 1000000 := Nat.mod_lt _ (by omega)
  unfold wL_step_238
  rw [r1, r2]
  exact ⟨fun _ => l_s259 h v hc hi (am_neg (by omega)) q, fun _ => l_s259 h v hc hi (am_pos (by omega)) q⟩
theorem l_s159 (h : pM z q1 R A L F I y μ) (v : pV A L F I y c d) (hc : c < 512) (h5z : q5 ≠ z.1) (hW : R q5 = some (wE W)) (wk : wOk I W) {u : Nat} (hu : u < 4) {t2 : Int32} (ht : -1 ≤ t2 ∧ t2 ≤ 1000000000) (h2 : t2 = -1 ∨ 0 ≤ t2.toInt) {Q : Int32 → jM → Prop} (q : ∀ R' I' W' μ', pM z q1 R' A L F I' y μ' → R' q5 = some (wE W') → (∀ b, b ≠ q5 → R' b = R b) → wOk I' W' → (∀ r, r ≠ 14 → I' r = I r) → pV A L F I' y (c + 1) d → Q 1 μ') : wL_step_159 z Q (some q1) (some q5) (nI u) (I 14 u) (some q5) (nI u) t2 μ := by
  unfold wL_step_159
  refine p_wrI h hW h5z hu (by omega) rfl (fun μ1 h1 => ?_)
  refine ⟨_, p_rd h1 va_up_at hu (by omega) rfl, ?_⟩
  rw [upd_at]
  refine p_setBankLimit h1 v hc hu rfl ht (fun μ2 g2 v2 => ⟨fun g => absurd rfl g, fun _ => ?_⟩)
  refine q _ _ _ μ2 g2 va_up_at (fun b hb => va_up_no hb) (fun b hb => ?_) (fun r hr => upR_o hr) v2
  rw [upR_at]
  by_cases e : b = u
  · rw [e, upd_at, upd_at]
    exact ⟨rfl, h2⟩
  · rw [upd_no e, upd_no e]
    exact wk b hb
theorem l_s129 (h : pM z q1 R A L F I y μ) (v : pV A L F I y c d) (hc : c < 512) (h5z : q5 ≠ z.1) (hW : R q5 = some (wE W)) (wk : wOk I W) {a b : Nat} (ha : a < 2 ^ 31) (hb : b < 2 ^ 31) {Q : Int32 → jM → Prop} (q : ∀ R' I' W' μ', pM z q1 R' A L F I' y μ' → R' q5 = some (wE W') → (∀ b, b ≠ q5 → R' b = R b) → wOk I' W' → (∀ r, r ≠ 14 → I' r = I r) → pV A L F I' y (c + 1) d → Q 1 μ') : wL_step_129 z Q (some q1) (nI a) (nI b) (some q5) μ := by
  unfold wL_step_129
  intro v1 e1
  rw [show nI a - nI a / 4 * 4 = nI (a % 4) from rm_n (m := 4) ha (by omega) (by omega) rfl] at e1
  subst e1
  have hu : a % 4 < 4 := Nat.mod_lt _ (by omega)
  generalize a % 4 = u at hu ⊢
  have r1 : nI b - nI b / 2000000 * 2000000 = nI (b % 2000000) := rm_n (m := 2000000) hb (by omega) (by omega) rfl
  have l1 : b % 2000000 < 2000000 := Nat.mod_lt _ (by omega)
  refine ⟨_, p_rd h hW hu (by omega) rfl, ?_⟩
  rw [(wk u hu).1, r1]
  refine ⟨fun _ => l_s159 h v hc h5z hW wk hu ⟨?_, nI_le (b := 1000000000) (by omega) (by omega)⟩ (Or.inr (by rw [nI_toInt (by omega)]; omega)) q, fun _ => l_s159 h v hc h5z hW wk hu ⟨by decide, by decide⟩ (Or.inl rfl) q⟩
  have c1 : (-1 : Int32).toInt = -1 := by decide
  rw [Int32.le_iff_toInt_le, nI_toInt (by omega), c1]
  omega
theorem l_step (h : dS z q1 q4 q5 F c 0 μ) (hc : c + 2 ≤ 512) {a b : Nat} {x1 x2 x3 : Int32} (ha : a < 2 ^ 31) (hb : b < 2 ^ 31) (e2 : x2 = nI a) (e3 : x3 = nI b) {Q : Int32 → jM → Prop} (q : ∀ μ', dS z q1 q4 q5 F (c + 2) 1 μ' → Q 1 μ') : wL_step z (some q1) x1 x2 x3 (some q4) (some q5) μ Q := by
  subst e2 e3
  obtain ⟨R, A, L, I, y, c', d, T, W, hm, ⟨n4, n5, n45⟩, hT, hW, tk, wk, v, cc, -⟩ := h
  have hn := p_cE hm
  have hA := hn.1
  have s12 : wL_step_12 z Q (some q1) (nI a) (nI b) (some q4) μ := by
    unfold wL_step_12
    refine ⟨_, p_rd hm hT (j := 0) (by omega) (by omega) pk0, ?_⟩
    rw [tk.1]
    refine ⟨fun g => ?_, fun g => ?_⟩
    · have e : A = 10 := (nI_eq (b := 10) (by omega) (by omega)).mp g
      exact q μ ⟨R, A, L, I, y, c', d, T, W, hm, ⟨n4, n5, n45⟩, hT, hW, tk, wk, v, by omega, by omega⟩
    · have e : A ≠ 10 := fun e => g (by rw [e]; rfl)
      refine l_makes hm v (by omega) (by omega) n4 hT tk ha hb (fun R' I' T' μ' h' t' o' tk' i14 v' => ?_)
      refine ⟨_, p_rd h' t' (j := 0) (by omega) (by omega) pk0, ?_⟩
      rw [tk'.1, nI_pred]
      exact ⟨fun g => absurd rfl g, fun _ => q μ' ⟨R', A + 1, L, I', y, _, d, T', W, h', ⟨n4, n5, n45⟩, t', (o' q5 (fun g => n45 g.symm)).trans hW, tk', wOk_c i14 wk, v', by omega, by omega⟩⟩
  unfold wL_step wL_step_0
  refine ⟨_, p_rd hm hT (j := 0) (by omega) (by omega) pk0, ?_⟩
  rw [tk.1]
  refine ⟨fun _ => s12, fun g => ?_⟩
  have a0 : 0 < A := Nat.pos_of_ne_zero (fun e => g (by rw [e]; rfl))
  refine ⟨fun _ => ⟨_, p_rd hm hT (j := 0) (by omega) (by omega) pk0, ?_⟩, fun _ => s12⟩
  rw [tk.1]
  refine ⟨g, fun v4 e4 => ?_⟩
  rw [pk_rem ha a0 (by omega)] at e4
  subst e4
  have hi : a % A < A := Nat.mod_lt _ a0
  generalize a % A = i at hi ⊢
  have a10 : a / 10 < 2 ^ 31 := by omega
  have s104 : wL_step_104 z Q (some q1) (nI a) (nI b) (some q4) (nI i) μ := by
    unfold wL_step_104
    rw [show nI a / 10 = nI (a / 10) from dv_n (m := 10) ha (by omega) (by omega) rfl]
    exact l_sets hm v (by omega) n4 hT tk hi hb a10 (fun R' I' T' μ' h' t' o' tk' i14 v' => ⟨by decide, q μ' ⟨R', A, L, I', y, _, d, T', W, h', ⟨n4, n5, n45⟩, t', (o' q5 (fun g => n45 g.symm)).trans hW, tk', wOk_c i14 wk, v', by omega, a0⟩⟩)
  have s118 : wL_step_118 z Q (some q1) (nI a) (nI b) (some q4) (nI i) μ := by
    unfold wL_step_118
    exact l_borrows hm v (by omega) n4 hT tk hi ha hb ⟨by decide, q μ ⟨R, A, L, I, y, c', d, T, W, hm, ⟨n4, n5, n45⟩, hT, hW, tk, wk, v, by omega, a0⟩⟩ (fun R' I' T' μ' h' t' o' tk' i14 v' => ⟨by decide, q μ' ⟨R', A, L + 1, I', y, _, d, T', W, h', ⟨n4, n5, n45⟩, t', (o' q5 (fun g => n45 g.symm)).trans hW, tk', wOk_c i14 wk, v', by omega, a0⟩⟩)
  have s129 : wL_step_129 z Q (some q1) (nI a) (nI b) (some q5) μ :=
    l_s129 hm v (by omega) n5 hW wk ha hb (fun R' I' W' μ' h' w' o' wk' ir v' => q μ' ⟨R', A, L, I', y, _, d, T, W', h', ⟨n4, n5, n45⟩, (o' q4 n45).trans hT, w', tOk_c (ir 3 (by decide)) (ir 5 (by decide)) (ir 6 (by decide)) (ir 7 (by decide)) (ir 8 (by decide)) (ir 11 (by decide)) (ir 12 (by decide)) tk, wk', v', by omega, a0⟩)
  have s182 : wL_step_182 z Q (some q1) (nI b) μ :=
    l_s182 hm v (by omega) hb (fun I' c'' μ' hc'' h' v' ir => q μ' ⟨R, A, L, I', y, c'', d, T, W, h', ⟨n4, n5, n45⟩, hT, hW, tOk_c (ir 3 (by decide)) (ir 5 (by decide)) (ir 6 (by decide)) (ir 7 (by decide)) (ir 8 (by decide)) (ir 11 (by decide)) (ir 12 (by decide)) tk, wOk_c (ir 14 (by decide)) wk, v', by omega, a0⟩)
  have s238 : wL_step_238 z Q (some q1) (nI a) (nI b) (nI i) μ :=
    l_s238 hm v (by omega) hi ha (fun y' μ' h' v' => q μ' ⟨R, A, L, I, y', _, d, T, W, h', ⟨n4, n5, n45⟩, hT, hW, tk, wk, v', by omega, a0⟩)
  have s305 : wL_step_305 z Q (some q1) (nI b) (some q4) (nI i) μ := by
    unfold wL_step_305
    have r60 : nI b - nI b / 60 * 60 = nI (b % 60) := rm_n (m := 60) hb (by omega) (by omega) rfl
    have l60 : b % 60 < 60 := Nat.mod_lt _ (by omega)
    rw [r60]
    refine l_topA hm hT tk hi rfl ?_
    obtain ⟨tt, t3⟩ := hn.top i hi
    exact l_foretells tt t3 rfl (nI_add 1 _) (by omega) (by omega) hm (p_z hm) v (by omega) hT tk (fun y' d' c'' μ' hc'' h' v' => ⟨by decide, q μ' ⟨R, A, L, I, y', c'', d', T, W, h', ⟨n4, n5, n45⟩, hT, hW, tk, wk, v', by omega, a0⟩⟩)
  have s325 : wL_step_325 z Q (some q1) (some q4) (some q5) μ := by
    unfold wL_step_325
    refine l_passes hm (p_z hm) v (by omega) hT tk hW wk (fun y1 d1 c1 μ1 hc1 h1 v1 => ⟨fun g => absurd g (by decide), fun _ => ?_⟩)
    refine l_passes h1 (p_z h1) v1 (by omega) hT tk hW wk (fun y2 d2 c2 μ2 hc2 h2 v2 => ⟨fun g => absurd g (by decide), fun _ => ?_⟩)
    exact q μ2 ⟨R, A, L, I, y2, c2, d2, T, W, h2, ⟨n4, n5, n45⟩, hT, hW, tk, wk, v2, by omega, a0⟩
  exact ⟨fun _ => s104, fun _ => ⟨fun _ => s104, fun _ => ⟨fun _ => s118, fun _ => ⟨fun _ => s129, fun _ => ⟨fun _ => s182, fun _ => ⟨fun _ => s238, fun _ => ⟨fun _ => s238, fun _ => ⟨fun _ => s238, fun _ => ⟨fun _ => s305, fun _ => s325⟩⟩⟩⟩⟩⟩⟩⟩⟩
end LJ
