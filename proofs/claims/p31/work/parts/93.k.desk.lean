/-! ===== the law: a desk, forty steps ===== -/
section LK
variable {z : Nat × Nat} {q1 q4 q5 q7 : Nat} {R R' : jM} {A L F : Nat} {I I' : Nat → Nat → Int32} {y y' : Nat → Int64} {c d : Nat} {μ : jM} {T W : Nat → Int32} {S S' N : Nat → Int64} {b LL : Nat} {xs : Nat → Int32}
theorem jforB {σ : Type} (P : Nat → Nat → σ → Prop) (N : Nat) (Inv : Nat → σ → Prop) (step : ∀ n k s, k < N → Inv k s → (∀ s', Inv (k + 1) s' → P n (k + 1) s') → P (n + 1) k s) (done : ∀ s, Inv N s → P 1 N s) : ∀ s, Inv 0 s → ∃ n, n ≤ N + 1 ∧ P n 0 s := by
  have h : ∀ j, j ≤ N → ∀ s, Inv (N - j) s → P (j + 1) (N - j) s := by
    intro j
    induction j with
    | zero => intro _ s hs; exact done s hs
    | succ j ih =>
      intro hj s hs
      refine step (j + 1) (N - (j + 1)) s (by omega) hs (fun s' hs' => ?_)
      rw [show N - (j + 1) + 1 = N - j by omega] at hs' ⊢
      exact ih (by omega) s' hs'
  intro s hs
  have := h N (Nat.le_refl N) s (by rw [Nat.sub_self]; exact hs)
  rw [Nat.sub_self] at this
  exact ⟨N + 1, Nat.le_refl _, this⟩
section D45
variable {K : Int32 → Option Nat → Option Nat → Option Nat → Int32 → Int32 → jM → Prop} {Q : Int32 → jM → Prop} {x1 : Int32} {k : Nat}
theorem l_d215 (hk : k < 40) (h : dS z q1 q4 q5 F (5 * k + 2) 1 μ) (hF : F ≤ 20) {a b' : Nat} (ha : a < 2 ^ 31) (hb : b' < 2 ^ 31) (q : ∀ F' μ', F' ≤ 20 → dS z q1 q4 q5 F' (5 * (k + 1)) 0 μ' → K x1 (some q1) (some q4) (some q5) (nI F') (nI (k + 1)) μ') : wL_desk_215 z b K LL xs Q x1 (some q1) (some q4) (some q5) (nI F) (nI k) (nI a) (nI b') 1 μ := by
  obtain ⟨R, A, L, I, y, c', d, T, W, hm, hne, hT, hW, tk, wk, v, cc, a1⟩ := h
  have hn := p_cE hm
  have hA := hn.1
  have fin : ∀ μ', pM z q1 R A L F I y μ' → wL_desk_276 z b K LL xs Q x1 (some q1) (some q4) (some q5) (nI F) (nI k) 1 μ' := fun μ' h' => by
    unfold wL_desk_276
    refine ⟨fun _ v1 e1 => ?_, fun g => absurd g (by decide)⟩
    rw [e1, nI_s]
    exact q F μ' hF ⟨R, A, L, I, y, c', d, T, W, h', hne, hT, hW, tk, wk, v, by omega, by omega⟩
  unfold wL_desk_215
  refine ⟨fun _ => fin μ hm, fun _ => ⟨fun _ => fin μ hm, fun g => ?_⟩⟩
  have hF2 : F < 20 := Nat.lt_of_not_le (fun w => g (nI_le (a := 20) w (by omega)))
  have dd := v_d v
  refine p_today hm v (fun μ2 h2 => ?_)
  rw [show nI d + 19 = nI (d + 19) from nI_add d 19]
  refine ⟨fun _ => fin μ2 h2, fun g2 => ⟨fun g => absurd g (by decide), fun _ => ?_⟩⟩
  have hd : d + 19 ≤ 450 := Nat.le_of_not_lt (fun w => g2 (nI_lt (a := 450) w (by omega)))
  refine ⟨_, p_rd h2 hT (j := 0) (by omega) (by omega) pk0, ?_⟩
  rw [tk.1]
  refine ⟨nI_ne0 (by omega) (by omega), ?_⟩
  rw [pk_rem hb (show 0 < A by omega) (by omega)]
  refine l_schedules h2 v (by omega) hF2 hd (i := b' % A) (a := a / 3) (b := b' / 10) (Nat.mod_lt _ (by omega)) (by omega) (by omega) rfl (dv_n (m := 3) ha (by omega) (by omega) rfl) (dv_n (m := 10) hb (by omega) (by omega) rfl) rfl (fun I' c'' μ' hc'' h' v' hr v8 e8 => ?_)
  rw [e8, nI_s]
  unfold wL_desk_276
  refine ⟨fun _ v1 e1 => ?_, fun g => absurd g (by decide)⟩
  rw [e1, nI_s]
  exact q (F + 1) μ' hF2 ⟨R, A, L, I', y, c'', d, T, W, h', hne, hT, hW, tOk_c (hr 3 (by decide)) (hr 5 (by decide)) (hr 6 (by decide)) (hr 7 (by decide)) (hr 8 (by decide)) (hr 11 (by decide)) (hr 12 (by decide)) tk, wOk_c (hr 14 (by decide)) wk, v', by omega, by omega⟩
theorem l_d140 (hk : k < 40) (h : dS z q1 q4 q5 F (5 * k) 0 μ) (hF : F ≤ 20) {a b' : Nat} (ha : a < 2 ^ 31) (hb : b' < 2 ^ 31) {t0 : Int32} (q : ∀ F' μ', F' ≤ 20 → dS z q1 q4 q5 F' (5 * (k + 1)) 0 μ' → K x1 (some q1) (some q4) (some q5) (nI F') (nI (k + 1)) μ') : wL_desk_140 z b K LL xs Q x1 (some q1) (some q4) (some q5) (nI F) (nI k) (nI a) (nI b') t0 μ := by
  unfold wL_desk_140
  refine l_step h (by omega) ha hb rfl rfl (fun μ2 h2 => ⟨fun g => absurd g (by decide), fun _ => ?_⟩)
  obtain ⟨R, A, L, I, y, c', d, T, W, hm, hne, hT, hW, tk, wk, v, cc, a1⟩ := h2
  have hn := p_cE hm
  have hA := hn.1
  refine l_areSums hm v hT tk (fun μ4 h4 => ⟨fun g => absurd g (by decide), fun _ => ?_⟩)
  refine l_areExposed h4 hT tk (fun μ6 h6 => ⟨fun g => absurd g (by decide), fun _ => ?_⟩)
  refine l_areLines h6 v hT tk (fun μ8 h8 => ⟨fun g => absurd g (by decide), fun _ => ?_⟩)
  refine l_isSwept h8 v hT tk (fun μ10 h10 => ⟨fun g => absurd g (by decide), fun _ => ?_⟩)
  refine ⟨_, p_rd h10 hT (j := 0) (by omega) (by omega) pk0, ?_⟩
  rw [tk.1]
  refine ⟨nI_ne0 (by omega) (by omega), ?_⟩
  rw [pk_rem ha (show 0 < A by omega) (by omega)]
  refine l_areDays h10 v (k := a % A) (a := a / 10) (b := b') (Nat.mod_lt _ (by omega)) (by omega) hb rfl (dv_n (m := 10) ha (by omega) (by omega) rfl) rfl (fun μ14 h14 => ⟨fun g => absurd g (by decide), fun _ => ?_⟩)
  exact l_d215 hk ⟨R, A, L, I, y, c', d, T, W, h14, hne, hT, hW, tk, wk, v, cc, a1⟩ hF ha hb q
end D45
theorem l_d45 {B : Nat} (hB : B ≤ 250) (hL : LL ≤ 260) {Q : Int32 → jM → Prop} (q : ∀ F' μ', dS z q1 q4 q5 F' 200 0 μ' → Q 1 μ') (h : dS z q1 q4 q5 0 0 0 μ) {x5 x6 : Int32} (e5 : x5 = 0) (e6 : x6 = 0) : ∃ n, n ≤ 41 ∧ wL_desk_45 z b LL xs Q n (nI B) (some q1) (some q4) (some q5) x5 x6 μ := by
  subst e5 e6
  rw [pk0]
  refine jforB (σ := Nat × jM) (fun n k s => wL_desk_45 z b LL xs Q n (nI B) (some q1) (some q4) (some q5) (nI s.1) (nI k) s.2) 40 (fun k s => s.1 ≤ 20 ∧ dS z q1 q4 q5 s.1 (5 * k) 0 s.2) (fun n k s hk hs ih => ?_) (fun s hs => ?_) (0, μ) ⟨by omega, h⟩
  · obtain ⟨F, s⟩ := s
    obtain ⟨hF, hs⟩ := hs
    show wL_desk_45_b z b LL xs Q (wL_desk_45 z b LL xs Q n) (nI B) (some q1) (some q4) (some q5) (nI F) (nI k) s
    have e0 : nI B + 3 * nI k = nI (B + 3 * k) := by
      show nI B + nI 3 * nI k = _
      rw [nI_mul2, nI_add]
    have go : ∀ (a b' : Nat) (t0 : Int32), a < 2 ^ 31 → b' < 2 ^ 31 → wL_desk_140 z b (wL_desk_45 z b LL xs Q n) LL xs Q (nI B) (some q1) (some q4) (some q5) (nI F) (nI k) (nI a) (nI b') t0 s := fun a b' t0 ha hb => l_d140 hk hs hF ha hb (fun F' μ' hF' h' => ih (F', μ') ⟨hF', h'⟩)
    unfold wL_desk_45_b
    rw [e0]
    refine ⟨fun g => absurd g (nI_ge (b := 40) hk (by omega)), fun _ => ?_⟩
    refine l_draw hL (k := B + 3 * k + 1) (m := 1073741824) (by omega) (by omega) (by omega) (nI_add _ 1) rfl (fun a ha => ?_)
    refine l_draw hL (k := B + 3 * k + 2) (m := 1073741824) (by omega) (by omega) (by omega) (nI_add _ 2) rfl (fun b' hb => ?_)
    have g := fun t0 => go a b' t0 (by omega) (by omega)
    refine ⟨fun _ => ⟨fun _ => ⟨fun _ => ⟨fun _ => ?_, fun _ => g 7⟩, fun _ => g 4⟩, fun _ => g 2⟩, fun _ => g 0⟩
    exact l_draw hL (k := B + 3 * k) (m := 16) (by omega) (by omega) (by omega) rfl rfl (fun r hr => g (nI r))
  · obtain ⟨F, s⟩ := s
    show wL_desk_45_b z b LL xs Q (wL_desk_45 z b LL xs Q 0) (nI B) (some q1) (some q4) (some q5) (nI F) (nI 40) s
    unfold wL_desk_45_b
    exact ⟨fun _ => q F s hs.2, fun g => absurd (nI_le (Nat.le_refl 40) (by omega)) g⟩
theorem pV_00 : pV 0 0 0 I00 (fun _ => 0) 0 0 := ⟨⟨0, lV_00⟩, ⟨fun p hp => absurd hp.1 (by omega), fun p hp => absurd hp.1 (by omega), fun l hl => absurd hl (by omega)⟩, by omega⟩
theorem l_desk (hz : μ z.1 = some jZ0) {B : Nat} (hB : B ≤ 250) (hL : LL ≤ 260) {x1 : Int32} (e1 : x1 = nI B) {Q : Int32 → jM → Prop} (q : ∀ μ', μ' z.1 = some jZ0 → Q 1 μ') : wL_desk z b LL xs x1 μ Q := by
  subst e1
  unfold wL_desk wL_desk_0
  intro q1 n1
  refine c_init n1 hz (fun ad nm μ0 hE had hk q4 n4 q5 n5 v6 e6 v7 e7 => ?_)
  obtain ⟨z1, z2⟩ := hk z.1 (by rw [hz]; exact fun g => by cases g)
  have p0 : pM z q1 (fun a => if a = z.1 then some jZ0 else none) 0 0 0 I00 (fun _ => 0) (cM z ad nm 0 0 0 I00 (fun _ => 0) (fun _ _ => 0) k00 μ0) := by
    refine ⟨ad, nm, fun _ _ => 0, k00, μ0, rfl, hE, had, fun a e ha => ?_, if_pos rfl, fun p hp => absurd hp.1 (by omega)⟩
    have ha : (if a = z.1 then some jZ0 else none) = some e := ha
    by_cases g : a = z.1
    · rw [if_pos g] at ha
      rw [g]
      exact ⟨z1, (z2.trans hz).trans ha⟩
    · rw [if_neg g] at ha
      cases ha
  obtain ⟨p4, r4⟩ := p_new (e := tE (fun _ => 0)) p0 n4
  obtain ⟨p5, r5⟩ := p_new (e := wE (fun _ => 0)) p4 n5
  have r4' : (if q4 = z.1 then some jZ0 else none : Option jE) = none := r4
  have n4z : q4 ≠ z.1 := fun g => by rw [if_pos g] at r4'; cases r4'
  have n45 : q4 ≠ q5 := fun g => by rw [← g, va_up_at] at r5; cases r5
  have r5' : (if q5 = z.1 then some jZ0 else none : Option jE) = none := (va_up_no (fun e => n45 e.symm)).symm.trans r5
  have n5z : q5 ≠ z.1 := fun g => by rw [if_pos g] at r5'; cases r5'
  subst e6 e7
  rw [show (0 : Int32) = nI 0 from pk0]
  refine jforE (fun n k s => wL_desk_24 z b LL xs Q n (nI B) (some q1) (some q4) (some q5) (nI 0) (nI k) s) 4 (fun k s => ∃ R W, pM z q1 R 0 0 0 I00 (fun _ => 0) s ∧ R q4 = some (tE (fun _ => 0)) ∧ R q5 = some (wE W) ∧ ∀ j, j < k → W j = -1) (fun n k s hk hs ih => ?_) (fun s hs => ?_) _ ⟨_, fun _ => 0, p5, (va_up_no n45).trans va_up_at, va_up_at, fun j hj => by omega⟩
  · obtain ⟨R, W, hm, hT, hW, hw⟩ := hs
    show wL_desk_24_b z b LL xs Q (wL_desk_24 z b LL xs Q n) (nI B) (some q1) (some q4) (some q5) (nI 0) (nI k) s
    unfold wL_desk_24_b
    refine ⟨fun g => absurd g (nI_ge (b := 4) hk (by omega)), fun _ => ?_⟩
    refine p_wrI hm hW n5z hk (by omega) rfl (fun μ1 h1 v4 e4 => ?_)
    rw [e4, nI_s]
    refine ih μ1 ⟨_, _, h1, (va_up_no n45).trans hT, va_up_at, fun j hj => ?_⟩
    by_cases e : j = k
    · rw [e, upd_at]
    · rw [upd_no e]
      exact hw j (by omega)
  · obtain ⟨R, W, hm, hT, hW, hw⟩ := hs
    show wL_desk_24_b z b LL xs Q (wL_desk_24 z b LL xs Q 0) (nI B) (some q1) (some q4) (some q5) (nI 0) (nI 4) s
    unfold wL_desk_24_b
    refine ⟨fun _ v1 e1 => ?_, fun g => absurd (nI_le (Nat.le_refl 4) (by omega)) g⟩
    refine l_d45 hB hL (fun F' μ' h' => ?_) ⟨R, 0, 0, I00, fun _ => 0, 0, 0, fun _ => 0, W, hm, ⟨n4z, n5z, n45⟩, hT, hW, ⟨rfl, rfl, fun k hk => absurd hk (by omega), fun k _ => ⟨rfl, rfl, rfl⟩, fun l hl => absurd hl (by omega)⟩, fun b' hb => ⟨?_, Or.inl ?_⟩, pV_00, by omega, by omega⟩ rfl e1
    · obtain ⟨R', A, L, I, y, c', d, T, W', hm', -⟩ := h'
      exact q μ' (p_R hm' (p_z hm'))
    · rw [hw b' hb]
      exact (if_pos hb).symm
    · exact if_pos hb
/-- the law: every desk says 1 -/
theorem law_ok (hz : μ z.1 = some jZ0) (hL : LL ≤ 260) : wL_law_0 z b LL xs μ := by
  unfold wL_law_0
  refine l_desk hz (B := 0) (by omega) hL rfl (fun μ2 h2 => ⟨fun g => absurd g (by decide), fun _ => ?_⟩)
  refine l_desk h2 (B := 125) (by omega) hL rfl (fun μ4 h4 => ⟨fun g => absurd g (by decide), fun _ => ?_⟩)
  exact l_desk h4 (B := 250) (by omega) hL rfl (fun μ6 h6 => ⟨fun g => absurd g (by decide), fun _ => trivial⟩)
end LK
