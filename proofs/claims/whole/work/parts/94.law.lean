/-! ===== the law: its loop, its beginning ===== -/
section LL
variable {z : Nat × Nat} {q1 q4 q7 c b LL : Nat} {μ : jM} {xs : Nat → Int32}
theorem lW_c (h : lW z q1 q4 q7 c μ) : lW z q1 q4 q7 (c + 1) μ := by
  obtain ⟨ad, nm, A, L, F, I, K, kk, μr, am, nn, n, J, d, X, e, hfix, hE, hR, hn, hv, h60⟩ := h
  exact ⟨ad, nm, A, L, F, I, K, kk, μr, am, nn, n, J, d, X, e, hfix, hE, hR, hn, lV_c hv, h60⟩
theorem lw_next {n : Nat} (k : ∀ μ', lW z q1 q4 q7 (c + 1) μ' → wL_law_23 z b LL xs n (some q1) (some q4) (some q7) (nI (6 * (c + 1))) μ') : ∀ μ', lW z q1 q4 q7 (c + 1) μ' → wL_law_1855 z b (wL_law_23 z b LL xs n) LL xs (some q1) (some q4) (some q7) (nI (6 * c)) μ' := fun μ' h v e => by
  have e6 : nI (6 * c) + 6 = nI (6 * (c + 1)) := (nI_add (6 * c) 6).trans (congrArg nI (by omega))
  rw [e, e6]
  exact k μ' h
theorem law_lim (hL : LL ≤ 3072) (hc : c ≤ 512) : Int32.ofNat LL - 6 < nI (6 * c) ↔ LL < 6 * c + 6 := by
  have e : (Int32.ofNat LL - 6).toInt = (LL : Int) - 6 := by
    rw [Int32.toInt_sub, show (Int32.ofNat LL).toInt = (LL : Int) from nI_toInt (by omega), show (6 : Int32).toInt = 6 by decide]
    show Int.bmod ((LL : Int) - 6) (2 ^ 32) = _
    rw [Int.bmod_eq_of_le] <;> omega
  rw [Int32.lt_iff_toInt_lt, e, nI_toInt (by omega)]
  omega
theorem vpx {a k : Nat} (hL : LL ≤ 3072) (h : a + k < LL) : vp_in (nI a + nI k) LL := by
  rw [nI_add]
  exact vp_in_nI h (by omega)
theorem law_loop (hL : LL ≤ 3072) : ∀ (t c : Nat), c + t = 512 → ∀ μ, lW z q1 q4 q7 c μ → wL_law_23 z b LL xs (t + 1) (some q1) (some q4) (some q7) (nI (6 * c)) μ := by
  intro t
  induction t with
  | zero =>
    intro c hc μ hW
    show wL_law_23_b z b LL xs (wL_law_23 z b LL xs 0) (some q1) (some q4) (some q7) (nI (6 * c)) μ
    exact ⟨fun _ => trivial, fun h => absurd ((law_lim hL (by omega)).mpr (by omega)) h⟩
  | succ t ih =>
    intro c hc' μ hW
    have hc : c < 512 := by omega
    show wL_law_23_b z b LL xs (wL_law_23 z b LL xs (t + 1)) (some q1) (some q4) (some q7) (nI (6 * c)) μ
    refine ⟨fun _ => trivial, fun h => ?_⟩
    have hlt : 6 * c + 6 ≤ LL := by
      by_cases g : 6 * c + 6 ≤ LL
      · exact g
      · exact absurd ((law_lim hL (by omega)).mpr (by omega)) h
    have hx : LX (nI (6 * c)) LL := ⟨vpx (k := 1) hL (by omega), vpx (k := 2) hL (by omega), vpx (k := 3) hL (by omega), vpx (k := 4) hL (by omega), vpx (k := 5) hL (by omega)⟩
    have k := lw_next (fun μ' h => ih (c + 1) (by omega) μ' h)
    refine ⟨vp_in_nI (by omega) (by omega), ?_⟩
    exact ⟨fun _ => lw_addPool hW hc hx k, fun _ => ⟨fun _ => lw_addAccount hW hc hx k, fun _ => ⟨fun _ => lw_setRule hW hc hx k, fun _ => ⟨fun _ => lw_setFloor hW hc hx k, fun _ => ⟨fun _ => lw_addLine hW hc hx k, fun _ => ⟨fun _ => lw_setBankLimit hW hc hx k, fun _ => ⟨fun _ => lw_today hW k, fun _ => ⟨fun _ => lw_addHoliday hW hc hx k, fun _ => ⟨fun _ => lw_settlementDay hW hc hx k, fun _ => ⟨fun _ => lw_passDays hW hc hx k, fun _ => ⟨fun _ => lw_book hW hc hx k, fun _ => ⟨fun _ => lw_schedule hW hc hx k, fun _ => ⟨fun _ => lw_cancel hW hc hx k, fun _ => ⟨fun _ => lw_timesLeft hW hc hx k, fun _ => ⟨fun _ => lw_scheduled hW hc hx k, fun _ => ⟨fun _ => lw_accounts hW k, fun _ => ⟨fun _ => lw_poolOf hW hc hx k, fun _ => ⟨fun _ => lw_balance hW hc hx k, fun _ => ⟨fun _ => lw_total hW hc hx k, fun _ => ⟨fun _ => lw_exposure hW hc hx k, fun _ => ⟨fun _ => lw_drawn hW hc hx k, fun _ => ⟨fun _ => lw_costOf hW hc hx k, fun _ => ⟨fun _ => lw_interestOf hW hc hx k, fun _ => ⟨fun _ => lw_poolInterest hW hc hx k, fun _ => ⟨fun _ => lw_afterSweep hW hc hx k, fun _ => ⟨fun _ => lw_afterSweepByMoves hW hc hx k, fun _ => ⟨fun _ => lw_forecast hW hc hx k, fun _ => ⟨fun _ => lw_daysToShort hW hc hx k, fun _ => k μ (lW_c hW)⟩⟩⟩⟩⟩⟩⟩⟩⟩⟩⟩⟩⟩⟩⟩⟩⟩⟩⟩⟩⟩⟩⟩⟩⟩⟩⟩⟩
theorem law_ok (hz0 : μ z.1 = some jZ0) (hL : LL ≤ 3072) : wL_law_0 z b LL xs μ := by
  intro q1 hq1
  refine c_init hq1 hz0 (fun ad nm μ1 hE h00 hkeep => ?_)
  intro q4 hq4
  refine m_init hq4 (fun am nn hM a0 hfar => ?_)
  intro q7 hq7 v8 e8
  refine ⟨513, Nat.le_refl _, ?_⟩
  have hq7' : 21 < nn q7 ∧ cM z ad nm 0 0 0 I00 (fun _ => 0) (fun _ _ => 0) k00 μ1 q7 = none := by
    by_cases g : nn q7 ≤ 21
    · have : mM am nn (fun _ => 0) I00 (fun _ _ => 0) (cM z ad nm 0 0 0 I00 (fun _ => 0) (fun _ _ => 0) k00 μ1) q7 = some (mce am (fun _ => 0) I00 (fun _ _ => 0) (nn q7)) := if_pos g
      rw [this] at hq7
      cases hq7
    · exact ⟨by omega, (mM_hi (by omega)).symm.trans hq7⟩
  obtain ⟨n7, u7⟩ := hq7'
  obtain ⟨w7, x7⟩ := g_none (cOk_gOk.mp hE.1) (show gM (cC z ad 0 0 0 I00 (fun _ => 0) (fun _ _ => 0) k00) nm μ1 q7 = none from u7)
  obtain ⟨z1, z2⟩ := hkeep z.1 (by rw [hz0]; exact fun g => by cases g)
  have z3 : μ1 z.1 = some jZ0 := z2.trans hz0
  have z4 : 21 < nn z.1 := hfar z.1 (by rw [cM_hi z1, z3]; exact fun g => by cases g)
  have hd : ∀ a, nn a ≤ 21 → nm a = (100, 0) := fun a ha => by
    rcases hE.1.2 a with h1 | ⟨h1, h2⟩
    · exact h1
    · obtain ⟨e, he⟩ := (cLv_iff (z := z) (ad := ad) (zz := fun _ => 0) (K := fun _ _ => 0) (k := k00)).mp h1
      have : cM z ad nm 0 0 0 I00 (fun _ => 0) (fun _ _ => 0) k00 μ1 a ≠ none := by
        unfold cM
        rw [he]
        exact fun g => by cases g
      have := hfar a this
      omega
  have hzq : z.1 ≠ q7 := fun e => by rw [e, x7] at z3; cases z3
  have hR : lR z q1 q4 q7 ad nm am nn (va_up μ1 q7 (some (.inl (1, 1, .inr (.inl (fun _ => 0)))))) := ⟨h00, hM, a0, hd, ⟨z1, z4, (va_up_no hzq).trans z3⟩, w7, n7, _, va_up_at⟩
  have em : va_up (mM am nn (fun _ => 0) I00 (fun _ _ => 0) (cM z ad nm 0 0 0 I00 (fun _ => 0) (fun _ _ => 0) k00 μ1)) q7 (some (.inl (1, 1, .inr (.inl (fun _ => 0))))) = mM am nn (fun _ => 0) I00 (fun _ _ => 0) (cM z ad nm 0 0 0 I00 (fun _ => 0) (fun _ _ => 0) k00 (va_up μ1 q7 (some (.inl (1, 1, .inr (.inl (fun _ => 0))))))) := by
    rw [← va_up_cM w7]
    funext a
    unfold va_up mM
    by_cases h : a = q7
    · rw [if_pos h, h, if_neg (by omega)]
      exact (if_pos rfl).symm
    · rw [if_neg h]
      by_cases g : nn a ≤ 21
      · rw [if_pos g, if_pos g]
      · rw [if_neg g, if_neg g]
        exact (if_neg h).symm
  rw [em, e8]
  have hW : lW z q1 q4 q7 0 (mM am nn (fun _ => 0) I00 (fun _ _ => 0) (cM z ad nm 0 0 0 I00 (fun _ => 0) (fun _ _ => 0) k00 (va_up μ1 q7 (some (.inl (1, 1, .inr (.inl (fun _ => 0)))))))) := lw_mk hE hR ⟨nI_0.symm, nI_0.symm, nI_0.symm⟩ rfl lV_00 (fun p hp => absurd hp.1 (by omega))
  have w := law_loop (b := b) (xs := xs) hL 512 0 (by omega) _ hW
  rw [show nI (6 * 0) = 0 from nI_0] at w
  exact w
end LL
