/-! ===== the law's calls: days ===== -/
section LC
variable {z : Nat × Nat} {q1 q4 q7 c b LL : Nat} {μ : jM} {K23 : Option Nat → Option Nat → Option Nat → Int32 → jM → Prop} {xs : Nat → Int32} {x4 : Int32}
theorem lw_afterSweep (hW : lW z q1 q4 q7 c μ) (hc : c < 512) (hx : LX x4 LL) (k : ∀ μ', lW z q1 q4 q7 (c + 1) μ' → wL_law_1855 z b K23 LL xs (some q1) (some q4) (some q7) x4 μ') : wL_law_1610 z b K23 LL xs (some q1) (some q4) (some q7) x4 μ := by
  obtain ⟨v1, v2, v3, v4, v5⟩ := hx
  obtain ⟨ad, nm, A, L, F, I, K, kk, μr, am, nn, n, J, d, X, rfl, hfix, hE, hR, hn, hv, h60⟩ := hW
  have hR0 := hR
  obtain ⟨e1, hM, e4, hd, hz, -⟩ := hR0
  subst e1
  subst e4
  have es := lr_es (z := z) (ad := ad) (A := A) (L := L) (F := F) (I := I) (y := J 1) (K := K) (k := kk) hd hfix
  have same : ∀ v, lW z (ad (0, 0)) (am 0) q7 (c + 1) (mM am nn (upd n 3 v) I J (cM z ad nm A L F I (J 1) K kk μr)) := fun v => lw_mk hE hR (nOk_3 hn) rfl (lV_c hv) h60
  have hA10 : A ≤ 10 := hE.2.1
  have hL6 : L ≤ 6 := hE.2.2.1
  have hF20 : F ≤ 20 := hE.2.2.2.1
  unfold wL_law_1610
  generalize xs (Int32.toNatClampNeg (x4 + (1 : Int32))) = a1
  refine ⟨v1, ?_⟩
  unfold wL_afterSweep wL_afterSweep_0
  refine ⟨_, ⟨rfl, ch0 hE.1⟩, ?_⟩
  have dn := dn_rng hF20 hv.2.2.1.2.2.1
  have lim := bT_lim hv.2.2.1.1 (show c ≤ 512 by omega) (show d / 20 ≤ 23 by have := hv.1; omega) dn
  have X0 := hv.2.2.1.1.1
  refine c_afterSweep hE hv.2.1.2.1 X0 (by omega) hv.2.2.1.1.2.2 (fun i hi ei => ?_) (fun nr => e11 ?_)
  · have r : 0 ≤ a1 ∧ a1 < n 0 := by rw [hn.1, ei]; exact ⟨nI_pos' (by omega), nI_lt hi (by omega)⟩
    refine lw_put hR hfix (fun μ2 hR2 hq2 => ⟨v1, am 0, ⟨rfl, mhere hM⟩, ?_⟩)
    refine m_afterSweep hM hn.1 hA10 hE.2.2.2.2.1 (fun j hj ej => ?_) (fun nr => absurd r nr)
    have eij := ixe (by omega) (by omega) ei ej
    subst eij
    exact tl_s hM rfl (lr_get hR2 hq2) (k _ (lw_mk hE hR2 (nOk_3 hn) rfl (lV_c hv) h60))
  · rw [← hn.1] at nr
    rw [es]
    exact ⟨v1, am 0, ⟨rfl, mhere hM⟩, m_afterSweep hM hn.1 hA10 hE.2.2.2.2.1 (fun j hj ej => absurd (show 0 ≤ a1 ∧ a1 < n 0 by rw [hn.1, ej]; exact ⟨nI_pos' (by omega), nI_lt hj (by omega)⟩) nr) (fun _ => tl_e hM rfl (by decide) (k _ (same _)))⟩
theorem lw_afterSweepByMoves (hW : lW z q1 q4 q7 c μ) (hc : c < 512) (hx : LX x4 LL) (k : ∀ μ', lW z q1 q4 q7 (c + 1) μ' → wL_law_1855 z b K23 LL xs (some q1) (some q4) (some q7) x4 μ') : wL_law_1665 z b K23 LL xs (some q1) (some q4) (some q7) x4 μ := by
  obtain ⟨v1, v2, v3, v4, v5⟩ := hx
  obtain ⟨ad, nm, A, L, F, I, K, kk, μr, am, nn, n, J, d, X, rfl, hfix, hE, hR, hn, hv, h60⟩ := hW
  have hR0 := hR
  obtain ⟨e1, hM, e4, hd, hz, -⟩ := hR0
  subst e1
  subst e4
  have es := lr_es (z := z) (ad := ad) (A := A) (L := L) (F := F) (I := I) (y := J 1) (K := K) (k := kk) hd hfix
  have same : ∀ v, lW z (ad (0, 0)) (am 0) q7 (c + 1) (mM am nn (upd n 3 v) I J (cM z ad nm A L F I (J 1) K kk μr)) := fun v => lw_mk hE hR (nOk_3 hn) rfl (lV_c hv) h60
  have hA10 : A ≤ 10 := hE.2.1
  have hL6 : L ≤ 6 := hE.2.2.1
  have hF20 : F ≤ 20 := hE.2.2.2.1
  unfold wL_law_1665
  generalize xs (Int32.toNatClampNeg (x4 + (1 : Int32))) = a1
  refine ⟨v1, ?_⟩
  unfold wL_afterSweepByMoves wL_afterSweepByMoves_0
  refine ⟨_, ⟨rfl, ch0 hE.1⟩, ?_⟩
  have dn := dn_rng hF20 hv.2.2.1.2.2.1
  have lim := bT_lim hv.2.2.1.1 (show c ≤ 512 by omega) (show d / 20 ≤ 23 by have := hv.1; omega) dn
  have X0 := hv.2.2.1.1.1
  refine c_byMoves hE hv.2.1.2.1 X0 (by omega) hv.2.2.1.1.2.2 (show d < 2 ^ 31 by have := hv.1; omega) hv.2.2.1.2.2.2 h60 (fun i hi ei K' k' hK' => ?_) (fun nr => e11 ?_)
  · have r : 0 ≤ a1 ∧ a1 < n 0 := by rw [hn.1, ei]; exact ⟨nI_pos' (by omega), nI_lt hi (by omega)⟩
    refine lw_put hR hfix (fun μ2 hR2 hq2 => ⟨v1, am 0, ⟨rfl, mhere hM⟩, ?_⟩)
    refine m_afterSweepByMoves hM hn.1 hA10 hE.2.2.2.2.1 (fun j hj ej => ?_) (fun nr => absurd r nr)
    have eij := ixe (by omega) (by omega) ei ej
    subst eij
    exact tl_s hM rfl (lr_get hR2 hq2) (k _ (lw_mk hE hR2 (nOk_3 hn) rfl (lV_c hv) hK'))
  · rw [← hn.1] at nr
    rw [es]
    exact ⟨v1, am 0, ⟨rfl, mhere hM⟩, m_afterSweepByMoves hM hn.1 hA10 hE.2.2.2.2.1 (fun j hj ej => absurd (show 0 ≤ a1 ∧ a1 < n 0 by rw [hn.1, ej]; exact ⟨nI_pos' (by omega), nI_lt hj (by omega)⟩) nr) (fun _ => tl_e hM rfl (by decide) (k _ (same _)))⟩
theorem lw_passDays (hW : lW z q1 q4 q7 c μ) (hc : c < 512) (hx : LX x4 LL) (k : ∀ μ', lW z q1 q4 q7 (c + 1) μ' → wL_law_1855 z b K23 LL xs (some q1) (some q4) (some q7) x4 μ') : wL_law_737 z b K23 LL xs (some q1) (some q4) (some q7) x4 μ := by
  obtain ⟨v1, v2, v3, v4, v5⟩ := hx
  obtain ⟨ad, nm, A, L, F, I, K, kk, μr, am, nn, n, J, d, X, rfl, hfix, hE, hR, hn, hv, h60⟩ := hW
  have hR0 := hR
  obtain ⟨e1, hM, e4, hd, hz, -⟩ := hR0
  subst e1
  subst e4
  have es := lr_es (z := z) (ad := ad) (A := A) (L := L) (F := F) (I := I) (y := J 1) (K := K) (k := kk) hd hfix
  have same : ∀ v, lW z (ad (0, 0)) (am 0) q7 (c + 1) (mM am nn (upd n 3 v) I J (cM z ad nm A L F I (J 1) K kk μr)) := fun v => lw_mk hE hR (nOk_3 hn) rfl (lV_c hv) h60
  have hA10 : A ≤ 10 := hE.2.1
  have hL6 : L ≤ 6 := hE.2.2.1
  have hF20 : F ≤ 20 := hE.2.2.2.1
  unfold wL_law_737
  generalize xs (Int32.toNatClampNeg (x4 + (1 : Int32))) = a1
  refine ⟨v1, ?_⟩
  unfold wL_passDays wL_passDays_0
  refine ⟨_, ⟨rfl, ch0 hE.1⟩, ?_⟩
  refine c_passDays (l := J 21) hE hv.2.1 (show c ≤ 512 by omega) hv.1 hv.2.2.1 h60 (fun t t1 t60 et hd' K' hK' => ?_) (fun nP => e21 sAS ?_) (fun t t1 t60 et nd => e22 sSA ?_)
  · have r : 1 ≤ a1 ∧ a1 ≤ 60 := by rw [et]; exact ⟨nI_le (a := 1) (by omega) (by omega), nI_le (b := 60) (by omega) (by decide)⟩
    refine lw_put hR hfix (fun μ2 hR2 hq2 => ⟨v1, am 0, ⟨rfl, mhere hM⟩, ?_⟩)
    refine m_passDays hM hn.1 hn.2.1 hn.2.2 hv.2.1 (show c ≤ 512 by omega) hv.1 hv.2.2.1 (fun s s1 s60 es' _ => ?_) (fun nP => absurd r nP) (fun s s1 s60 es' nd => absurd (ixe (by omega) (by omega) et es') (fun e => by subst e; exact nd hd'))
    have ett := ixe (by omega) (by omega) et es'
    subst ett
    obtain ⟨X', hv'⟩ := lV_days (l := J 21) hv (show c ≤ 512 by omega) hd'
    exact tl_s hM rfl (lr_get hR2 hq2) (k _ (lw_mk hE hR2 (nOk_3 hn) rfl hv' hK'.2))
  · rw [es]
    exact ⟨v1, am 0, ⟨rfl, mhere hM⟩, m_passDays hM hn.1 hn.2.1 hn.2.2 hv.2.1 (show c ≤ 512 by omega) hv.1 hv.2.2.1 (fun s s1 s60 es' _ => absurd (show 1 ≤ a1 ∧ a1 ≤ 60 by rw [es']; exact ⟨nI_le (a := 1) (by omega) (by omega), nI_le (b := 60) (by omega) (by decide)⟩) nP) (fun _ => tl_e hM rfl (by decide) (k _ (same _))) (fun s s1 s60 es' _ => absurd (show 1 ≤ a1 ∧ a1 ≤ 60 by rw [es']; exact ⟨nI_le (a := 1) (by omega) (by omega), nI_le (b := 60) (by omega) (by decide)⟩) nP)⟩
  · have r : 1 ≤ a1 ∧ a1 ≤ 60 := by rw [et]; exact ⟨nI_le (a := 1) (by omega) (by omega), nI_le (b := 60) (by omega) (by decide)⟩
    rw [es]
    exact ⟨v1, am 0, ⟨rfl, mhere hM⟩, m_passDays hM hn.1 hn.2.1 hn.2.2 hv.2.1 (show c ≤ 512 by omega) hv.1 hv.2.2.1 (fun s s1 s60 es' hd' => absurd (ixe (by omega) (by omega) et es') (fun e => by subst e; exact nd hd')) (fun nP => absurd r nP) (fun _ _ _ _ _ => tl_e hM rfl (by decide) (k _ (same _)))⟩
theorem lw_forecast (hW : lW z q1 q4 q7 c μ) (hc : c < 512) (hx : LX x4 LL) (k : ∀ μ', lW z q1 q4 q7 (c + 1) μ' → wL_law_1855 z b K23 LL xs (some q1) (some q4) (some q7) x4 μ') : wL_law_1720 z b K23 LL xs (some q1) (some q4) (some q7) x4 μ := by
  obtain ⟨v1, v2, v3, v4, v5⟩ := hx
  obtain ⟨ad, nm, A, L, F, I, K, kk, μr, am, nn, n, J, d, X, rfl, hfix, hE, hR, hn, hv, h60⟩ := hW
  have hR0 := hR
  obtain ⟨e1, hM, e4, hd, hz, -⟩ := hR0
  subst e1
  subst e4
  have es := lr_es (z := z) (ad := ad) (A := A) (L := L) (F := F) (I := I) (y := J 1) (K := K) (k := kk) hd hfix
  have same : ∀ v, lW z (ad (0, 0)) (am 0) q7 (c + 1) (mM am nn (upd n 3 v) I J (cM z ad nm A L F I (J 1) K kk μr)) := fun v => lw_mk hE hR (nOk_3 hn) rfl (lV_c hv) h60
  have hA10 : A ≤ 10 := hE.2.1
  have hL6 : L ≤ 6 := hE.2.2.1
  have hF20 : F ≤ 20 := hE.2.2.2.1
  unfold wL_law_1720
  generalize xs (Int32.toNatClampNeg (x4 + (1 : Int32))) = a1
  generalize xs (Int32.toNatClampNeg (x4 + (2 : Int32))) = a2
  refine ⟨v1, v2, ?_⟩
  unfold wL_forecast wL_forecast_0
  refine ⟨_, ⟨rfl, ch0 hE.1⟩, ?_⟩
  refine c_forecast (l := J 21) hE hv.2.1 (show c ≤ 512 by omega) hv.1 hv.2.2.1 h60 (fun i t hi ei t1 t60 et K' k' hK' => ?_) (fun nr => e21 sIA ?_) (fun r nP => e22 sAI ?_)
  · have r : 0 ≤ a1 ∧ a1 < n 0 := by rw [hn.1, ei]; exact ⟨nI_pos' (by omega), nI_lt hi (by omega)⟩
    have rt : 1 ≤ a2 ∧ a2 ≤ 60 := by rw [et]; exact ⟨nI_le (a := 1) (by omega) (by omega), nI_le (b := 60) (by omega) (by decide)⟩
    refine lw_put hR hfix (fun μ2 hR2 hq2 => ⟨v1, v2, am 0, ⟨rfl, mhere hM⟩, ?_⟩)
    refine m_forecast hM hn.1 hn.2.1 hn.2.2 hv.2.1 (show c ≤ 512 by omega) hv.1 hv.2.2.1 (fun j s hj ej s1 s60 es' o l' => ?_) (fun nr => absurd r nr) (fun _ nP => absurd rt nP)
    have eij := ixe (by omega) (by omega) ei ej
    subst eij
    have ett := ixe (by omega) (by omega) et es'
    subst ett
    exact tl_s hM rfl (lr_get hR2 hq2) (k _ (lw_mk hE hR2 (nOk_3 hn) rfl (lV_c hv) hK'))
  · rw [← hn.1] at nr
    rw [es]
    exact ⟨v1, v2, am 0, ⟨rfl, mhere hM⟩, m_forecast hM hn.1 hn.2.1 hn.2.2 hv.2.1 (show c ≤ 512 by omega) hv.1 hv.2.2.1 (fun j s hj ej s1 s60 es' o l' => absurd (show 0 ≤ a1 ∧ a1 < n 0 by rw [hn.1, ej]; exact ⟨nI_pos' (by omega), nI_lt hj (by omega)⟩) nr) (fun _ => tl_e hM rfl (by decide) (k _ (same _))) (fun r _ => absurd r nr)⟩
  · rw [← hn.1] at r
    rw [es]
    exact ⟨v1, v2, am 0, ⟨rfl, mhere hM⟩, m_forecast hM hn.1 hn.2.1 hn.2.2 hv.2.1 (show c ≤ 512 by omega) hv.1 hv.2.2.1 (fun j s hj ej s1 s60 es' o l' => absurd (show 1 ≤ a2 ∧ a2 ≤ 60 by rw [es']; exact ⟨nI_le (a := 1) (by omega) (by omega), nI_le (b := 60) (by omega) (by decide)⟩) nP) (fun nr => absurd r nr) (fun _ _ => tl_e hM rfl (by decide) (k _ (same _)))⟩
theorem lw_daysToShort (hW : lW z q1 q4 q7 c μ) (hc : c < 512) (hx : LX x4 LL) (k : ∀ μ', lW z q1 q4 q7 (c + 1) μ' → wL_law_1855 z b K23 LL xs (some q1) (some q4) (some q7) x4 μ') : wL_law_1787 z b K23 LL xs (some q1) (some q4) (some q7) x4 μ := by
  obtain ⟨v1, v2, v3, v4, v5⟩ := hx
  obtain ⟨ad, nm, A, L, F, I, K, kk, μr, am, nn, n, J, d, X, rfl, hfix, hE, hR, hn, hv, h60⟩ := hW
  have hR0 := hR
  obtain ⟨e1, hM, e4, hd, hz, -⟩ := hR0
  subst e1
  subst e4
  have es := lr_es (z := z) (ad := ad) (A := A) (L := L) (F := F) (I := I) (y := J 1) (K := K) (k := kk) hd hfix
  have same : ∀ v, lW z (ad (0, 0)) (am 0) q7 (c + 1) (mM am nn (upd n 3 v) I J (cM z ad nm A L F I (J 1) K kk μr)) := fun v => lw_mk hE hR (nOk_3 hn) rfl (lV_c hv) h60
  have hA10 : A ≤ 10 := hE.2.1
  have hL6 : L ≤ 6 := hE.2.2.1
  have hF20 : F ≤ 20 := hE.2.2.2.1
  unfold wL_law_1787
  generalize xs (Int32.toNatClampNeg (x4 + (1 : Int32))) = a1
  generalize xs (Int32.toNatClampNeg (x4 + (2 : Int32))) = a2
  refine ⟨v1, v2, ?_⟩
  unfold wL_daysToShort wL_daysToShort_0
  refine ⟨_, ⟨rfl, ch0 hE.1⟩, ?_⟩
  refine c_daysToShort (l := J 21) hE hv.2.1 (show c ≤ 512 by omega) hv.1 hv.2.2.1 h60 (fun i t hi ei t1 t60 et tp K' k' hK' => ?_) (fun nr => e31 sIA sIS ?_) (fun r nP => e32 sAI sAS ?_) (fun i hi ei P np => e33 sSI sSA ?_)
  · have r : 0 ≤ a1 ∧ a1 < n 0 := by rw [hn.1, ei]; exact ⟨nI_pos' (by omega), nI_lt hi (by omega)⟩
    have rt : 1 ≤ a2 ∧ a2 ≤ 60 := by rw [et]; exact ⟨nI_le (a := 1) (by omega) (by omega), nI_le (b := 60) (by omega) (by decide)⟩
    refine lw_put hR hfix (fun μ2 hR2 hq2 => ⟨v1, v2, am 0, ⟨rfl, mhere hM⟩, ?_⟩)
    refine m_daysToShort hM hn.1 hn.2.1 hn.2.2 hv.2.1 (show c ≤ 512 by omega) hv.1 hv.2.2.1 (fun j s hj ej s1 s60 es' _ o l' => ?_) (fun nr => absurd r nr) (fun _ nP => absurd rt nP) (fun j hj ej _ np => absurd (ixe (by omega) (by omega) ei ej) (fun eij => by subst eij; exact np tp))
    have eij := ixe (by omega) (by omega) ei ej
    subst eij
    have ett := ixe (by omega) (by omega) et es'
    subst ett
    exact tl_s hM rfl (lr_get hR2 hq2) (k _ (lw_mk hE hR2 (nOk_3 hn) rfl (lV_c hv) hK'))
  · rw [← hn.1] at nr
    rw [es]
    exact ⟨v1, v2, am 0, ⟨rfl, mhere hM⟩, m_daysToShort hM hn.1 hn.2.1 hn.2.2 hv.2.1 (show c ≤ 512 by omega) hv.1 hv.2.2.1 (fun j s hj ej s1 s60 es' _ o l' => absurd (show 0 ≤ a1 ∧ a1 < n 0 by rw [hn.1, ej]; exact ⟨nI_pos' (by omega), nI_lt hj (by omega)⟩) nr) (fun _ => tl_e hM rfl (by decide) (k _ (same _))) (fun r _ => absurd r nr) (fun j hj ej _ _ => absurd (show 0 ≤ a1 ∧ a1 < n 0 by rw [hn.1, ej]; exact ⟨nI_pos' (by omega), nI_lt hj (by omega)⟩) nr)⟩
  · rw [← hn.1] at r
    rw [es]
    exact ⟨v1, v2, am 0, ⟨rfl, mhere hM⟩, m_daysToShort hM hn.1 hn.2.1 hn.2.2 hv.2.1 (show c ≤ 512 by omega) hv.1 hv.2.2.1 (fun j s hj ej s1 s60 es' _ o l' => absurd (show 1 ≤ a2 ∧ a2 ≤ 60 by rw [es']; exact ⟨nI_le (a := 1) (by omega) (by omega), nI_le (b := 60) (by omega) (by decide)⟩) nP) (fun nr => absurd r nr) (fun _ _ => tl_e hM rfl (by decide) (k _ (same _))) (fun j hj ej P _ => absurd P nP)⟩
  · have r : 0 ≤ a1 ∧ a1 < n 0 := by rw [hn.1, ei]; exact ⟨nI_pos' (by omega), nI_lt hi (by omega)⟩
    rw [es]
    exact ⟨v1, v2, am 0, ⟨rfl, mhere hM⟩, m_daysToShort hM hn.1 hn.2.1 hn.2.2 hv.2.1 (show c ≤ 512 by omega) hv.1 hv.2.2.1 (fun j s hj ej s1 s60 es' tp o l' => absurd (ixe (by omega) (by omega) ei ej) (fun eij => by subst eij; exact np tp)) (fun nr => absurd r nr) (fun _ nP => absurd P nP) (fun _ _ _ _ _ => tl_e hM rfl (by decide) (k _ (same _)))⟩
end LC
