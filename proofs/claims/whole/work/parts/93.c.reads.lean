/-! ===== the law's calls: reads ===== -/
section LC
variable {z : Nat × Nat} {q1 q4 q7 c b LL : Nat} {μ : jM} {K23 : Option Nat → Option Nat → Option Nat → Int32 → jM → Prop} {xs : Nat → Int32} {x4 : Int32}
theorem lw_timesLeft (hW : lW z q1 q4 q7 c μ) (hc : c < 512) (hx : LX x4 LL) (k : ∀ μ', lW z q1 q4 q7 (c + 1) μ' → wL_law_1855 z b K23 LL xs (some q1) (some q4) (some q7) x4 μ') : wL_law_1020 z b K23 LL xs (some q1) (some q4) (some q7) x4 μ := by
  obtain ⟨v1, v2, v3, v4, v5⟩ := hx
  obtain ⟨ad, nm, A, L, F, I, K, kk, μr, am, nn, n, J, d, X, rfl, hfix, hE, hR, hn, hv, h60⟩ := hW
  have hR0 := hR
  obtain ⟨e1, hM, e4, hd, hz, -⟩ := hR0
  subst e1
  subst e4
  have es := lr_es (z := z) (ad := ad) (A := A) (L := L) (F := F) (I := I) (y := J 1) (K := K) (k := kk) hd hfix
  have same : ∀ v, lW z (ad (0, 0)) (am 0) q7 (c + 1) (mM am nn (upd n 3 v) I J (cM z ad nm A L F I (J 1) K kk μr)) := fun v => lw_mk hE hR (nOk_3 hn) rfl (lV_c hv) h60
  have hA10 : A ≤ 10 := hE.2.1
  have hL6 : L ≤ 6 := hE.2.2.1
  have hF20 : F ≤ 20 := hE.2.2.2.1
  unfold wL_law_1020
  generalize xs (Int32.toNatClampNeg (x4 + (1 : Int32))) = a1
  refine ⟨v1, ?_⟩
  unfold wL_timesLeft wL_timesLeft_0
  refine ⟨_, ⟨rfl, ch0 hE.1⟩, ?_⟩
  refine c_timesLeft hE (fun i hi ei => ?_) (fun nr => e11 ?_)
  · have r : 0 ≤ a1 ∧ a1 < n 2 := by rw [hn.2.2, ei]; exact ⟨nI_pos' (by omega), nI_lt hi (by omega)⟩
    refine lw_put hR hfix (fun μ2 hR2 hq2 => ⟨v1, am 0, ⟨rfl, mhere hM⟩, ?_⟩)
    refine m_timesLeft hM hn.2.2 hF20 (fun j hj ej => ?_) (fun nr => absurd r nr)
    have eij := ixe (by omega) (by omega) ei ej
    subst eij
    exact tl_s hM rfl (lr_get hR2 hq2) (k _ (lw_mk hE hR2 (nOk_3 hn) rfl (lV_c hv) h60))
  · rw [← hn.2.2] at nr
    rw [es]
    exact ⟨v1, am 0, ⟨rfl, mhere hM⟩, m_timesLeft hM hn.2.2 hF20 (fun j hj ej => absurd (show 0 ≤ a1 ∧ a1 < n 2 by rw [hn.2.2, ej]; exact ⟨nI_pos' (by omega), nI_lt hj (by omega)⟩) nr) (fun _ => tl_e hM rfl (by decide) (k _ (same _)))⟩
theorem lw_poolOf (hW : lW z q1 q4 q7 c μ) (hc : c < 512) (hx : LX x4 LL) (k : ∀ μ', lW z q1 q4 q7 (c + 1) μ' → wL_law_1855 z b K23 LL xs (some q1) (some q4) (some q7) x4 μ') : wL_law_1168 z b K23 LL xs (some q1) (some q4) (some q7) x4 μ := by
  obtain ⟨v1, v2, v3, v4, v5⟩ := hx
  obtain ⟨ad, nm, A, L, F, I, K, kk, μr, am, nn, n, J, d, X, rfl, hfix, hE, hR, hn, hv, h60⟩ := hW
  have hR0 := hR
  obtain ⟨e1, hM, e4, hd, hz, -⟩ := hR0
  subst e1
  subst e4
  have es := lr_es (z := z) (ad := ad) (A := A) (L := L) (F := F) (I := I) (y := J 1) (K := K) (k := kk) hd hfix
  have same : ∀ v, lW z (ad (0, 0)) (am 0) q7 (c + 1) (mM am nn (upd n 3 v) I J (cM z ad nm A L F I (J 1) K kk μr)) := fun v => lw_mk hE hR (nOk_3 hn) rfl (lV_c hv) h60
  have hA10 : A ≤ 10 := hE.2.1
  have hL6 : L ≤ 6 := hE.2.2.1
  have hF20 : F ≤ 20 := hE.2.2.2.1
  unfold wL_law_1168
  generalize xs (Int32.toNatClampNeg (x4 + (1 : Int32))) = a1
  refine ⟨v1, ?_⟩
  unfold wL_poolOf wL_poolOf_0
  refine ⟨_, ⟨rfl, ch0 hE.1⟩, ?_⟩
  refine c_poolOf hE (fun i hi ei => ?_) (fun nr => e11 ?_)
  · have r : 0 ≤ a1 ∧ a1 < n 0 := by rw [hn.1, ei]; exact ⟨nI_pos' (by omega), nI_lt hi (by omega)⟩
    refine lw_put hR hfix (fun μ2 hR2 hq2 => ⟨v1, am 0, ⟨rfl, mhere hM⟩, ?_⟩)
    refine m_poolOf hM hn.1 hA10 (fun j hj ej => ?_) (fun nr => absurd r nr)
    have eij := ixe (by omega) (by omega) ei ej
    subst eij
    exact tl_s hM rfl (lr_get hR2 hq2) (k _ (lw_mk hE hR2 (nOk_3 hn) rfl (lV_c hv) h60))
  · rw [← hn.1] at nr
    rw [es]
    exact ⟨v1, am 0, ⟨rfl, mhere hM⟩, m_poolOf hM hn.1 hA10 (fun j hj ej => absurd (show 0 ≤ a1 ∧ a1 < n 0 by rw [hn.1, ej]; exact ⟨nI_pos' (by omega), nI_lt hj (by omega)⟩) nr) (fun _ => tl_e hM rfl (by decide) (k _ (same _)))⟩
theorem lw_balance (hW : lW z q1 q4 q7 c μ) (hc : c < 512) (hx : LX x4 LL) (k : ∀ μ', lW z q1 q4 q7 (c + 1) μ' → wL_law_1855 z b K23 LL xs (some q1) (some q4) (some q7) x4 μ') : wL_law_1224 z b K23 LL xs (some q1) (some q4) (some q7) x4 μ := by
  obtain ⟨v1, v2, v3, v4, v5⟩ := hx
  obtain ⟨ad, nm, A, L, F, I, K, kk, μr, am, nn, n, J, d, X, rfl, hfix, hE, hR, hn, hv, h60⟩ := hW
  have hR0 := hR
  obtain ⟨e1, hM, e4, hd, hz, -⟩ := hR0
  subst e1
  subst e4
  have es := lr_es (z := z) (ad := ad) (A := A) (L := L) (F := F) (I := I) (y := J 1) (K := K) (k := kk) hd hfix
  have same : ∀ v, lW z (ad (0, 0)) (am 0) q7 (c + 1) (mM am nn (upd n 3 v) I J (cM z ad nm A L F I (J 1) K kk μr)) := fun v => lw_mk hE hR (nOk_3 hn) rfl (lV_c hv) h60
  have hA10 : A ≤ 10 := hE.2.1
  have hL6 : L ≤ 6 := hE.2.2.1
  have hF20 : F ≤ 20 := hE.2.2.2.1
  unfold wL_law_1224
  generalize xs (Int32.toNatClampNeg (x4 + (1 : Int32))) = a1
  refine ⟨v1, ?_⟩
  unfold wL_balance wL_balance_0
  refine ⟨_, ⟨rfl, ch0 hE.1⟩, ?_⟩
  refine c_balance hE (fun i hi ei => ?_) (fun nr => e11 ?_)
  · have r : 0 ≤ a1 ∧ a1 < n 0 := by rw [hn.1, ei]; exact ⟨nI_pos' (by omega), nI_lt hi (by omega)⟩
    refine lw_put hR hfix (fun μ2 hR2 hq2 => ⟨v1, am 0, ⟨rfl, mhere hM⟩, ?_⟩)
    refine m_balance hM hn.1 hA10 (fun j hj ej => ?_) (fun nr => absurd r nr)
    have eij := ixe (by omega) (by omega) ei ej
    subst eij
    exact tl_s hM rfl (lr_get hR2 hq2) (k _ (lw_mk hE hR2 (nOk_3 hn) rfl (lV_c hv) h60))
  · rw [← hn.1] at nr
    rw [es]
    exact ⟨v1, am 0, ⟨rfl, mhere hM⟩, m_balance hM hn.1 hA10 (fun j hj ej => absurd (show 0 ≤ a1 ∧ a1 < n 0 by rw [hn.1, ej]; exact ⟨nI_pos' (by omega), nI_lt hj (by omega)⟩) nr) (fun _ => tl_e hM rfl (by decide) (k _ (same _)))⟩
theorem lw_total (hW : lW z q1 q4 q7 c μ) (hc : c < 512) (hx : LX x4 LL) (k : ∀ μ', lW z q1 q4 q7 (c + 1) μ' → wL_law_1855 z b K23 LL xs (some q1) (some q4) (some q7) x4 μ') : wL_law_1279 z b K23 LL xs (some q1) (some q4) (some q7) x4 μ := by
  obtain ⟨v1, v2, v3, v4, v5⟩ := hx
  obtain ⟨ad, nm, A, L, F, I, K, kk, μr, am, nn, n, J, d, X, rfl, hfix, hE, hR, hn, hv, h60⟩ := hW
  have hR0 := hR
  obtain ⟨e1, hM, e4, hd, hz, -⟩ := hR0
  subst e1
  subst e4
  have es := lr_es (z := z) (ad := ad) (A := A) (L := L) (F := F) (I := I) (y := J 1) (K := K) (k := kk) hd hfix
  have same : ∀ v, lW z (ad (0, 0)) (am 0) q7 (c + 1) (mM am nn (upd n 3 v) I J (cM z ad nm A L F I (J 1) K kk μr)) := fun v => lw_mk hE hR (nOk_3 hn) rfl (lV_c hv) h60
  have hA10 : A ≤ 10 := hE.2.1
  have hL6 : L ≤ 6 := hE.2.2.1
  have hF20 : F ≤ 20 := hE.2.2.2.1
  unfold wL_law_1279
  generalize xs (Int32.toNatClampNeg (x4 + (1 : Int32))) = a1
  refine ⟨v1, ?_⟩
  unfold wL_total wL_total_0
  refine ⟨_, ⟨rfl, ch0 hE.1⟩, ?_⟩
  refine c_total hE (fun i hi ei => ?_) (fun nr => e11 ?_)
  · have r : 0 ≤ a1 ∧ a1 < n 0 := by rw [hn.1, ei]; exact ⟨nI_pos' (by omega), nI_lt hi (by omega)⟩
    refine lw_put hR hfix (fun μ2 hR2 hq2 => ⟨v1, am 0, ⟨rfl, mhere hM⟩, ?_⟩)
    refine m_total hM hn.1 hA10 hE.2.2.2.2.1 (fun j hj ej => ?_) (fun nr => absurd r nr)
    have eij := ixe (by omega) (by omega) ei ej
    subst eij
    exact tl_s hM rfl (lr_get hR2 hq2) (k _ (lw_mk hE hR2 (nOk_3 hn) rfl (lV_c hv) h60))
  · rw [← hn.1] at nr
    rw [es]
    exact ⟨v1, am 0, ⟨rfl, mhere hM⟩, m_total hM hn.1 hA10 hE.2.2.2.2.1 (fun j hj ej => absurd (show 0 ≤ a1 ∧ a1 < n 0 by rw [hn.1, ej]; exact ⟨nI_pos' (by omega), nI_lt hj (by omega)⟩) nr) (fun _ => tl_e hM rfl (by decide) (k _ (same _)))⟩
theorem lw_drawn (hW : lW z q1 q4 q7 c μ) (hc : c < 512) (hx : LX x4 LL) (k : ∀ μ', lW z q1 q4 q7 (c + 1) μ' → wL_law_1855 z b K23 LL xs (some q1) (some q4) (some q7) x4 μ') : wL_law_1389 z b K23 LL xs (some q1) (some q4) (some q7) x4 μ := by
  obtain ⟨v1, v2, v3, v4, v5⟩ := hx
  obtain ⟨ad, nm, A, L, F, I, K, kk, μr, am, nn, n, J, d, X, rfl, hfix, hE, hR, hn, hv, h60⟩ := hW
  have hR0 := hR
  obtain ⟨e1, hM, e4, hd, hz, -⟩ := hR0
  subst e1
  subst e4
  have es := lr_es (z := z) (ad := ad) (A := A) (L := L) (F := F) (I := I) (y := J 1) (K := K) (k := kk) hd hfix
  have same : ∀ v, lW z (ad (0, 0)) (am 0) q7 (c + 1) (mM am nn (upd n 3 v) I J (cM z ad nm A L F I (J 1) K kk μr)) := fun v => lw_mk hE hR (nOk_3 hn) rfl (lV_c hv) h60
  have hA10 : A ≤ 10 := hE.2.1
  have hL6 : L ≤ 6 := hE.2.2.1
  have hF20 : F ≤ 20 := hE.2.2.2.1
  unfold wL_law_1389
  generalize xs (Int32.toNatClampNeg (x4 + (1 : Int32))) = a1
  refine ⟨v1, ?_⟩
  unfold wL_drawn wL_drawn_0
  refine ⟨_, ⟨rfl, ch0 hE.1⟩, ?_⟩
  refine c_drawn hE (fun i hi ei => ?_) (fun nr => e11 ?_)
  · have r : 0 ≤ a1 ∧ a1 < n 1 := by rw [hn.2.1, ei]; exact ⟨nI_pos' (by omega), nI_lt hi (by omega)⟩
    refine lw_put hR hfix (fun μ2 hR2 hq2 => ⟨v1, am 0, ⟨rfl, mhere hM⟩, ?_⟩)
    refine m_drawn hM hn.2.1 hL6 (fun j hj ej => ?_) (fun nr => absurd r nr)
    have eij := ixe (by omega) (by omega) ei ej
    subst eij
    exact tl_s hM rfl (lr_get hR2 hq2) (k _ (lw_mk hE hR2 (nOk_3 hn) rfl (lV_c hv) h60))
  · rw [← hn.2.1] at nr
    rw [es]
    exact ⟨v1, am 0, ⟨rfl, mhere hM⟩, m_drawn hM hn.2.1 hL6 (fun j hj ej => absurd (show 0 ≤ a1 ∧ a1 < n 1 by rw [hn.2.1, ej]; exact ⟨nI_pos' (by omega), nI_lt hj (by omega)⟩) nr) (fun _ => tl_e hM rfl (by decide) (k _ (same _)))⟩
theorem lw_costOf (hW : lW z q1 q4 q7 c μ) (hc : c < 512) (hx : LX x4 LL) (k : ∀ μ', lW z q1 q4 q7 (c + 1) μ' → wL_law_1855 z b K23 LL xs (some q1) (some q4) (some q7) x4 μ') : wL_law_1445 z b K23 LL xs (some q1) (some q4) (some q7) x4 μ := by
  obtain ⟨v1, v2, v3, v4, v5⟩ := hx
  obtain ⟨ad, nm, A, L, F, I, K, kk, μr, am, nn, n, J, d, X, rfl, hfix, hE, hR, hn, hv, h60⟩ := hW
  have hR0 := hR
  obtain ⟨e1, hM, e4, hd, hz, -⟩ := hR0
  subst e1
  subst e4
  have es := lr_es (z := z) (ad := ad) (A := A) (L := L) (F := F) (I := I) (y := J 1) (K := K) (k := kk) hd hfix
  have same : ∀ v, lW z (ad (0, 0)) (am 0) q7 (c + 1) (mM am nn (upd n 3 v) I J (cM z ad nm A L F I (J 1) K kk μr)) := fun v => lw_mk hE hR (nOk_3 hn) rfl (lV_c hv) h60
  have hA10 : A ≤ 10 := hE.2.1
  have hL6 : L ≤ 6 := hE.2.2.1
  have hF20 : F ≤ 20 := hE.2.2.2.1
  unfold wL_law_1445
  generalize xs (Int32.toNatClampNeg (x4 + (1 : Int32))) = a1
  refine ⟨v1, ?_⟩
  unfold wL_costOf wL_costOf_0
  refine ⟨_, ⟨rfl, ch0 hE.1⟩, ?_⟩
  refine c_costOf hE (fun i hi ei => ?_) (fun nr => e11 ?_)
  · have r : 0 ≤ a1 ∧ a1 < n 1 := by rw [hn.2.1, ei]; exact ⟨nI_pos' (by omega), nI_lt hi (by omega)⟩
    refine lw_put hR hfix (fun μ2 hR2 hq2 => ⟨v1, am 0, ⟨rfl, mhere hM⟩, ?_⟩)
    refine m_costOf hM hn.2.1 hL6 (fun j hj ej => ?_) (fun nr => absurd r nr)
    have eij := ixe (by omega) (by omega) ei ej
    subst eij
    exact tl_s hM rfl (lr_get hR2 hq2) (k _ (lw_mk hE hR2 (nOk_3 hn) rfl (lV_c hv) h60))
  · rw [← hn.2.1] at nr
    rw [es]
    exact ⟨v1, am 0, ⟨rfl, mhere hM⟩, m_costOf hM hn.2.1 hL6 (fun j hj ej => absurd (show 0 ≤ a1 ∧ a1 < n 1 by rw [hn.2.1, ej]; exact ⟨nI_pos' (by omega), nI_lt hj (by omega)⟩) nr) (fun _ => tl_e hM rfl (by decide) (k _ (same _)))⟩
theorem lw_interestOf (hW : lW z q1 q4 q7 c μ) (hc : c < 512) (hx : LX x4 LL) (k : ∀ μ', lW z q1 q4 q7 (c + 1) μ' → wL_law_1855 z b K23 LL xs (some q1) (some q4) (some q7) x4 μ') : wL_law_1500 z b K23 LL xs (some q1) (some q4) (some q7) x4 μ := by
  obtain ⟨v1, v2, v3, v4, v5⟩ := hx
  obtain ⟨ad, nm, A, L, F, I, K, kk, μr, am, nn, n, J, d, X, rfl, hfix, hE, hR, hn, hv, h60⟩ := hW
  have hR0 := hR
  obtain ⟨e1, hM, e4, hd, hz, -⟩ := hR0
  subst e1
  subst e4
  have es := lr_es (z := z) (ad := ad) (A := A) (L := L) (F := F) (I := I) (y := J 1) (K := K) (k := kk) hd hfix
  have same : ∀ v, lW z (ad (0, 0)) (am 0) q7 (c + 1) (mM am nn (upd n 3 v) I J (cM z ad nm A L F I (J 1) K kk μr)) := fun v => lw_mk hE hR (nOk_3 hn) rfl (lV_c hv) h60
  have hA10 : A ≤ 10 := hE.2.1
  have hL6 : L ≤ 6 := hE.2.2.1
  have hF20 : F ≤ 20 := hE.2.2.2.1
  unfold wL_law_1500
  generalize xs (Int32.toNatClampNeg (x4 + (1 : Int32))) = a1
  refine ⟨v1, ?_⟩
  unfold wL_interestOf wL_interestOf_0
  refine ⟨_, ⟨rfl, ch0 hE.1⟩, ?_⟩
  refine c_interestOf hE (fun i hi ei => ?_) (fun nr => e11 ?_)
  · have r : 0 ≤ a1 ∧ a1 < n 0 := by rw [hn.1, ei]; exact ⟨nI_pos' (by omega), nI_lt hi (by omega)⟩
    refine lw_put hR hfix (fun μ2 hR2 hq2 => ⟨v1, am 0, ⟨rfl, mhere hM⟩, ?_⟩)
    refine m_interestOf hM hn.1 hA10 (fun j hj ej => ?_) (fun nr => absurd r nr)
    have eij := ixe (by omega) (by omega) ei ej
    subst eij
    exact tl_s hM rfl (lr_get hR2 hq2) (k _ (lw_mk hE hR2 (nOk_3 hn) rfl (lV_c hv) h60))
  · rw [← hn.1] at nr
    rw [es]
    exact ⟨v1, am 0, ⟨rfl, mhere hM⟩, m_interestOf hM hn.1 hA10 (fun j hj ej => absurd (show 0 ≤ a1 ∧ a1 < n 0 by rw [hn.1, ej]; exact ⟨nI_pos' (by omega), nI_lt hj (by omega)⟩) nr) (fun _ => tl_e hM rfl (by decide) (k _ (same _)))⟩
theorem lw_scheduled (hW : lW z q1 q4 q7 c μ) (hc : c < 512) (hx : LX x4 LL) (k : ∀ μ', lW z q1 q4 q7 (c + 1) μ' → wL_law_1855 z b K23 LL xs (some q1) (some q4) (some q7) x4 μ') : wL_law_1076 z b K23 LL xs (some q1) (some q4) (some q7) x4 μ := by
  obtain ⟨v1, v2, v3, v4, v5⟩ := hx
  obtain ⟨ad, nm, A, L, F, I, K, kk, μr, am, nn, n, J, d, X, rfl, hfix, hE, hR, hn, hv, h60⟩ := hW
  have hR0 := hR
  obtain ⟨e1, hM, e4, hd, hz, -⟩ := hR0
  subst e1
  subst e4
  have es := lr_es (z := z) (ad := ad) (A := A) (L := L) (F := F) (I := I) (y := J 1) (K := K) (k := kk) hd hfix
  have same : ∀ v, lW z (ad (0, 0)) (am 0) q7 (c + 1) (mM am nn (upd n 3 v) I J (cM z ad nm A L F I (J 1) K kk μr)) := fun v => lw_mk hE hR (nOk_3 hn) rfl (lV_c hv) h60
  have hA10 : A ≤ 10 := hE.2.1
  have hL6 : L ≤ 6 := hE.2.2.1
  have hF20 : F ≤ 20 := hE.2.2.2.1
  unfold wL_law_1076
  generalize xs (Int32.toNatClampNeg (x4 + (1 : Int32))) = a1
  generalize xs (Int32.toNatClampNeg (x4 + (2 : Int32))) = a2
  generalize xs (Int32.toNatClampNeg (x4 + (3 : Int32))) = a3
  refine ⟨v1, v2, v3, ?_⟩
  unfold wL_scheduled wL_scheduled_0
  refine ⟨_, ⟨rfl, ch0 hE.1⟩, ?_⟩
  refine c_scheduled hE hv.2.2.2.1 hv.2.2.1.2.2.2 (fun i hi ei P => ?_) (fun nr => e21 sIA ?_) (fun r nP => e22 sAI ?_)
  · have r : 0 ≤ a1 ∧ a1 < n 0 := by rw [hn.1, ei]; exact ⟨nI_pos' (by omega), nI_lt hi (by omega)⟩
    refine lw_put hR hfix (fun μ2 hR2 hq2 => ⟨v1, v2, v3, am 0, ⟨rfl, mhere hM⟩, ?_⟩)
    refine m_scheduled hM hn.1 hA10 hn.2.2 hF20 hE.2.2.2.2.2.2.2.2.1 hv.2.2.2.1 (show d ≤ 450 by have := hv.1; omega) hv.2.2.1.2.2.2 (fun j hj ej _ => ?_) (fun nr => absurd r nr) (fun _ nP => absurd P nP)
    have eij := ixe (by omega) (by omega) ei ej
    subst eij
    exact tl_s hM rfl (lr_get hR2 hq2) (k _ (lw_mk hE hR2 (nOk_3 hn) rfl (lV_c hv) h60))
  · rw [← hn.1] at nr
    rw [es]
    exact ⟨v1, v2, v3, am 0, ⟨rfl, mhere hM⟩, m_scheduled hM hn.1 hA10 hn.2.2 hF20 hE.2.2.2.2.2.2.2.2.1 hv.2.2.2.1 (show d ≤ 450 by have := hv.1; omega) hv.2.2.1.2.2.2 (fun j hj ej _ => absurd (show 0 ≤ a1 ∧ a1 < n 0 by rw [hn.1, ej]; exact ⟨nI_pos' (by omega), nI_lt hj (by omega)⟩) nr) (fun _ => tl_e hM rfl (by decide) (k _ (same _))) (fun r _ => absurd r nr)⟩
  · rw [← hn.1] at r
    rw [es]
    exact ⟨v1, v2, v3, am 0, ⟨rfl, mhere hM⟩, m_scheduled hM hn.1 hA10 hn.2.2 hF20 hE.2.2.2.2.2.2.2.2.1 hv.2.2.2.1 (show d ≤ 450 by have := hv.1; omega) hv.2.2.1.2.2.2 (fun j hj ej P => absurd P nP) (fun nr => absurd r nr) (fun _ _ => tl_e hM rfl (by decide) (k _ (same _)))⟩
theorem lw_exposure (hW : lW z q1 q4 q7 c μ) (hc : c < 512) (hx : LX x4 LL) (k : ∀ μ', lW z q1 q4 q7 (c + 1) μ' → wL_law_1855 z b K23 LL xs (some q1) (some q4) (some q7) x4 μ') : wL_law_1334 z b K23 LL xs (some q1) (some q4) (some q7) x4 μ := by
  obtain ⟨v1, v2, v3, v4, v5⟩ := hx
  obtain ⟨ad, nm, A, L, F, I, K, kk, μr, am, nn, n, J, d, X, rfl, hfix, hE, hR, hn, hv, h60⟩ := hW
  have hR0 := hR
  obtain ⟨e1, hM, e4, hd, hz, -⟩ := hR0
  subst e1
  subst e4
  have es := lr_es (z := z) (ad := ad) (A := A) (L := L) (F := F) (I := I) (y := J 1) (K := K) (k := kk) hd hfix
  have same : ∀ v, lW z (ad (0, 0)) (am 0) q7 (c + 1) (mM am nn (upd n 3 v) I J (cM z ad nm A L F I (J 1) K kk μr)) := fun v => lw_mk hE hR (nOk_3 hn) rfl (lV_c hv) h60
  have hA10 : A ≤ 10 := hE.2.1
  have hL6 : L ≤ 6 := hE.2.2.1
  have hF20 : F ≤ 20 := hE.2.2.2.1
  unfold wL_law_1334
  generalize xs (Int32.toNatClampNeg (x4 + (1 : Int32))) = a1
  refine ⟨v1, ?_⟩
  unfold wL_exposure wL_exposure_0
  refine ⟨_, ⟨rfl, ch0 hE.1⟩, ?_⟩
  refine c_exposure hE (fun i hi ei => ?_) (fun nP => e11 ?_)
  · have r : 0 ≤ a1 ∧ a1 ≤ 3 := by rw [ei]; exact ⟨nI_pos' (by omega), nI_le (b := 3) (by omega) (by decide)⟩
    refine lw_put hR hfix (fun μ2 hR2 hq2 => ⟨v1, am 0, ⟨rfl, mhere hM⟩, ?_⟩)
    refine m_exposure hM hn.1 hA10 (fun j hj ej => ?_) (fun nP => absurd r nP)
    have eij := ixe (by omega) (by omega) ei ej
    subst eij
    exact tl_s hM rfl (lr_get hR2 hq2) (k _ (lw_mk hE hR2 (nOk_3 hn) rfl (lV_c hv) (h6_K h60 (fun b => by unfold mK; rw [if_neg (by omega)]))))
  · rw [es]
    exact ⟨v1, am 0, ⟨rfl, mhere hM⟩, m_exposure hM hn.1 hA10 (fun j hj ej => absurd (show 0 ≤ a1 ∧ a1 ≤ 3 by rw [ej]; exact ⟨nI_pos' (by omega), nI_le (b := 3) (by omega) (by decide)⟩) nP) (fun _ => tl_e hM rfl (by decide) (k _ (same _)))⟩
theorem lw_poolInterest (hW : lW z q1 q4 q7 c μ) (hc : c < 512) (hx : LX x4 LL) (k : ∀ μ', lW z q1 q4 q7 (c + 1) μ' → wL_law_1855 z b K23 LL xs (some q1) (some q4) (some q7) x4 μ') : wL_law_1555 z b K23 LL xs (some q1) (some q4) (some q7) x4 μ := by
  obtain ⟨v1, v2, v3, v4, v5⟩ := hx
  obtain ⟨ad, nm, A, L, F, I, K, kk, μr, am, nn, n, J, d, X, rfl, hfix, hE, hR, hn, hv, h60⟩ := hW
  have hR0 := hR
  obtain ⟨e1, hM, e4, hd, hz, -⟩ := hR0
  subst e1
  subst e4
  have es := lr_es (z := z) (ad := ad) (A := A) (L := L) (F := F) (I := I) (y := J 1) (K := K) (k := kk) hd hfix
  have same : ∀ v, lW z (ad (0, 0)) (am 0) q7 (c + 1) (mM am nn (upd n 3 v) I J (cM z ad nm A L F I (J 1) K kk μr)) := fun v => lw_mk hE hR (nOk_3 hn) rfl (lV_c hv) h60
  have hA10 : A ≤ 10 := hE.2.1
  have hL6 : L ≤ 6 := hE.2.2.1
  have hF20 : F ≤ 20 := hE.2.2.2.1
  unfold wL_law_1555
  generalize xs (Int32.toNatClampNeg (x4 + (1 : Int32))) = a1
  refine ⟨v1, ?_⟩
  unfold wL_poolInterest wL_poolInterest_0
  refine ⟨_, ⟨rfl, ch0 hE.1⟩, ?_⟩
  refine c_poolInterest hE h60 (fun i hi ei tp => ?_) (fun nr => e21 sIS ?_) (fun i hi ei np => e22 sSI ?_)
  · have r : 0 ≤ a1 ∧ a1 < n 0 := by rw [hn.1, ei]; exact ⟨nI_pos' (by omega), nI_lt hi (by omega)⟩
    refine lw_put hR hfix (fun μ2 hR2 hq2 => ⟨v1, am 0, ⟨rfl, mhere hM⟩, ?_⟩)
    refine m_poolInterest hM hn.1 hA10 (fun j hj ej _ => ?_) (fun nr => absurd r nr) (fun j hj ej np => absurd (ixe (by omega) (by omega) ei ej) (fun eij => by subst eij; exact np tp))
    have eij := ixe (by omega) (by omega) ei ej
    subst eij
    exact tl_s hM rfl (lr_get hR2 hq2) (k _ (lw_mk hE hR2 (nOk_3 hn) rfl (lV_c hv) h60))
  · rw [← hn.1] at nr
    rw [es]
    exact ⟨v1, am 0, ⟨rfl, mhere hM⟩, m_poolInterest hM hn.1 hA10 (fun j hj ej _ => absurd (show 0 ≤ a1 ∧ a1 < n 0 by rw [hn.1, ej]; exact ⟨nI_pos' (by omega), nI_lt hj (by omega)⟩) nr) (fun _ => tl_e hM rfl (by decide) (k _ (same _))) (fun j hj ej _ => absurd (show 0 ≤ a1 ∧ a1 < n 0 by rw [hn.1, ej]; exact ⟨nI_pos' (by omega), nI_lt hj (by omega)⟩) nr)⟩
  · have r : 0 ≤ a1 ∧ a1 < n 0 := by rw [hn.1, ei]; exact ⟨nI_pos' (by omega), nI_lt hi (by omega)⟩
    rw [es]
    exact ⟨v1, am 0, ⟨rfl, mhere hM⟩, m_poolInterest hM hn.1 hA10 (fun j hj ej tp => absurd (ixe (by omega) (by omega) ei ej) (fun eij => by subst eij; exact np tp)) (fun nr => absurd r nr) (fun _ _ _ _ => tl_e hM rfl (by decide) (k _ (same _)))⟩
theorem lw_today (hW : lW z q1 q4 q7 c μ) (k : ∀ μ', lW z q1 q4 q7 (c + 1) μ' → wL_law_1855 z b K23 LL xs (some q1) (some q4) (some q7) x4 μ') : wL_law_612 z b K23 LL xs (some q1) (some q4) (some q7) x4 μ := by
  obtain ⟨ad, nm, A, L, F, I, K, kk, μr, am, nn, n, J, d, X, rfl, hfix, hE, hR, hn, hv, h60⟩ := hW
  have hR0 := hR
  obtain ⟨e1, hM, e4, hd, hz, -⟩ := hR0
  subst e1
  subst e4
  unfold wL_law_612
  refine ⟨_, ⟨rfl, ch0 hE.1⟩, c_today hE ?_⟩
  rw [lr_es (z := z) (ad := ad) (A := A) (L := L) (F := F) (I := I) (y := J 1) (K := K) (k := kk) hd hfix]
  exact ⟨am 0, ⟨rfl, mhere hM⟩, m_today hM ⟨fun _ => k _ (lw_mk hE hR (nOk_3 hn) rfl (lV_c hv) h60), fun e => absurd rfl e⟩⟩
theorem lw_accounts (hW : lW z q1 q4 q7 c μ) (k : ∀ μ', lW z q1 q4 q7 (c + 1) μ' → wL_law_1855 z b K23 LL xs (some q1) (some q4) (some q7) x4 μ') : wL_law_1155 z b K23 LL xs (some q1) (some q4) (some q7) x4 μ := by
  obtain ⟨ad, nm, A, L, F, I, K, kk, μr, am, nn, n, J, d, X, rfl, hfix, hE, hR, hn, hv, h60⟩ := hW
  have hR0 := hR
  obtain ⟨e1, hM, e4, hd, hz, -⟩ := hR0
  subst e1
  subst e4
  unfold wL_law_1155
  refine ⟨_, ⟨rfl, ch0 hE.1⟩, c_accounts hE ?_⟩
  rw [lr_es (z := z) (ad := ad) (A := A) (L := L) (F := F) (I := I) (y := J 1) (K := K) (k := kk) hd hfix]
  exact ⟨am 0, ⟨rfl, mhere hM⟩, m_accounts hM ⟨fun _ => k _ (lw_mk hE hR (nOk_3 hn) rfl (lV_c hv) h60), fun e => absurd hn.1.symm e⟩⟩
end LC
