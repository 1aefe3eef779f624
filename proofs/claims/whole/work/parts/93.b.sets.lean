/-! ===== the law's calls: sets ===== -/
section LC
variable {z : Nat × Nat} {q1 q4 q7 c b LL : Nat} {μ : jM} {K23 : Option Nat → Option Nat → Option Nat → Int32 → jM → Prop} {xs : Nat → Int32} {x4 : Int32}
theorem lw_setRule (hW : lW z q1 q4 q7 c μ) (hc : c < 512) (hx : LX x4 LL) (k : ∀ μ', lW z q1 q4 q7 (c + 1) μ' → wL_law_1855 z b K23 LL xs (some q1) (some q4) (some q7) x4 μ') : wL_law_316 z b K23 LL xs (some q1) (some q4) (some q7) x4 μ := by
  obtain ⟨v1, v2, v3, v4, v5⟩ := hx
  obtain ⟨ad, nm, A, L, F, I, K, kk, μr, am, nn, n, J, d, X, rfl, hfix, hE, hR, hn, hv, h60⟩ := hW
  have hR0 := hR
  obtain ⟨e1, hM, e4, hd, hz, -⟩ := hR0
  subst e1
  subst e4
  have es := lr_es (z := z) (ad := ad) (A := A) (L := L) (F := F) (I := I) (y := J 1) (K := K) (k := kk) hd hfix
  have same : ∀ v, lW z (ad (0, 0)) (am 0) q7 (c + 1) (mM am nn (upd n 3 v) I J (cM z ad nm A L F I (J 1) K kk μr)) := fun v => lw_mk hE hR (nOk_3 hn) rfl (lV_c hv) h60
  have hA10 : A ≤ 10 := hE.2.1
  have hL6 : L ≤ 6 := hE.2.2.1
  have hF20 : F ≤ 20 := hE.2.2.2.1
  unfold wL_law_316
  generalize xs (Int32.toNatClampNeg (x4 + (1 : Int32))) = a1
  generalize xs (Int32.toNatClampNeg (x4 + (2 : Int32))) = a2
  generalize xs (Int32.toNatClampNeg (x4 + (3 : Int32))) = a3
  refine ⟨v1, v2, v3, ?_⟩
  unfold wL_setRule wL_setRule_0
  refine ⟨_, ⟨rfl, ch0 hE.1⟩, ?_⟩
  refine c_setRule hE (fun i hi ei P np => ?_) (fun nr => e31 sIA sIS ?_) (fun r nP => e32 sAI sAS ?_) (fun i hi ei P tp => e33 sSI sSA ?_)
  · have r : 0 ≤ a1 ∧ a1 < n 0 := by rw [hn.1, ei]; exact ⟨nI_pos' (by omega), nI_lt hi (by omega)⟩
    refine lw_put hR hfix (fun μ2 hR2 hq2 => ⟨v1, v2, v3, am 0, ⟨rfl, mhere hM⟩, ?_⟩)
    refine m_setRule hM hn.1 hA10 (fun j hj ej _ _ => ?_) (fun nr => absurd r nr) (fun _ nP => absurd P nP) (fun j hj ej _ tp => absurd (ixe (by omega) (by omega) ei ej) (fun eij => by subst eij; exact np tp))
    have eij := ixe (by omega) (by omega) ei ej
    subst eij
    have hv' := lV_rule hv hj np P.1 P.2
    have s : sI I (upR (upR I 6 (upd (I 6) j a2)) 7 (upd (I 7) j a3)) := fun r h6 h7 _ _ _ _ => by rw [upR_o h7, upR_o h6]
    exact tl_s hM rfl (lr_get hR2 hq2) (k _ (lw_mk (cE_s s hE hv'.2.1.1) hR2 (nOk_3 hn) rfl hv' (h6_3 h60 s.r3)))
  · rw [← hn.1] at nr
    rw [es]
    exact ⟨v1, v2, v3, am 0, ⟨rfl, mhere hM⟩, m_setRule hM hn.1 hA10 (fun j hj ej _ _ => absurd (show 0 ≤ a1 ∧ a1 < n 0 by rw [hn.1, ej]; exact ⟨nI_pos' (by omega), nI_lt hj (by omega)⟩) nr) (fun _ => tl_e hM rfl (by decide) (k _ (same _))) (fun r _ => absurd r nr) (fun j hj ej _ _ => absurd (show 0 ≤ a1 ∧ a1 < n 0 by rw [hn.1, ej]; exact ⟨nI_pos' (by omega), nI_lt hj (by omega)⟩) nr)⟩
  · rw [← hn.1] at r
    rw [es]
    exact ⟨v1, v2, v3, am 0, ⟨rfl, mhere hM⟩, m_setRule hM hn.1 hA10 (fun j hj ej P _ => absurd P nP) (fun nr => absurd r nr) (fun _ _ => tl_e hM rfl (by decide) (k _ (same _))) (fun j hj ej P _ => absurd P nP)⟩
  · have r : 0 ≤ a1 ∧ a1 < n 0 := by rw [hn.1, ei]; exact ⟨nI_pos' (by omega), nI_lt hi (by omega)⟩
    rw [es]
    exact ⟨v1, v2, v3, am 0, ⟨rfl, mhere hM⟩, m_setRule hM hn.1 hA10 (fun j hj ej _ np => absurd (ixe (by omega) (by omega) ei ej) (fun eij => by subst eij; exact np tp)) (fun nr => absurd r nr) (fun _ nP => absurd P nP) (fun _ _ _ _ _ => tl_e hM rfl (by decide) (k _ (same _)))⟩
theorem lw_setFloor (hW : lW z q1 q4 q7 c μ) (hc : c < 512) (hx : LX x4 LL) (k : ∀ μ', lW z q1 q4 q7 (c + 1) μ' → wL_law_1855 z b K23 LL xs (some q1) (some q4) (some q7) x4 μ') : wL_law_396 z b K23 LL xs (some q1) (some q4) (some q7) x4 μ := by
  obtain ⟨v1, v2, v3, v4, v5⟩ := hx
  obtain ⟨ad, nm, A, L, F, I, K, kk, μr, am, nn, n, J, d, X, rfl, hfix, hE, hR, hn, hv, h60⟩ := hW
  have hR0 := hR
  obtain ⟨e1, hM, e4, hd, hz, -⟩ := hR0
  subst e1
  subst e4
  have es := lr_es (z := z) (ad := ad) (A := A) (L := L) (F := F) (I := I) (y := J 1) (K := K) (k := kk) hd hfix
  have same : ∀ v, lW z (ad (0, 0)) (am 0) q7 (c + 1) (mM am nn (upd n 3 v) I J (cM z ad nm A L F I (J 1) K kk μr)) := fun v => lw_mk hE hR (nOk_3 hn) rfl (lV_c hv) h60
  have hA10 : A ≤ 10 := hE.2.1
  have hL6 : L ≤ 6 := hE.2.2.1
  have hF20 : F ≤ 20 := hE.2.2.2.1
  unfold wL_law_396
  generalize xs (Int32.toNatClampNeg (x4 + (1 : Int32))) = a1
  generalize xs (Int32.toNatClampNeg (x4 + (2 : Int32))) = a2
  refine ⟨v1, v2, ?_⟩
  unfold wL_setFloor wL_setFloor_0
  refine ⟨_, ⟨rfl, ch0 hE.1⟩, ?_⟩
  refine c_setFloor hE (fun i hi ei P => ?_) (fun nr => e21 sIA ?_) (fun r nP => e22 sAI ?_)
  · have r : 0 ≤ a1 ∧ a1 < n 0 := by rw [hn.1, ei]; exact ⟨nI_pos' (by omega), nI_lt hi (by omega)⟩
    refine lw_put hR hfix (fun μ2 hR2 hq2 => ⟨v1, v2, am 0, ⟨rfl, mhere hM⟩, ?_⟩)
    refine m_setFloor hM hn.1 hA10 (fun j hj ej _ => ?_) (fun nr => absurd r nr) (fun _ nP => absurd P nP)
    have eij := ixe (by omega) (by omega) ei ej
    subst eij
    have hv' := lV_floor hv hj P
    have s : sI I (upR I 8 (upd (I 8) j a2)) := sI_up (by decide)
    exact tl_s hM rfl (lr_get hR2 hq2) (k _ (lw_mk (cE_s s hE hv'.2.1.1) hR2 (nOk_3 hn) rfl hv' (h6_3 h60 s.r3)))
  · rw [← hn.1] at nr
    rw [es]
    exact ⟨v1, v2, am 0, ⟨rfl, mhere hM⟩, m_setFloor hM hn.1 hA10 (fun j hj ej _ => absurd (show 0 ≤ a1 ∧ a1 < n 0 by rw [hn.1, ej]; exact ⟨nI_pos' (by omega), nI_lt hj (by omega)⟩) nr) (fun _ => tl_e hM rfl (by decide) (k _ (same _))) (fun r _ => absurd r nr)⟩
  · rw [← hn.1] at r
    rw [es]
    exact ⟨v1, v2, am 0, ⟨rfl, mhere hM⟩, m_setFloor hM hn.1 hA10 (fun j hj ej P => absurd P nP) (fun nr => absurd r nr) (fun _ _ => tl_e hM rfl (by decide) (k _ (same _)))⟩
theorem lw_setBankLimit (hW : lW z q1 q4 q7 c μ) (hc : c < 512) (hx : LX x4 LL) (k : ∀ μ', lW z q1 q4 q7 (c + 1) μ' → wL_law_1855 z b K23 LL xs (some q1) (some q4) (some q7) x4 μ') : wL_law_544 z b K23 LL xs (some q1) (some q4) (some q7) x4 μ := by
  obtain ⟨v1, v2, v3, v4, v5⟩ := hx
  obtain ⟨ad, nm, A, L, F, I, K, kk, μr, am, nn, n, J, d, X, rfl, hfix, hE, hR, hn, hv, h60⟩ := hW
  have hR0 := hR
  obtain ⟨e1, hM, e4, hd, hz, -⟩ := hR0
  subst e1
  subst e4
  have es := lr_es (z := z) (ad := ad) (A := A) (L := L) (F := F) (I := I) (y := J 1) (K := K) (k := kk) hd hfix
  have same : ∀ v, lW z (ad (0, 0)) (am 0) q7 (c + 1) (mM am nn (upd n 3 v) I J (cM z ad nm A L F I (J 1) K kk μr)) := fun v => lw_mk hE hR (nOk_3 hn) rfl (lV_c hv) h60
  have hA10 : A ≤ 10 := hE.2.1
  have hL6 : L ≤ 6 := hE.2.2.1
  have hF20 : F ≤ 20 := hE.2.2.2.1
  unfold wL_law_544
  generalize xs (Int32.toNatClampNeg (x4 + (1 : Int32))) = a1
  generalize xs (Int32.toNatClampNeg (x4 + (2 : Int32))) = a2
  refine ⟨v1, v2, ?_⟩
  unfold wL_setBankLimit wL_setBankLimit_0
  refine ⟨_, ⟨rfl, ch0 hE.1⟩, ?_⟩
  refine c_setBankLimit hE (fun i hi ei P => ?_) (fun nP => e11 ?_)
  · have r : 0 ≤ a1 ∧ a1 ≤ 3 := by rw [ei]; exact ⟨nI_pos' (by omega), nI_le (b := 3) (by omega) (by decide)⟩
    refine lw_put hR hfix (fun μ2 hR2 hq2 => ⟨v1, v2, am 0, ⟨rfl, mhere hM⟩, ?_⟩)
    refine m_setBankLimit hM (fun j hj ej _ => ?_) (fun nP => absurd ⟨r, P⟩ nP)
    have eij := ixe (by omega) (by omega) ei ej
    subst eij
    have hv' := lV_lim hv (g := upd (I 14) j a2)
    have s : sI I (upR I 14 (upd (I 14) j a2)) := sI_up (by decide)
    exact tl_s hM rfl (lr_get hR2 hq2) (k _ (lw_mk (cE_s s hE hv'.2.1.1) hR2 (nOk_3 hn) rfl hv' (h6_3 h60 s.r3)))
  · rw [es]
    exact ⟨v1, v2, am 0, ⟨rfl, mhere hM⟩, m_setBankLimit hM (fun j hj ej P => absurd ⟨show 0 ≤ a1 ∧ a1 ≤ 3 by rw [ej]; exact ⟨nI_pos' (by omega), nI_le (b := 3) (by omega) (by decide)⟩, P⟩ nP) (fun _ => tl_e hM rfl (by decide) (k _ (same _)))⟩
theorem lw_addHoliday (hW : lW z q1 q4 q7 c μ) (hc : c < 512) (hx : LX x4 LL) (k : ∀ μ', lW z q1 q4 q7 (c + 1) μ' → wL_law_1855 z b K23 LL xs (some q1) (some q4) (some q7) x4 μ') : wL_law_625 z b K23 LL xs (some q1) (some q4) (some q7) x4 μ := by
  obtain ⟨v1, v2, v3, v4, v5⟩ := hx
  obtain ⟨ad, nm, A, L, F, I, K, kk, μr, am, nn, n, J, d, X, rfl, hfix, hE, hR, hn, hv, h60⟩ := hW
  have hR0 := hR
  obtain ⟨e1, hM, e4, hd, hz, -⟩ := hR0
  subst e1
  subst e4
  have es := lr_es (z := z) (ad := ad) (A := A) (L := L) (F := F) (I := I) (y := J 1) (K := K) (k := kk) hd hfix
  have same : ∀ v, lW z (ad (0, 0)) (am 0) q7 (c + 1) (mM am nn (upd n 3 v) I J (cM z ad nm A L F I (J 1) K kk μr)) := fun v => lw_mk hE hR (nOk_3 hn) rfl (lV_c hv) h60
  have hA10 : A ≤ 10 := hE.2.1
  have hL6 : L ≤ 6 := hE.2.2.1
  have hF20 : F ≤ 20 := hE.2.2.2.1
  unfold wL_law_625
  generalize xs (Int32.toNatClampNeg (x4 + (1 : Int32))) = a1
  refine ⟨v1, ?_⟩
  unfold wL_addHoliday wL_addHoliday_0
  refine ⟨_, ⟨rfl, ch0 hE.1⟩, ?_⟩
  refine c_addHoliday hE (fun i hi ei => ?_) (fun nP => e11 ?_)
  · have r : 0 ≤ a1 ∧ a1 ≤ 450 := by rw [ei]; exact ⟨nI_pos' (by omega), nI_le (b := 450) (by omega) (by decide)⟩
    refine lw_put hR hfix (fun μ2 hR2 hq2 => ⟨v1, am 0, ⟨rfl, mhere hM⟩, ?_⟩)
    refine m_addHoliday hM (fun j hj ej => ?_) (fun nP => absurd r nP)
    have eij := ixe (by omega) (by omega) ei ej
    subst eij
    have hv' := lV_hol hv hj
    have s : sI I (upR I 20 (upd (I 20) j 1)) := sI_up (by decide)
    exact tl_s hM rfl (lr_get hR2 hq2) (k _ (lw_mk (cE_s s hE hv'.2.1.1) hR2 (nOk_3 hn) rfl hv' (h6_3 h60 s.r3)))
  · rw [es]
    exact ⟨v1, am 0, ⟨rfl, mhere hM⟩, m_addHoliday hM (fun j hj ej => absurd (show 0 ≤ a1 ∧ a1 ≤ 450 by rw [ej]; exact ⟨nI_pos' (by omega), nI_le (b := 450) (by omega) (by decide)⟩) nP) (fun _ => tl_e hM rfl (by decide) (k _ (same _)))⟩
theorem lw_settlementDay (hW : lW z q1 q4 q7 c μ) (hc : c < 512) (hx : LX x4 LL) (k : ∀ μ', lW z q1 q4 q7 (c + 1) μ' → wL_law_1855 z b K23 LL xs (some q1) (some q4) (some q7) x4 μ') : wL_law_681 z b K23 LL xs (some q1) (some q4) (some q7) x4 μ := by
  obtain ⟨v1, v2, v3, v4, v5⟩ := hx
  obtain ⟨ad, nm, A, L, F, I, K, kk, μr, am, nn, n, J, d, X, rfl, hfix, hE, hR, hn, hv, h60⟩ := hW
  have hR0 := hR
  obtain ⟨e1, hM, e4, hd, hz, -⟩ := hR0
  subst e1
  subst e4
  have es := lr_es (z := z) (ad := ad) (A := A) (L := L) (F := F) (I := I) (y := J 1) (K := K) (k := kk) hd hfix
  have same : ∀ v, lW z (ad (0, 0)) (am 0) q7 (c + 1) (mM am nn (upd n 3 v) I J (cM z ad nm A L F I (J 1) K kk μr)) := fun v => lw_mk hE hR (nOk_3 hn) rfl (lV_c hv) h60
  have hA10 : A ≤ 10 := hE.2.1
  have hL6 : L ≤ 6 := hE.2.2.1
  have hF20 : F ≤ 20 := hE.2.2.2.1
  unfold wL_law_681
  generalize xs (Int32.toNatClampNeg (x4 + (1 : Int32))) = a1
  refine ⟨v1, ?_⟩
  unfold wL_settlementDay wL_settlementDay_0
  refine ⟨_, ⟨rfl, ch0 hE.1⟩, ?_⟩
  refine c_settlementDay hE (fun i hi ei => ?_) (fun nP => e11 ?_)
  · have r : 0 ≤ a1 ∧ a1 ≤ 450 := by rw [ei]; exact ⟨nI_pos' (by omega), nI_le (b := 450) (by omega) (by decide)⟩
    refine lw_put hR hfix (fun μ2 hR2 hq2 => ⟨v1, am 0, ⟨rfl, mhere hM⟩, ?_⟩)
    refine m_settlementDay hM (fun j hj ej => ?_) (fun nP => absurd r nP)
    have eij := ixe (by omega) (by omega) ei ej
    subst eij
    exact tl_s hM rfl (lr_get hR2 hq2) (k _ (lw_mk hE hR2 (nOk_3 hn) rfl (lV_c hv) h60))
  · rw [es]
    exact ⟨v1, am 0, ⟨rfl, mhere hM⟩, m_settlementDay hM (fun j hj ej => absurd (show 0 ≤ a1 ∧ a1 ≤ 450 by rw [ej]; exact ⟨nI_pos' (by omega), nI_le (b := 450) (by omega) (by decide)⟩) nP) (fun _ => tl_e hM rfl (by decide) (k _ (same _)))⟩
theorem lw_book (hW : lW z q1 q4 q7 c μ) (hc : c < 512) (hx : LX x4 LL) (k : ∀ μ', lW z q1 q4 q7 (c + 1) μ' → wL_law_1855 z b K23 LL xs (some q1) (some q4) (some q7) x4 μ') : wL_law_793 z b K23 LL xs (some q1) (some q4) (some q7) x4 μ := by
  obtain ⟨v1, v2, v3, v4, v5⟩ := hx
  obtain ⟨ad, nm, A, L, F, I, K, kk, μr, am, nn, n, J, d, X, rfl, hfix, hE, hR, hn, hv, h60⟩ := hW
  have hR0 := hR
  obtain ⟨e1, hM, e4, hd, hz, -⟩ := hR0
  subst e1
  subst e4
  have es := lr_es (z := z) (ad := ad) (A := A) (L := L) (F := F) (I := I) (y := J 1) (K := K) (k := kk) hd hfix
  have same : ∀ v, lW z (ad (0, 0)) (am 0) q7 (c + 1) (mM am nn (upd n 3 v) I J (cM z ad nm A L F I (J 1) K kk μr)) := fun v => lw_mk hE hR (nOk_3 hn) rfl (lV_c hv) h60
  have hA10 : A ≤ 10 := hE.2.1
  have hL6 : L ≤ 6 := hE.2.2.1
  have hF20 : F ≤ 20 := hE.2.2.2.1
  unfold wL_law_793
  generalize xs (Int32.toNatClampNeg (x4 + (1 : Int32))) = a1
  generalize xs (Int32.toNatClampNeg (x4 + (2 : Int32))) = a2
  refine ⟨v1, v2, ?_⟩
  unfold wL_book wL_book_0
  refine ⟨_, ⟨rfl, ch0 hE.1⟩, ?_⟩
  refine c_book hE (fun i hi ei P => ?_) (fun nr => e21 sIA ?_) (fun r nP => e22 sAI ?_)
  · have r : 0 ≤ a1 ∧ a1 < n 0 := by rw [hn.1, ei]; exact ⟨nI_pos' (by omega), nI_lt hi (by omega)⟩
    refine lw_put hR hfix (fun μ2 hR2 hq2 => ⟨v1, v2, am 0, ⟨rfl, mhere hM⟩, ?_⟩)
    refine m_book hM hn.1 hA10 (fun j hj ej _ => ?_) (fun nr => absurd r nr) (fun _ nP => absurd P nP)
    have eij := ixe (by omega) (by omega) ei ej
    subst eij
    exact tl_s hM rfl (lr_get hR2 hq2) (k _ (lw_mk hE hR2 (nOk_3 hn) rfl (lV_book hv (by omega) hj (i32_rng P.1 (by decide) (by decide))) (fun p hp => by rw [pk_uLn (by have := hp.1; omega)]; exact h60 p hp)))
  · rw [← hn.1] at nr
    rw [es]
    exact ⟨v1, v2, am 0, ⟨rfl, mhere hM⟩, m_book hM hn.1 hA10 (fun j hj ej _ => absurd (show 0 ≤ a1 ∧ a1 < n 0 by rw [hn.1, ej]; exact ⟨nI_pos' (by omega), nI_lt hj (by omega)⟩) nr) (fun _ => tl_e hM rfl (by decide) (k _ (same _))) (fun r _ => absurd r nr)⟩
  · rw [← hn.1] at r
    rw [es]
    exact ⟨v1, v2, am 0, ⟨rfl, mhere hM⟩, m_book hM hn.1 hA10 (fun j hj ej P => absurd P nP) (fun nr => absurd r nr) (fun _ _ => tl_e hM rfl (by decide) (k _ (same _)))⟩
theorem lw_cancel (hW : lW z q1 q4 q7 c μ) (hc : c < 512) (hx : LX x4 LL) (k : ∀ μ', lW z q1 q4 q7 (c + 1) μ' → wL_law_1855 z b K23 LL xs (some q1) (some q4) (some q7) x4 μ') : wL_law_964 z b K23 LL xs (some q1) (some q4) (some q7) x4 μ := by
  obtain ⟨v1, v2, v3, v4, v5⟩ := hx
  obtain ⟨ad, nm, A, L, F, I, K, kk, μr, am, nn, n, J, d, X, rfl, hfix, hE, hR, hn, hv, h60⟩ := hW
  have hR0 := hR
  obtain ⟨e1, hM, e4, hd, hz, -⟩ := hR0
  subst e1
  subst e4
  have es := lr_es (z := z) (ad := ad) (A := A) (L := L) (F := F) (I := I) (y := J 1) (K := K) (k := kk) hd hfix
  have same : ∀ v, lW z (ad (0, 0)) (am 0) q7 (c + 1) (mM am nn (upd n 3 v) I J (cM z ad nm A L F I (J 1) K kk μr)) := fun v => lw_mk hE hR (nOk_3 hn) rfl (lV_c hv) h60
  have hA10 : A ≤ 10 := hE.2.1
  have hL6 : L ≤ 6 := hE.2.2.1
  have hF20 : F ≤ 20 := hE.2.2.2.1
  unfold wL_law_964
  generalize xs (Int32.toNatClampNeg (x4 + (1 : Int32))) = a1
  refine ⟨v1, ?_⟩
  unfold wL_cancel wL_cancel_0
  refine ⟨_, ⟨rfl, ch0 hE.1⟩, ?_⟩
  refine c_cancel hE (fun i hi ei => ?_) (fun nr => e11 ?_)
  · have r : 0 ≤ a1 ∧ a1 < n 2 := by rw [hn.2.2, ei]; exact ⟨nI_pos' (by omega), nI_lt hi (by omega)⟩
    refine lw_put hR hfix (fun μ2 hR2 hq2 => ⟨v1, am 0, ⟨rfl, mhere hM⟩, ?_⟩)
    refine m_cancel hM hn.2.2 hF20 (fun j hj ej => ?_) (fun nr => absurd r nr)
    have eij := ixe (by omega) (by omega) ei ej
    subst eij
    have hv' := lV_cancel hv hj
    have s : sI I (upR I 19 (upd (I 19) j (I 19 j - leftF I (J 1) j))) := sI_up (by decide)
    exact tl_s hM rfl (lr_get hR2 hq2) (k _ (lw_mk (cE_s s hE hv'.2.1.1) hR2 (nOk_3 hn) rfl hv' (h6_3 h60 s.r3)))
  · rw [← hn.2.2] at nr
    rw [es]
    exact ⟨v1, am 0, ⟨rfl, mhere hM⟩, m_cancel hM hn.2.2 hF20 (fun j hj ej => absurd (show 0 ≤ a1 ∧ a1 < n 2 by rw [hn.2.2, ej]; exact ⟨nI_pos' (by omega), nI_lt hj (by omega)⟩) nr) (fun _ => tl_e hM rfl (by decide) (k _ (same _)))⟩
end LC
