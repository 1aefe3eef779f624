/-! ===== the law's calls: adds ===== -/
def LX (x4 : Int32) (LL : Nat) : Prop := vp_in (x4 + (1 : Int32)) LL ∧ vp_in (x4 + (2 : Int32)) LL ∧ vp_in (x4 + (3 : Int32)) LL ∧ vp_in (x4 + (4 : Int32)) LL ∧ vp_in (x4 + (5 : Int32)) LL
section LC
variable {z : Nat × Nat} {q1 q4 q7 c b LL : Nat} {μ : jM} {K23 : Option Nat → Option Nat → Option Nat → Int32 → jM → Prop} {xs : Nat → Int32} {x4 : Int32}
theorem lw_addPool (hW : lW z q1 q4 q7 c μ) (hc : c < 512) (hx : LX x4 LL) (k : ∀ μ', lW z q1 q4 q7 (c + 1) μ' → wL_law_1855 z b K23 LL xs (some q1) (some q4) (some q7) x4 μ') : wL_law_168 z b K23 LL xs (some q1) (some q4) (some q7) x4 μ := by
  obtain ⟨v1, v2, v3, v4, v5⟩ := hx
  obtain ⟨ad, nm, A, L, F, I, K, kk, μr, am, nn, n, J, d, X, rfl, hfix, hE, hR, hn, hv, h60⟩ := hW
  have hR0 := hR
  obtain ⟨e1, hM, e4, hd, hz, -⟩ := hR0
  subst e1
  subst e4
  have es := lr_es (z := z) (ad := ad) (A := A) (L := L) (F := F) (I := I) (y := J 1) (K := K) (k := kk) hd hfix
  have same : ∀ v, lW z (ad (0, 0)) (am 0) q7 (c + 1) (mM am nn (upd n 3 v) I J (cM z ad nm A L F I (J 1) K kk μr)) := fun v => lw_mk hE hR (nOk_3 hn) rfl (lV_c hv) h60
  have hA10 : A ≤ 10 := hE.2.1
  have hL6 : L ≤ 6 := hE.2.2.1
  have hF20 : F ≤ 20 := hE.2.2.2.1
  unfold wL_law_168
  generalize xs (Int32.toNatClampNeg (x4 + (1 : Int32))) = a1
  generalize xs (Int32.toNatClampNeg (x4 + (2 : Int32))) = a2
  generalize xs (Int32.toNatClampNeg (x4 + (3 : Int32))) = a3
  refine ⟨v1, v2, v3, ?_⟩
  unfold wL_addPool wL_addPool_0
  refine ⟨_, ⟨rfl, ch0 hE.1⟩, ?_⟩
  refine c_addPool hE hz.1 hz.2.2 (fun hA => lV_fresh hv hA) (fun P A10 ad' nm' μ' k' hE' hnx h00 => ?_) (fun nP => e21 sAS ?_) (fun P A10 => e22 sSA ?_)
  · obtain ⟨hR', hfix'⟩ := lr_nxt hR hfix hnx h00
    refine lw_put hR' hfix' (fun μ2 hR2 hq2 => ⟨v1, v2, v3, am 0, ⟨rfl, mhere hM⟩, ?_⟩)
    refine m_addPool hM hn.1 hA10 (fun _ _ => ?_) (fun nP => absurd P nP) (fun _ e => absurd e (by omega))
    have aA : aI A I (addI A (-1) (nI A) a1 a2 a3 I) := aI_add
    obtain ⟨-, -, -, r9, r10⟩ := addI_at (A := A) (I := I) (pr := -1) (tp := nI A) (bk := a1) (cr := a2) (db := a3)
    exact tl_s hM rfl (lr_get hR2 hq2) (k _ (lw_mk hE' hR2 (nOk_A hn) rfl (lV_A hv A10 aA hE'.2 (by rw [r9]; exact i32_rng P.2.1 (by decide) (by decide)) (by rw [r10]; exact i32_rng P.2.2 (by decide) (by decide))) (h6_pool h60 aA (lV_fresh hv A10).2.2.2.2.2.2.1)))
  · rw [es]
    exact ⟨v1, v2, v3, am 0, ⟨rfl, mhere hM⟩, m_addPool hM hn.1 hA10 (fun P _ => absurd P nP) (fun _ => tl_e hM rfl (by decide) (k _ (same _))) (fun P _ => absurd P nP)⟩
  · rw [es]
    exact ⟨v1, v2, v3, am 0, ⟨rfl, mhere hM⟩, m_addPool hM hn.1 hA10 (fun _ e => absurd e (by omega)) (fun nP => absurd P nP) (fun _ _ => tl_e hM rfl (by decide) (k _ (same _)))⟩
theorem lw_addAccount (hW : lW z q1 q4 q7 c μ) (hc : c < 512) (hx : LX x4 LL) (k : ∀ μ', lW z q1 q4 q7 (c + 1) μ' → wL_law_1855 z b K23 LL xs (some q1) (some q4) (some q7) x4 μ') : wL_law_248 z b K23 LL xs (some q1) (some q4) (some q7) x4 μ := by
  obtain ⟨v1, v2, v3, v4, v5⟩ := hx
  obtain ⟨ad, nm, A, L, F, I, K, kk, μr, am, nn, n, J, d, X, rfl, hfix, hE, hR, hn, hv, h60⟩ := hW
  have hR0 := hR
  obtain ⟨e1, hM, e4, hd, hz, -⟩ := hR0
  subst e1
  subst e4
  have es := lr_es (z := z) (ad := ad) (A := A) (L := L) (F := F) (I := I) (y := J 1) (K := K) (k := kk) hd hfix
  have same : ∀ v, lW z (ad (0, 0)) (am 0) q7 (c + 1) (mM am nn (upd n 3 v) I J (cM z ad nm A L F I (J 1) K kk μr)) := fun v => lw_mk hE hR (nOk_3 hn) rfl (lV_c hv) h60
  have hA10 : A ≤ 10 := hE.2.1
  have hL6 : L ≤ 6 := hE.2.2.1
  have hF20 : F ≤ 20 := hE.2.2.2.1
  unfold wL_law_248
  generalize xs (Int32.toNatClampNeg (x4 + (1 : Int32))) = a1
  generalize xs (Int32.toNatClampNeg (x4 + (2 : Int32))) = a2
  refine ⟨v1, v2, ?_⟩
  unfold wL_addAccount wL_addAccount_0
  refine ⟨_, ⟨rfl, ch0 hE.1⟩, ?_⟩
  refine c_addAccount hE hz.1 hz.2.2 (fun hA => lV_fresh hv hA) (fun i hi ei P A10 ad' nm' μ' k' hE' hnx h00 => ?_) (fun nr => e31 sIA sIS ?_) (fun r nP => e32 sAI sAS ?_) (fun r P A10 => e33 sSI sSA ?_)
  · have r : 0 ≤ a1 ∧ a1 < n 0 := by rw [hn.1, ei]; exact ⟨nI_pos' (by omega), nI_lt hi (by omega)⟩
    obtain ⟨hR', hfix'⟩ := lr_nxt hR hfix hnx h00
    refine lw_put hR' hfix' (fun μ2 hR2 hq2 => ⟨v1, v2, am 0, ⟨rfl, mhere hM⟩, ?_⟩)
    refine m_addAccount hM hn.1 hA10 (fun j hj ej _ _ => ?_) (fun nr => absurd r nr) (fun _ nP => absurd P nP) (fun _ _ e => absurd e (by omega))
    have eij := ixe (by omega) (by omega) ei ej
    subst eij
    have aA : aI A I (addI A a1 (I 4 j) a2 0 0 I) := aI_add
    obtain ⟨r3, -, -, r9, r10⟩ := addI_at (A := A) (I := I) (pr := a1) (tp := I 4 j) (bk := a2) (cr := 0) (db := 0)
    have hne : ¬ addI A a1 (I 4 j) a2 0 0 I 3 A = -1 := fun e => by rw [r3, ej] at e; have := nI_pos (n := j) (by omega); rw [e] at this; exact this (by decide)
    exact tl_s hM rfl (lr_get hR2 hq2) (k _ (lw_mk hE' hR2 (nOk_A hn) rfl (lV_A hv A10 aA hE'.2 (by rw [r9]; decide) (by rw [r10]; decide)) (h6_acc h60 aA hne)))
  · rw [← hn.1] at nr
    rw [es]
    exact ⟨v1, v2, am 0, ⟨rfl, mhere hM⟩, m_addAccount hM hn.1 hA10 (fun j hj ej _ _ => absurd (show 0 ≤ a1 ∧ a1 < n 0 by rw [hn.1, ej]; exact ⟨nI_pos' (by omega), nI_lt hj (by omega)⟩) nr) (fun _ => tl_e hM rfl (by decide) (k _ (same _))) (fun r _ => absurd r nr) (fun r _ _ => absurd r nr)⟩
  · rw [← hn.1] at r
    rw [es]
    exact ⟨v1, v2, am 0, ⟨rfl, mhere hM⟩, m_addAccount hM hn.1 hA10 (fun j hj ej P _ => absurd P nP) (fun nr => absurd r nr) (fun _ _ => tl_e hM rfl (by decide) (k _ (same _))) (fun _ P _ => absurd P nP)⟩
  · rw [← hn.1] at r
    rw [es]
    exact ⟨v1, v2, am 0, ⟨rfl, mhere hM⟩, m_addAccount hM hn.1 hA10 (fun j hj ej P A9 => absurd A10 (by omega)) (fun nr => absurd r nr) (fun _ nP => absurd P nP) (fun _ _ _ => tl_e hM rfl (by decide) (k _ (same _)))⟩
theorem lw_addLine (hW : lW z q1 q4 q7 c μ) (hc : c < 512) (hx : LX x4 LL) (k : ∀ μ', lW z q1 q4 q7 (c + 1) μ' → wL_law_1855 z b K23 LL xs (some q1) (some q4) (some q7) x4 μ') : wL_law_464 z b K23 LL xs (some q1) (some q4) (some q7) x4 μ := by
  obtain ⟨v1, v2, v3, v4, v5⟩ := hx
  obtain ⟨ad, nm, A, L, F, I, K, kk, μr, am, nn, n, J, d, X, rfl, hfix, hE, hR, hn, hv, h60⟩ := hW
  have hR0 := hR
  obtain ⟨e1, hM, e4, hd, hz, -⟩ := hR0
  subst e1
  subst e4
  have es := lr_es (z := z) (ad := ad) (A := A) (L := L) (F := F) (I := I) (y := J 1) (K := K) (k := kk) hd hfix
  have same : ∀ v, lW z (ad (0, 0)) (am 0) q7 (c + 1) (mM am nn (upd n 3 v) I J (cM z ad nm A L F I (J 1) K kk μr)) := fun v => lw_mk hE hR (nOk_3 hn) rfl (lV_c hv) h60
  have hA10 : A ≤ 10 := hE.2.1
  have hL6 : L ≤ 6 := hE.2.2.1
  have hF20 : F ≤ 20 := hE.2.2.2.1
  unfold wL_law_464
  generalize xs (Int32.toNatClampNeg (x4 + (1 : Int32))) = a1
  generalize xs (Int32.toNatClampNeg (x4 + (2 : Int32))) = a2
  generalize xs (Int32.toNatClampNeg (x4 + (3 : Int32))) = a3
  refine ⟨v1, v2, v3, ?_⟩
  unfold wL_addLine wL_addLine_0
  refine ⟨_, ⟨rfl, ch0 hE.1⟩, ?_⟩
  refine c_addLine hE hz.1 hz.2.2 (fun hL => lV_line hv hL) (fun i hi ei P tp L6 ad' nm' μ' k' hE' hnx h00 => ?_) (fun nr => e31 sIA sIS ?_) (fun r nP => e32 sAI sAS ?_) (fun i hi ei P q => e33 sSI sSA ?_)
  · have r : 0 ≤ a1 ∧ a1 < n 0 := by rw [hn.1, ei]; exact ⟨nI_pos' (by omega), nI_lt hi (by omega)⟩
    obtain ⟨hR', hfix'⟩ := lr_nxt hR hfix hnx h00
    refine lw_put hR' hfix' (fun μ2 hR2 hq2 => ⟨v1, v2, v3, am 0, ⟨rfl, mhere hM⟩, ?_⟩)
    refine m_addLine hM hn.1 hA10 hn.2.1 hL6 (fun j hj ej _ _ _ => ?_) (fun nr => absurd r nr) (fun _ nP => absurd P nP) (fun j hj ej _ q => ?_)
    · obtain ⟨r11, r12, r13⟩ := lnI_at (I := I) (L := L) (x := a1) (x2 := a2) (x3 := a3)
      have w12 := i32_rng P.1 (m := 1) (n := 10000000) (by decide) (by decide)
      exact tl_s hM rfl (lr_get hR2 hq2) (k _ (lw_mk hE' hR2 (nOk_L hn) rfl (lV_L hv L6 lI_ln hE'.2 (by rw [r12]; omega) (by rw [r13]; exact i32_rng P.2 (by decide) (by decide))) (h6_3 (h6_K h60 (fun b => by unfold alK; rw [if_neg (by omega)])) (lnI_ro (by decide) (by decide) (by decide)))))
    · have eij := ixe (by omega) (by omega) ei ej
      subst eij
      rcases q with q | q
      · exact absurd tp q
      · exact absurd q (by omega)
  · rw [← hn.1] at nr
    rw [es]
    exact ⟨v1, v2, v3, am 0, ⟨rfl, mhere hM⟩, m_addLine hM hn.1 hA10 hn.2.1 hL6 (fun j hj ej _ _ _ => absurd (show 0 ≤ a1 ∧ a1 < n 0 by rw [hn.1, ej]; exact ⟨nI_pos' (by omega), nI_lt hj (by omega)⟩) nr) (fun _ => tl_e hM rfl (by decide) (k _ (same _))) (fun r _ => absurd r nr) (fun j hj ej _ _ => absurd (show 0 ≤ a1 ∧ a1 < n 0 by rw [hn.1, ej]; exact ⟨nI_pos' (by omega), nI_lt hj (by omega)⟩) nr)⟩
  · rw [← hn.1] at r
    rw [es]
    exact ⟨v1, v2, v3, am 0, ⟨rfl, mhere hM⟩, m_addLine hM hn.1 hA10 hn.2.1 hL6 (fun j hj ej P _ _ => absurd P nP) (fun nr => absurd r nr) (fun _ _ => tl_e hM rfl (by decide) (k _ (same _))) (fun j hj ej P _ => absurd P nP)⟩
  · have r : 0 ≤ a1 ∧ a1 < n 0 := by rw [hn.1, ei]; exact ⟨nI_pos' (by omega), nI_lt hi (by omega)⟩
    rw [es]
    exact ⟨v1, v2, v3, am 0, ⟨rfl, mhere hM⟩, m_addLine hM hn.1 hA10 hn.2.1 hL6 (fun j hj ej _ tp L6 => absurd (ixe (by omega) (by omega) ei ej) (fun eij => by subst eij; rcases q with q | q; exact q tp; omega)) (fun nr => absurd r nr) (fun _ nP => absurd P nP) (fun _ _ _ _ _ => tl_e hM rfl (by decide) (k _ (same _)))⟩
theorem lw_schedule (hW : lW z q1 q4 q7 c μ) (hc : c < 512) (hx : LX x4 LL) (k : ∀ μ', lW z q1 q4 q7 (c + 1) μ' → wL_law_1855 z b K23 LL xs (some q1) (some q4) (some q7) x4 μ') : wL_law_860 z b K23 LL xs (some q1) (some q4) (some q7) x4 μ := by
  obtain ⟨v1, v2, v3, v4, v5⟩ := hx
  obtain ⟨ad, nm, A, L, F, I, K, kk, μr, am, nn, n, J, d, X, rfl, hfix, hE, hR, hn, hv, h60⟩ := hW
  have hR0 := hR
  obtain ⟨e1, hM, e4, hd, hz, -⟩ := hR0
  subst e1
  subst e4
  have es := lr_es (z := z) (ad := ad) (A := A) (L := L) (F := F) (I := I) (y := J 1) (K := K) (k := kk) hd hfix
  have same : ∀ v, lW z (ad (0, 0)) (am 0) q7 (c + 1) (mM am nn (upd n 3 v) I J (cM z ad nm A L F I (J 1) K kk μr)) := fun v => lw_mk hE hR (nOk_3 hn) rfl (lV_c hv) h60
  have hA10 : A ≤ 10 := hE.2.1
  have hL6 : L ≤ 6 := hE.2.2.1
  have hF20 : F ≤ 20 := hE.2.2.2.1
  unfold wL_law_860
  generalize xs (Int32.toNatClampNeg (x4 + (1 : Int32))) = a1
  generalize xs (Int32.toNatClampNeg (x4 + (2 : Int32))) = a2
  generalize xs (Int32.toNatClampNeg (x4 + (3 : Int32))) = a3
  generalize xs (Int32.toNatClampNeg (x4 + (4 : Int32))) = a4
  generalize xs (Int32.toNatClampNeg (x4 + (5 : Int32))) = a5
  refine ⟨v1, v2, v3, v4, v5, ?_⟩
  unfold wL_schedule wL_schedule_0
  refine ⟨_, ⟨rfl, ch0 hE.1⟩, ?_⟩
  refine c_schedule hE (lr_z hR) hz.1 (show d ≤ 450 by have := hv.1; omega) hv.2.2.1.2.2.2 (fun hF => lV_flow hv hF) (fun i hi ei P2 P3 P4 P5 F9 ad' nm' μ' k' hE' hnx h00 => ?_) (fun nr => e31 sIA sIS ?_) (fun r nP => e32 sAI sAS ?_) (fun r P F9 => e33 sSI sSA ?_)
  · have r : 0 ≤ a1 ∧ a1 < n 0 := by rw [hn.1, ei]; exact ⟨nI_pos' (by omega), nI_lt hi (by omega)⟩
    obtain ⟨hR', hfix'⟩ := lr_nxt hR hfix hnx h00
    refine lw_put hR' hfix' (fun μ2 hR2 hq2 => ⟨v1, v2, v3, v4, v5, am 0, ⟨rfl, mhere hM⟩, ?_⟩)
    refine m_schedule hM hn.1 hA10 hn.2.2 hF20 (show d ≤ 450 by have := hv.1; omega) hv.2.2.1.2.2.2 (fun j hj ej _ _ => ?_) (fun nr => absurd r nr) (fun _ nP => absurd ⟨P2, P3, P4, P5⟩ nP) (fun _ _ e => absurd e (by omega))
    exact tl_s hM rfl (lr_get hR2 hq2) (k _ (lw_mk hE' hR2 (nOk_F hn) rfl (lV_F hv F9 hE'.2 P2.1 P3 P4 P5) (h6_3 h60 (fsI_lo (Or.inl (by decide))))))
  · rw [← hn.1] at nr
    rw [es]
    exact ⟨v1, v2, v3, v4, v5, am 0, ⟨rfl, mhere hM⟩, m_schedule hM hn.1 hA10 hn.2.2 hF20 (show d ≤ 450 by have := hv.1; omega) hv.2.2.1.2.2.2 (fun j hj ej _ _ => absurd (show 0 ≤ a1 ∧ a1 < n 0 by rw [hn.1, ej]; exact ⟨nI_pos' (by omega), nI_lt hj (by omega)⟩) nr) (fun _ => tl_e hM rfl (by decide) (k _ (same _))) (fun r _ => absurd r nr) (fun r _ _ => absurd r nr)⟩
  · rw [← hn.1] at r
    rw [es]
    exact ⟨v1, v2, v3, v4, v5, am 0, ⟨rfl, mhere hM⟩, m_schedule hM hn.1 hA10 hn.2.2 hF20 (show d ≤ 450 by have := hv.1; omega) hv.2.2.1.2.2.2 (fun j hj ej P _ => absurd P nP) (fun nr => absurd r nr) (fun _ _ => tl_e hM rfl (by decide) (k _ (same _))) (fun _ P _ => absurd P nP)⟩
  · rw [← hn.1] at r
    rw [es]
    exact ⟨v1, v2, v3, v4, v5, am 0, ⟨rfl, mhere hM⟩, m_schedule hM hn.1 hA10 hn.2.2 hF20 (show d ≤ 450 by have := hv.1; omega) hv.2.2.1.2.2.2 (fun j hj ej _ F8 => absurd F9 (by omega)) (fun nr => absurd r nr) (fun _ nP => absurd P nP) (fun _ _ _ => tl_e hM rfl (by decide) (k _ (same _)))⟩
end LC
