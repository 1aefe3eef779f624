/-! ===== the flows' due days, from day to day ===== -/
section FO
variable {A L F : Nat} {I I' : Nat → Nat → Int32} {y y' l : Nat → Int64} {X : Int} {c d : Nat}
theorem rest_88 (hc : cfg A L F I) (hcc : c ≤ 512) (hd : d < 460) (h : stD A L F I c d X y) {m : Nat} (hm : 88 ≤ m) (hm8 : m ≠ 108) : (restF I A L d (y, l)).1 m = y m := by
  obtain ⟨hn, htg, hr, ham, -⟩ := hc
  obtain ⟨h1, h2, h3, h4⟩ := h
  have hA := hn.1
  have hL := hn.2.1
  have hF := hn.2.2.1
  have dn := dn_rng hF h3
  have lim := bT_lim h1 hcc (show d / 20 ≤ 23 by omega) dn
  have X0 := h1.1
  have hR := h1.2.2
  have a1 := acc_bW hn hr X0 (by omega) (show d % 20 < 20 by omega) hR h2
  have ao : ∀ m, m < 10 ∨ (50 ≤ m ∧ m < 76) ∨ 82 ≤ m → accF I A L y m = y m := fun m hm => accF_o hA hL hm
  have aR : bR A L I X (accF I A L y) := bR_mv hR (bS_congr (fun i hi => ao i (by omega))).1 (Int.le_of_eq (bS_congr (fun i hi => ao i (by omega))).2) (fun l hl => ao (70 + l) (by omega))
  have aT : bT A L F I c (d / 20) X (accF I A L y) := bT_same h1 (sm_congr F (fun f hf => by show (accF I A L y (88 + f)).toInt = _; rw [ao (88 + f) (by omega)])) aR
  have aF : flB F I (accF I A L y) := fun f hf => by
    obtain ⟨m, t, q1, q2, q3, q4⟩ := h3 f hf
    exact ⟨m, t, q1, q2, (ao (88 + f) (by omega)).trans q3, q4⟩
  unfold restF
  by_cases g : (d + 1) % 20 = 0
  · rw [if_pos ((rem20_0 (by omega)).mpr g)]
    have e20 : d % 20 + 1 = 20 := by omega
    rw [e20] at a1
    obtain ⟨-, u4, -⟩ := book_bW (l := l) (K0 := fun _ s => if s % 2 = 0 then y (60 + s / 2) else 0) hn hcc (show d / 20 ≤ 22 by omega) aF aT a1 (fun p hp => by
      rw [ao (60 + p) (by have := hp.1; omega), if_pos (by omega), if_neg (by omega), Int64.sub_zero, show 2 * p / 2 = p by omega])
    show dayW d _ m = y m
    rw [dayW_o hm8, u4 m (by omega), ao m (by omega)]
  · rw [if_neg (fun v => g ((rem20_0 (by omega)).mp v))]
    show dayW d _ m = y m
    rw [dayW_o hm8, ao m (by omega)]
theorem settle_88 (hn : cEn A L F I) (ham : amOk F I) (htg : tgOk A I) (hc : c ≤ 512) {n : Nat} (hn23 : n ≤ 23) (hb : flB F I y) (h : bT A L F I c n X y) {m : Nat} (hm : 88 ≤ m) : setlF I A L F 6 18 d y m = itr (flowS I d) F y m := by
  have hA := hn.1
  have hL := hn.2.1
  have hF := hn.2.2.1
  have hp : parOk A I := hn.2.2.2.1
  have hl : lnOk2 A L I := hn.2.2.2.2.2.2.1
  obtain ⟨X1, g1, g2⟩ := flows_bT (d := d) hn ham hc hn23 hb h F (Nat.le_refl _)
  have fb := flB_itr hn (d := d) hb F (Nat.le_refl _)
  have lim := bT_lim g2 hc hn23 (dn_rng hF fb)
  have X0 := g2.1
  have w1' : bR A L I X1 (setl1 I A F d y) := (sweep_bR hp htg hA hL X0 (by omega) g2.2.2).1
  obtain ⟨v1, -, -⟩ := cover_eq hA hL hl X0 (by omega) w1'
  unfold setlF
  rw [easeF_o hA (by omega), ← v1]
  have e1 : foldS (cvC L I) (ctops A I) (setl1 I A F d y) m = setl1 I A F d y m := foldS_inv (R := fun y' : Nat → Int64 => y' m = setl1 I A F d y m) _ _ (fun x hx s hs => by
    rw [cvC_o hA hL (mem_ctops.mp hx).1 (by omega)]
    exact hs) rfl
  rw [e1]
  exact sweepF_o hp hA (by omega)
theorem qm_of {f m : Nat} (h : y (88 + f) = lN m) (hm : m < 2 ^ 31) : qm y f = m := by
  unfold qm
  rw [h, lN_toInt hm]
  rfl
theorem qT_of {f t : Nat} (h : I 19 f = nI t) (ht : t < 2 ^ 31) : qT I f = t := by
  unfold qT
  rw [h]
  exact nI_clamp ht
/-- all due times of a flow are booked -/
theorem flw_due {f : Nat} (hfa : fA I f < 10) (h2 : qb I f ≤ 100) (h4 : qT I f ≤ 30) (h1 : qa I f ≤ 450) (w5 : I 17 f = nI (qa I f)) (w6 : I 18 f = nI (qb I f)) (w7 : I 19 f = nI (qT I f)) (hd : d < 2 ^ 31) : ∀ (k m : Nat) (y : Nat → Int64), m ≤ qT I f → y (88 + f) = lN m → m + k = qT I f → ∃ m', m' ≤ qT I f ∧ flwF I d f k y (88 + f) = lN m' ∧ (m' < qT I f → d < qa I f + m' * qb I f) := by
  intro k
  induction k with
  | zero => intro m y hm hy hk; exact ⟨m, hm, hy, fun e => by omega⟩
  | succ k ih =>
    intro m y hm hy hk
    have mb : m * qb I f ≤ 30 * 100 := Nat.mul_le_mul (by omega) h2
    have eD : I 17 f + (y (88 + f)).toInt32 * I 18 f = nI (qa I f + m * qb I f) := by rw [w5, w6, hy, lN_i, nI_mul2, nI_add]
    unfold flwF
    by_cases cc : flwC I d f y
    · rw [if_pos cc]
      exact ih (m + 1) _ (by omega) (by unfold flwS; rw [pk_uLs, hy, lN_1]) (by omega)
    · rw [if_neg cc]
      refine ⟨m, hm, hy, fun e => ?_⟩
      refine Nat.lt_of_not_le (fun g => cc ⟨?_, ?_⟩)
      · rw [hy, w7, nI_l (by omega)]
        exact (lN_lt (by omega) (by omega)).mpr e
      · rw [eD]
        exact nI_le g hd
theorem flows_88 (hn : cEn A L F I) {f : Nat} : ∀ k, k ≤ F → (k ≤ f → itr (flowS I d) k y (88 + f) = y (88 + f)) ∧ (f < k → itr (flowS I d) k y (88 + f) = flwF I d f (flwN I f (itr (flowS I d) f y)) (itr (flowS I d) f y) (88 + f)) := by
  have hA := hn.1
  intro k
  induction k with
  | zero => intro _; exact ⟨fun _ => rfl, fun h => by omega⟩
  | succ k ih =>
    intro hk
    obtain ⟨i1, i2⟩ := ih (by omega)
    have fa := (hn.2.2.2.2.2.2.2.1 k (by omega)).2
    refine ⟨fun h => ?_, fun h => ?_⟩
    · show flowS I d k (itr (flowS I d) k y) (88 + f) = _
      unfold flowS
      rw [flwF_other (by omega) (by omega)]
      exact i1 (by omega)
    · by_cases e : f = k
      · subst e
        rfl
      · show flowS I d k (itr (flowS I d) k y) (88 + f) = _
        unfold flowS
        rw [flwF_other (by omega) (by omega)]
        exact i2 (by omega)
theorem fwOk_day (hc : cfg A L F I) (hcc : c ≤ 512) (hd : d < 460) (h : stD A L F I c d X y) (hw : fwOk F d I y) : fwOk F (d + 1) I (passF I A L F 6 18 d (y, l)).1 := by
  have hn := hc.1
  have hA := hn.1
  intro f hf
  obtain ⟨w1, w2, w3, w4, w5, w6, w7, w8, w9⟩ := hw f hf
  have fa := (hn.2.2.2.2.2.2.2.1 f hf).2
  have F20 := hn.2.2.1
  have key : ∃ m', m' ≤ qT I f ∧ (passF I A L F 6 18 d (y, l)).1 (88 + f) = lN m' ∧ (m' < qT I f → ∀ e, qa I f + m' * qb I f ≤ e → e < d + 1 → ¬ stF I e = true) := by
    unfold passF
    by_cases g : stF I d = true
    · rw [if_pos g]
      obtain ⟨X', m1, m2⟩ := moved_st hc hcc hd h
      have e0 : itr (flowS I d) f y (88 + f) = y (88 + f) := (flows_88 hn f (by omega)).1 (Nat.le_refl _)
      have eN : qm y f + flwN I f (itr (flowS I d) f y) = qT I f := flwN_eq (zz := itr (flowS I d) f y) w4 w3 (e0.trans w8) w7
      obtain ⟨m', q1, q2, q3⟩ := flw_due (d := d) (by omega) w2 w4 w1 w5 w6 w7 (by omega) (flwN I f (itr (flowS I d) f y)) (qm y f) (itr (flowS I d) f y) w3 (e0.trans w8) eN
      refine ⟨m', q1, ?_, fun e x hx1 hx2 => ?_⟩
      · rw [rest_88 hc hcc hd m2 (by omega) (by omega), settle_88 hn hc.2.2.2.1 hc.2.1 hcc (show d / 20 ≤ 23 by omega) h.2.2.1 h.1 (by omega), (flows_88 hn F (Nat.le_refl _)).2 hf]
        exact q2
      · have := q3 e
        omega
    · rw [if_neg g]
      refine ⟨qm y f, w3, ?_, fun e x hx1 hx2 => ?_⟩
      · rw [rest_88 hc hcc hd h (by omega) (by omega)]
        exact w8
      · by_cases ex : x = d
        · rw [ex]; exact g
        · exact w9 e x hx1 (by omega)
  obtain ⟨m', k1, k2, k3⟩ := key
  have em : qm (passF I A L F 6 18 d (y, l)).1 f = m' := qm_of k2 (by omega)
  rw [em]
  exact ⟨w1, w2, k1, w4, w5, w6, w7, k2, k3⟩
theorem dy_fw (hc : cfg A L F I) (hcc : c ≤ 512) (h : stD A L F I c d X y) (hw : fwOk F d I y) : ∀ t, d + t ≤ 460 → fwOk F (d + t) I (dyF I A L F d (y, l) t).1 := by
  intro t
  induction t with
  | zero => intro _; exact hw
  | succ t ih =>
    intro ht
    obtain ⟨⟨X1, h1, h2⟩, -⟩ := dy_st (l := l) hc hcc h t (by omega)
    exact fwOk_day hc hcc (show d + t < 460 by omega) h2 (ih (by omega))
end FO
