/-! ===== the day as a whole ===== -/
section PW
variable {A L F : Nat} {I : Nat → Nat → Int32} {y y' l : Nat → Int64} {X X' : Int} {c n d e : Nat}
theorem sm_div {f : Nat → Int} : ∀ n, (∀ j, j < n → 0 ≤ f j) → 3600000 * sm (fun j => f j / 3600000) n ≤ sm f n
  | 0, _ => by simp [sm]
  | n + 1, h => by
    have h1 := sm_div n (fun j hj => h j (by omega))
    have h2 := h n (by omega)
    show 3600000 * (sm (fun j => f j / 3600000) n + f n / 3600000) ≤ sm f n + f n
    omega
theorem wF_smOk (hX0 : 0 ≤ X) (hX : X ≤ 2300000000) (h : bW A L I 20 X y) : smOk A y ∧ wgOk A y ∧ ∀ l, l < L → 0 ≤ (y (76 + l)).toInt ∧ (y (76 + l)).toInt ≤ 360000000000 := by
  obtain ⟨h1, h2, h3, h4, h5⟩ := h
  refine ⟨fun p hp => ?_, fun x hx => ?_, fun l hl => ?_⟩
  · have a1 := sm_at (f := fun p => (y (10 + p)).toInt) (i := p) A (fun j hj => (h1 j hj).1) hp
    have a2 := sm_at (f := fun p => (y (20 + p)).toInt) (i := p) A (fun j hj => (h1 j hj).2.1) hp
    have := h1 p hp
    exact ⟨⟨this.1, by omega⟩, this.2.1, by omega⟩
  · obtain ⟨⟨a1, a2⟩, a3, a4⟩ := h4 x hx
    exact ⟨⟨a1, by omega⟩, a3, by omega⟩
  · obtain ⟨a1, a2⟩ := h5 l hl
    exact ⟨a1, by omega⟩
/-- behind a booking -/
theorem book_bW (hn : cEn A L F I) (hc : c ≤ 512) (hn22 : n ≤ 22) (hf : flB F I y) (ht : bT A L F I c n X y) (h : bW A L I 20 X y) {K0 : Nat → Nat → Int64} (h60 : ∀ p, cisp A I p → y (60 + p) = K0 4 (2 * p) - K0 4 (2 * p + 1)) :
    (∃ X', X ≤ X' ∧ bT A L F I c (n + 1) X' (bkF I A L (y, l)).1 ∧ bW A L I 0 X' (bkF I A L (y, l)).1) ∧ (∀ m, 88 ≤ m → (bkF I A L (y, l)).1 m = y m) ∧
    (∀ m, m < 60 ∨ 70 ≤ m → itr (lcS I) L (foldS (bkPl A I) (ctops A I) (y, K0)).1 m = (bkF I A L (y, l)).1 m) ∧ (∀ p, cisp A I p → (bkF I A L (y, l)).1 (60 + p) = (foldS (bkPl A I) (ctops A I) (y, K0)).2 4 (2 * p) - (foldS (bkPl A I) (ctops A I) (y, K0)).2 4 (2 * p + 1)) ∧
    ∀ a b, a ≠ 4 → a < 100 ∨ 300 ≤ a → (foldS (bkPl A I) (ctops A I) (y, K0)).2 a b = K0 a b := by
  have hA := hn.1
  have hL := hn.2.1
  have hl : lnOk2 A L I := hn.2.2.2.2.2.2.1
  have dn := dn_rng hn.2.2.1 hf
  have lim := bT_lim ht hc (show n ≤ 23 by omega) dn
  obtain ⟨X0, hT, hR⟩ := ht
  have tb := bR_bd hL hR
  obtain ⟨s1, s2, s3⟩ := wF_smOk X0 (by omega) h
  obtain ⟨b1, b2, b3, b4, b5, b6, b7, b8⟩ := bkQ_all (l0 := l) (K0 := K0) hn (X := X + 60000000) (by omega) (by omega) tb s1 s2 h60
  generalize foldS (bkPl A I) (ctops A I) (y, K0) = tc at b1 b3 b4 b6 ⊢
  have fst : (bkF I A L (y, l)).1 = itr (lcS I) L (itr wzS A (itr (bkS I A) A (y, l)).1) := rfl
  rw [fst]
  generalize (itr (bkS I A) A (y, l)).1 = t at b1 b2 b4 b5 b7 b8 ⊢
  obtain ⟨z1, z2⟩ := wz_at (y := t) A hA
  have wbal := bS_congr (A := A) (y := t) (y' := itr wzS A t) (fun i hi => z2 i (fun x hx => by omega))
  have rng := bkC_rng s1 A (Nat.le_refl _)
  have rng1 : bkC y A ≤ 400000000 := by have := rng.2.1; omega
  have rng2 : bkDb y A ≤ 400000000 := by have := rng.2.2.2; omega
  have tb2 : bdX A (X + 500000000) (itr wzS A t) := ⟨by have := tb.1; rw [wbal.1]; omega, by have := tb.2; rw [wbal.2]; omega⟩
  have wz76 : ∀ m, 50 ≤ m → itr wzS A t m = t m := fun m hm => z2 m (fun x hx => by omega)
  have ly : ∀ l, l < L → itr wzS A t (76 + l) = y (76 + l) := fun l hl => by rw [wz76 _ (by omega), b2 _ (by omega)]
  obtain ⟨c1, -, c3, c4, c5, c6, c7, -⟩ := lc_at hA hL hl (X := X + 500000000) (by omega) (by omega) tb2 (fun l hl => by rw [ly l hl]; exact s3 l hl) L (Nat.le_refl _)
  have eE : bkE (itr wzS A t) L = bkE y L := sm_congr L (fun l hl => by show (itr wzS A t (76 + l)).toInt / 3600000 = _; rw [ly l hl])
  rw [eE] at c5 c6 c7
  -- how much comes in, how much goes
  obtain ⟨w1, w2, w3, w4, w5⟩ := h
  have dC := sm_div (f := fun p => (y (10 + p)).toInt) A (fun p hp => (w1 p hp).1)
  have dD := sm_div (f := fun p => (y (20 + p)).toInt) A (fun p hp => (w1 p hp).2.1)
  have dE := sm_div (f := fun l => (y (76 + l)).toInt) L (fun l hl => (w5 l hl).1)
  have sE := sm_le (f := fun l => (y (76 + l)).toInt) (g := fun _ => 203600000000) L (fun l hl => by have := (w5 l hl).2; show (y (76 + l)).toInt ≤ 203600000000; omega)
  rw [sm_const] at sE
  have eC : sm (fun p => (y (10 + p)).toInt / 3600000) A = bkC y A := rfl
  have eD : sm (fun p => (y (20 + p)).toInt / 3600000) A = bkDb y A := rfl
  have eE2 : sm (fun l => (y (76 + l)).toInt / 3600000) L = bkE y L := rfl
  rw [eC] at dC
  rw [eD] at dD
  rw [eE2] at dE
  -- the same row of lines, days, flows
  have o : ∀ m, 70 ≤ m → m < 76 ∨ 88 ≤ m → itr (lcS I) L (itr wzS A t) m = y m := fun m h1 h2 => by rw [c3 m (by omega) h2, wz76 m (by omega), b2 m (by omega)]
  have eD2 : bD L (itr (lcS I) L (itr wzS A t)) = bD L y := sm_congr L (fun l hl => by show (itr (lcS I) L (itr wzS A t) (70 + l)).toInt = _; rw [o (70 + l) (by omega) (by omega)])
  have eF : dnF F (itr (lcS I) L (itr wzS A t)) = dnF F y := sm_congr F (fun f hf => by show (itr (lcS I) L (itr wzS A t) (88 + f)).toInt = _; rw [o (88 + f) (by omega) (by omega)])
  have Tpos : 120000000 ≤ 1000000 * ((c : Int) + dnF F y) + 120000000 := by omega
  have M1 : (1000000 * ((c : Int) + dnF F y) + 120000000) * (100 + 3 * n) ≤ (1000000 * ((c : Int) + dnF F y) + 120000000) * 166 := Int.mul_le_mul_of_nonneg_left (by omega) (by omega)
  have M2 : (1000000 * ((c : Int) + dnF F y) + 120000000) * (100 + 3 * ((n + 1 : Nat) : Int)) = (1000000 * ((c : Int) + dnF F y) + 120000000) * (100 + 3 * n) + (1000000 * ((c : Int) + dnF F y) + 120000000) * 3 := by
    rw [← Int.mul_add]
    congr 1 <;> omega
  generalize (1000000 * ((c : Int) + dnF F y) + 120000000) * (100 + 3 * n) = M at hT M1 M2
  generalize hTT : 1000000 * ((c : Int) + dnF F y) + 120000000 = T at Tpos M1 M2
  have G1 : 100 * bkC y A ≤ 3 * T := by omega
  have G2 : 100 * (bkDb y A + bkE y L) ≤ 3 * T := by omega
  refine ⟨⟨X + 3 * T / 100, by omega, ⟨by omega, ?_, ?_⟩, ?_⟩, fun m hm => o m (by omega) (by omega), fun m hm => ?_, fun p hp => ?_, b6⟩
  · rw [eF, hTT, M2]
    omega
  · obtain ⟨r1, r2, r3⟩ := hR
    refine ⟨by rw [eD2]; omega, by omega, fun l hl => ?_⟩
    rw [o (70 + l) (by omega) (by omega)]
    exact r3 l hl
  · have sums : ∀ p, p < A → 0 ≤ (itr (lcS I) L (itr wzS A t) (10 + p)).toInt ∧ (itr (lcS I) L (itr wzS A t) (10 + p)).toInt ≤ 3600000 ∧ 0 ≤ (itr (lcS I) L (itr wzS A t) (20 + p)).toInt ∧ (itr (lcS I) L (itr wzS A t) (20 + p)).toInt ≤ 3600000 ∧ (¬ I 3 p = -1 → (itr (lcS I) L (itr wzS A t) (10 + p)).toInt = 0 ∧ (itr (lcS I) L (itr wzS A t) (20 + p)).toInt = 0) := by
      intro p hp
      rw [c3 (10 + p) (by omega) (by omega), c3 (20 + p) (by omega) (by omega), z2 (10 + p) (fun x hx => by omega), z2 (20 + p) (fun x hx => by omega)]
      obtain ⟨q1, q2⟩ := b5 p (by omega)
      obtain ⟨⟨v1, v2⟩, v3, v4⟩ := s1 p hp
      by_cases k : I 3 p = -1
      · obtain ⟨e1, e2⟩ := q2 ⟨hp, k⟩
        rw [e1, e2, rem_year v1, rem_year v3, lN_nat (by omega), lN_nat (by omega)]
        exact ⟨by omega, by omega, by omega, by omega, fun g => absurd k g⟩
      · obtain ⟨e1, e2⟩ := q1 (fun g => k g.2)
        rw [e1, e2]
        have := (w1 p hp).2.2 k
        exact ⟨by omega, by omega, by omega, by omega, fun _ => this⟩
    refine ⟨fun p hp => ⟨(sums p hp).1, (sums p hp).2.2.1, (sums p hp).2.2.2.2⟩, ?_, ?_, fun x hx => ?_, fun l hl => ?_⟩
    · have l1 := sm_le (f := fun p => (itr (lcS I) L (itr wzS A t) (10 + p)).toInt) (g := fun _ => 3600000) A (fun p hp => (sums p hp).2.1)
      rw [sm_const] at l1
      omega
    · have l1 := sm_le (f := fun p => (itr (lcS I) L (itr wzS A t) (20 + p)).toInt) (g := fun _ => 3600000) A (fun p hp => (sums p hp).2.2.2.1)
      rw [sm_const] at l1
      omega
    · rw [c3 (30 + x) (by omega) (by omega), c3 (40 + x) (by omega) (by omega), (z1 x hx).1, (z1 x hx).2, i64_0]
      omega
    · have := c1 l hl
      omega
  · refine lc_eq hA hl (a := tc.1) (b := itr wzS A t) (fun m hm => ?_) L (Nat.le_refl _) m hm
    by_cases w : 30 ≤ m ∧ m < 50
    · by_cases w2 : m < 40
      · obtain ⟨x, rfl⟩ : ∃ x, m = 30 + x := ⟨m - 30, by omega⟩
        by_cases xA : x < A
        · rw [(z1 x xA).1]
          exact ((b3 x (by omega)).1 ⟨xA, (hn.top x xA).1⟩).1
        · rw [z2 (30 + x) (fun x' hx' => by omega), b2 (30 + x) (by omega)]
          exact ((b3 x (by omega)).2 (fun v => xA v.1)).1
      · obtain ⟨x, rfl⟩ : ∃ x, m = 40 + x := ⟨m - 40, by omega⟩
        by_cases xA : x < A
        · rw [(z1 x xA).2]
          exact ((b3 x (by omega)).1 ⟨xA, (hn.top x xA).1⟩).2
        · rw [z2 (40 + x) (fun x' hx' => by omega), b2 (40 + x) (by omega)]
          exact ((b3 x (by omega)).2 (fun v => xA v.1)).2
    · rw [z2 m (fun x hx => by omega)]
      exact b1 m (by omega)
  · have pA := hp.1
    rw [c3 (60 + p) (by omega) (by omega), z2 (60 + p) (fun x hx => by omega)]
    exact b4 p hp
theorem rem20 (hd : d < 1000) : nI (d + 1) - nI (d + 1) / 20 * 20 = nI ((d + 1) % 20) := pk_rem (a := d + 1) (d := 20) (by omega) (by omega) (by omega)
theorem rem20_0 (hd : d < 1000) : (nI (d + 1) - nI (d + 1) / 20 * 20 = 0) ↔ (d + 1) % 20 = 0 := by
  rw [rem20 hd]
  exact nI_eq (b := 0) (by omega) (by omega)
theorem dayW_at : dayW d y 108 = lN (d + 1) ∨ ¬ d < 1000 := by
  by_cases h : d < 1000
  · left
    unfold dayW
    rw [pk_uLs, nI_l (by omega)]
  · exact Or.inr h
theorem dayW_o {m : Nat} (h : m ≠ 108) : dayW d y m = y m := pk_uLn h
/-- what is behind the moves of a day: interest, and the next day -/
theorem rest_st (hc : cfg A L F I) (hcc : c ≤ 512) (hd : d < 460) (h : stD A L F I c d X y) (K0 : Nat → Nat → Int64) (h60 : ∀ p, cisp A I p → y (60 + p) = K0 4 (2 * p) - K0 4 (2 * p + 1)) :
    (∃ X', X ≤ X' ∧ stD A L F I c (d + 1) X' (restF I A L d (y, l)).1) ∧ ∀ m, 109 ≤ m → (restF I A L d (y, l)).1 m = y m := by
  obtain ⟨hn, htg, hr, ham, -⟩ := hc
  obtain ⟨h1, h2, h3, h4⟩ := h
  have hA := hn.1
  have hL := hn.2.1
  have hF := hn.2.2.1
  have dn := dn_rng hF h3
  have lim := bT_lim h1 hcc (show d / 20 ≤ 23 by omega) dn
  have X0 := h1.1
  have hR := h1.2.2
  have a1 := acc_bW hn hr X0 (by omega) (show d % 20 < 20 by omega) hR h2
  have ao : ∀ m, m < 10 ∨ (50 ≤ m ∧ m < 76) ∨ 82 ≤ m → accF I A L y m = y m := fun m hm => accF_o hA hL hm
  have aR : bR A L I X (accF I A L y) := bR_mv hR (bS_congr (fun i hi => ao i (by omega))).1 (Int.le_of_eq (bS_congr (fun i hi => ao i (by omega))).2) (fun l hl => ao (70 + l) (by omega))
  have aT : bT A L F I c (d / 20) X (accF I A L y) := bT_same h1 (sm_congr F (fun f hf => by show (accF I A L y (88 + f)).toInt = _; rw [ao (88 + f) (by omega)])) aR
  have aF : flB F I (accF I A L y) := fun f hf => by
    obtain ⟨m, t, q1, q2, q3, q4⟩ := h3 f hf
    exact ⟨m, t, q1, q2, (ao (88 + f) (by omega)).trans q3, q4⟩
  have w8 : ∀ v : Nat → Int64, dayW d v 108 = lN (d + 1) := fun v => by
    rcases dayW_at (d := d) (y := v) with w | w
    · exact w
    · omega
  have wst : ∀ (v : Nat → Int64) (cc nn ee : Nat) (XX : Int), bT A L F I cc nn XX v → bW A L I ee XX v → flB F I v → bT A L F I cc nn XX (dayW d v) ∧ bW A L I ee XX (dayW d v) ∧ flB F I (dayW d v) := by
    intro v cc nn ee XX q1 q2 q3
    have q4 := q1.2.2
    refine ⟨bT_same q1 (sm_congr F (fun f hf => by show (dayW d v (88 + f)).toInt = _; rw [dayW_o (by omega)])) (bR_mv q4 (bS_congr (fun i hi => dayW_o (by omega))).1 (Int.le_of_eq (bS_congr (fun i hi => dayW_o (by omega))).2) (fun l hl => dayW_o (by omega))), bW_same hA hL q2 (fun m hm => dayW_o (by omega)), fun f hf => ?_⟩
    obtain ⟨m, t, u1, u2, u3, u4⟩ := q3 f hf
    exact ⟨m, t, u1, u2, (dayW_o (by omega)).trans u3, u4⟩
  unfold restF
  by_cases g : (d + 1) % 20 = 0
  · rw [if_pos ((rem20_0 (by omega)).mpr g)]
    have e20 : d % 20 + 1 = 20 := by omega
    rw [e20] at a1
    obtain ⟨⟨X', u1, u2, u3⟩, u4, -⟩ := book_bW (l := l) (K0 := K0) hn hcc (show d / 20 ≤ 22 by omega) aF aT a1 (fun p hp => by rw [ao (60 + p) (by have := hp.1; omega)]; exact h60 p hp)
    have uF : flB F I (bkF I A L (accF I A L y, l)).1 := fun f hf => by
      obtain ⟨m, t, q1, q2, q3, q4⟩ := aF f hf
      exact ⟨m, t, q1, q2, (u4 (88 + f) (by omega)).trans q3, q4⟩
    obtain ⟨v1, v2, v3⟩ := wst _ _ _ _ _ u2 u3 uF
    refine ⟨⟨X', u1, ?_, ?_, v3, w8 (bkF I A L (accF I A L y, l)).1⟩, fun m hm => ?_⟩
    · rw [show (d + 1) / 20 = d / 20 + 1 by omega]; exact v1
    · rw [g]; exact v2
    · show dayW d _ m = y m
      rw [dayW_o (by omega), u4 m (by omega), ao m (by omega)]
  · rw [if_neg (fun v => g ((rem20_0 (by omega)).mp v))]
    obtain ⟨v1, v2, v3⟩ := wst _ _ _ _ _ aT a1 aF
    refine ⟨⟨X, Int.le_refl _, ?_, ?_, v3, w8 (accF I A L y)⟩, fun m hm => ?_⟩
    · rw [show (d + 1) / 20 = d / 20 by omega]; exact v1
    · rw [show (d + 1) % 20 = d % 20 + 1 by omega]; exact v2
    · show dayW d _ m = y m
      rw [dayW_o (by omega), ao m (by omega)]
/-- the moves of a day keep what holds -/
theorem moved_st (hc : cfg A L F I) (hcc : c ≤ 512) (hd : d < 460) (h : stD A L F I c d X y) : ∃ X', X ≤ X' ∧ stD A L F I c d X' (setlF I A L F 6 18 d y) := by
  obtain ⟨hn, htg, hr, ham, -⟩ := hc
  obtain ⟨h1, h2, h3, h4⟩ := h
  obtain ⟨X', g1, -, g3, g4, -, g6, -⟩ := settle_eq (d := d) hn ham htg hcc (show d / 20 ≤ 23 by omega) h3 h1
  exact ⟨X', g1, g3, bW_same hn.1 hn.2.1 (bW_mono h2 g1) (fun m hm => g6 m (by omega)), g4, (g6 108 (by omega)).trans h4⟩
theorem pass_st (hc : cfg A L F I) (hcc : c ≤ 512) (hd : d < 460) (h : stD A L F I c d X y) (K0 : Nat → Nat → Int64) (h60 : ∀ p, cisp A I p → y (60 + p) = K0 4 (2 * p) - K0 4 (2 * p + 1)) :
    (∃ X', X ≤ X' ∧ stD A L F I c (d + 1) X' (passF I A L F 6 18 d (y, l)).1) ∧ (stF I d = true → setlE I A L F 6 18 d y) ∧ ∀ m, 109 ≤ m → (passF I A L F 6 18 d (y, l)).1 m = y m := by
  have hn := hc.1
  have hA := hn.1
  have hs := settle_eq (d := d) hn hc.2.2.2.1 hc.2.1 hcc (show d / 20 ≤ 23 by omega) h.2.2.1 h.1
  obtain ⟨X1, -, -, -, -, s5, s6, -⟩ := hs
  obtain ⟨X', m1, m2⟩ := moved_st hc hcc hd h
  refine ⟨?_, fun _ => s5, fun m hm => ?_⟩
  · unfold passF
    by_cases g : stF I d = true
    · rw [if_pos g]
      obtain ⟨⟨X2, r1, r2⟩, -⟩ := rest_st (l := l) hc hcc hd m2 K0 (fun p hp => by have := hp.1; rw [s6 (60 + p) (by omega)]; exact h60 p hp)
      exact ⟨X2, by omega, r2⟩
    · rw [if_neg g]
      obtain ⟨⟨X2, r1, r2⟩, -⟩ := rest_st (l := l) hc hcc hd h K0 h60
      exact ⟨X2, by omega, r2⟩
  · unfold passF
    by_cases g : stF I d = true
    · rw [if_pos g]
      obtain ⟨-, r2⟩ := rest_st (l := l) hc hcc hd m2 K0 (fun p hp => by have := hp.1; rw [s6 (60 + p) (by omega)]; exact h60 p hp)
      rw [r2 m hm, s6 m (by omega)]
    · rw [if_neg g]
      obtain ⟨-, r2⟩ := rest_st (l := l) hc hcc hd h K0 h60
      exact r2 m hm
end PW
/-! ===== the class passes a day ===== -/
section CP
variable {z : Nat × Nat} {ad : Nat × Nat → Nat} {nm : Nat → Nat × Nat} {A L F : Nat} {I : Nat → Nat → Int32} {K : Nat → Nat → Int64} {k : Nat → Nat → Int32} {μ0 : jM} {y l : Nat → Int64} {X : Int} {c d : Nat}
theorem cM_60 (hn : cEn A L F I) {y' : Nat → Int64} (h : ∀ m, m < 60 ∨ 70 ≤ m → y' m = y m) : cM z ad nm A L F I y' K k μ0 = cM z ad nm A L F I y K k μ0 := by
  have hA := hn.1
  refine cM_cong (fun x m hm => h m ?_) (fun _ _ _ _ => rfl) (fun _ _ _ _ => rfl)
  simp only [rdz] at hm
  rcases hm with ⟨-, -, c⟩ | ⟨-, b, c⟩ | ⟨-, ⟨b, -⟩, c⟩ | ⟨-, e, b, -, c⟩ | ⟨-, b, c⟩ | ⟨-, b, c⟩ <;> omega
theorem c_rest (h : cE ad nm A L F I) (hc : cfg A L F I) (hcc : c ≤ 512) (hd : d < 460) (st : stD A L F I c d X y) (h60 : ∀ p, cisp A I p → y (60 + p) = K 4 (2 * p) - K 4 (2 * p + 1)) {Q : Unit → jM → Prop}
    (q : ∀ K', (∀ a b, a ≠ 4 → a < 100 ∨ 300 ≤ a → K' a b = K a b) → (∀ p, cisp A I p → (restF I A L d (y, l)).1 (60 + p) = K' 4 (2 * p) - K' 4 (2 * p + 1)) → Q () (cM z ad nm A L F I (restF I A L d (y, l)).1 K' k μ0)) : wX3_passDay_30 z (ad (1, 0)) Q (cM z ad nm A L F I y K k μ0) := by
  have hn := hc.1
  have hA := hn.1
  have hL := hn.2.1
  have ao : ∀ m, m < 10 ∨ (50 ≤ m ∧ m < 76) ∨ 82 ≤ m → accF I A L y m = y m := fun m hm => accF_o hA hL hm
  obtain ⟨s1, s2, s3, s4⟩ := st
  have dn := dn_rng hn.2.2.1 s3
  have lim := bT_lim s1 hcc (show d / 20 ≤ 23 by omega) dn
  have hR := s1.2.2
  have ea : itr (linS I) L (foldS (acP A I) (ctops A I) y) = accF I A L y := by
    rw [accrue_eq hn.2.2.2.1 hn.2.2.2.2.1 hn.2.2.2.2.2.1 hA (X := X + 60000000) (by have := s1.1; omega) (by omega) (bR_bd hL hR)]
    rfl
  unfold wX3_passDay_30
  refine ⟨ch1 h.1, c_accrueInterest h ?_⟩
  rw [ea]
  refine ⟨_, cg1_6 h.1, ?_⟩
  rw [ao 108 (by omega), s4, lN_i, nI_1]
  unfold restF at q
  constructor
  · intro g
    rw [if_neg g] at q
    refine ⟨_, cg1_6 h.1, _, cw1_6 h, ?_⟩
    rw [ao 108 (by omega), s4, lN_i, nI_1]
    refine q K (fun _ _ _ _ => rfl) (fun p hp => ?_)
    have := hp.1
    show dayW d _ (60 + p) = _
    rw [dayW_o (by omega), ao (60 + p) (by omega)]
    exact h60 p hp
  · intro g
    rw [if_pos g] at q
    have g' := (rem20_0 (show d < 1000 by omega)).mp g
    have a1 := acc_bW hn hc.2.2.1 s1.1 (by omega) (show d % 20 < 20 by omega) hR s2
    rw [show d % 20 + 1 = 20 by omega] at a1
    have aR : bR A L I X (accF I A L y) := bR_mv hR (bS_congr (fun i hi => ao i (by omega))).1 (Int.le_of_eq (bS_congr (fun i hi => ao i (by omega))).2) (fun l hl => ao (70 + l) (by omega))
    have aT : bT A L F I c (d / 20) X (accF I A L y) := bT_same s1 (sm_congr F (fun f hf => by show (accF I A L y (88 + f)).toInt = _; rw [ao (88 + f) (by omega)])) aR
    have aF : flB F I (accF I A L y) := fun f hf => by
      obtain ⟨m, t, q1, q2, q3, q4⟩ := s3 f hf
      exact ⟨m, t, q1, q2, (ao (88 + f) (by omega)).trans q3, q4⟩
    obtain ⟨-, u4, u5, u6, u7⟩ := book_bW (l := l) (K0 := K) hn hcc (show d / 20 ≤ 22 by omega) aF aT a1 (fun p hp => by rw [ao (60 + p) (by have := hp.1; omega)]; exact h60 p hp)
    refine ⟨ch1 h.1, c_bookInterest h ⟨_, cg1_6 h.1, _, cw1_6 h, ?_⟩⟩
    have e108 : itr (lcS I) L (foldS (bkPl A I) (ctops A I) (accF I A L y, K)).1 108 = lN d := by
      rw [u5 108 (by omega), u4 108 (by omega), ao 108 (by omega), s4]
    rw [e108, lN_i, nI_1]
    have w := q (foldS (bkPl A I) (ctops A I) (accF I A L y, K)).2 u7 (fun p hp => by
      have := hp.1
      show dayW d _ (60 + p) = _
      rw [dayW_o (by omega)]
      exact u6 p hp)
    rw [cM_60 hn (y := dayW d (bkF I A L (accF I A L y, l)).1) (fun m hm => by
      by_cases e : m = 108
      · rw [e, pk_uLs]
        unfold dayW
        rw [pk_uLs]
      · rw [pk_uLn e, dayW_o e]
        exact u5 m hm)]
    exact w
theorem c_passDay (h : cE ad nm A L F I) (hc : cfg A L F I) (hcc : c ≤ 512) (hd : d < 460) (st : stD A L F I c d X y) (h60 : ∀ p, cisp A I p → y (60 + p) = K 4 (2 * p) - K 4 (2 * p + 1)) {Q : Unit → jM → Prop}
    (q : ∀ K', (∀ a b, a ≠ 4 → a ≠ 5 → a < 100 ∨ 300 ≤ a → K' a b = K a b) → (∀ p, cisp A I p → (passF I A L F 6 18 d (y, l)).1 (60 + p) = K' 4 (2 * p) - K' 4 (2 * p + 1)) → Q () (cM z ad nm A L F I (passF I A L F 6 18 d (y, l)).1 K' k μ0)) : wX3_passDay z (ad (1, 0)) (cM z ad nm A L F I y K k μ0) Q := by
  have hn := hc.1
  have hA := hn.1
  have hL := hn.2.1
  have s4 := st.2.2.2
  unfold wX3_passDay wX3_passDay_0
  unfold passF at q
  refine ⟨_, cg1_5 h.1, _, cg1_6 h.1, _, ⟨rfl, ch2 h.1⟩, c_settles h (by rw [s4, lN_i]) (by
    by_cases g : d ≤ 450
    · exact Or.inl g
    · exact Or.inr ⟨by omega, hc.2.2.2.2 d (by omega)⟩) ⟨fun g => ?_, fun g => ?_⟩⟩
  · have g' : ¬ stF I d = true := fun v => by rw [v] at g; exact absurd g (by decide)
    rw [if_neg g'] at q
    exact c_rest h hc hcc hd st h60 (fun K' k1 k2 => q K' (fun a b h1 _ h3 => k1 a b h1 h3) k2)
  · have g' : stF I d = true := by
      cases v : stF I d with
      | true => rfl
      | false => rw [v] at g; exact absurd rfl g
    rw [if_pos g'] at q
    obtain ⟨X1, g1, g2, g3, g4, g5, g6, g7, g8, g9⟩ := settle_eq (d := d) hn hc.2.2.2.1 hc.2.1 hcc (show d / 20 ≤ 23 by omega) st.2.2.1 st.1
    have X10 := g3.1
    obtain ⟨X2, m1, m2⟩ := moved_st hc hcc hd st
    refine ⟨ch1 h.1, c_bookDueFlows h st.2.2.1 s4 ⟨ch1 h.1, c_sweepPools h ?_⟩⟩
    rw [g7]
    refine ⟨ch1 h.1, c_coverPools h ?_⟩
    rw [g8]
    refine ⟨ch1 h.1, c_easeBanks h (fun v => bR A L I X1 v) (fun v hv => ?_) (fun v v' hv hv' => ease_step hA hL hn.2.2.2.2.1 X10 (by omega) hv hv') 18 (by omega) g9 g5.2 (fun K1 hK1 => ?_)⟩
    · have b := bR_bd hL hv
      refine ⟨bd_exOk hA (by omega) (by omega) b, fun i hi => ?_⟩
      have := bdX_hi b hA hi
      omega
    · have e4 : K1 4 = K 4 := funext (fun b => hK1 4 b (by omega))
      exact c_rest (y := setlF I A L F 6 18 d y) h hc hcc hd m2 (fun p hp => by
        have := hp.1
        rw [g6 (60 + p) (by omega), e4]
        exact h60 p hp) (fun K' k1 k2 => q K' (fun a b h1 h2 h3 => (k1 a b h1 h3).trans (hK1 a b h2)) k2)
end CP
