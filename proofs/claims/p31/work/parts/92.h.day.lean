/-! ===== a day keeps what holds of interest and cost; what a pool has behind it ===== -/
theorem sm_ex {f : Nat → Int} : ∀ n, 0 < sm f n → ∃ j, j < n ∧ 0 < f j
  | 0, h => absurd h (Int.lt_irrefl 0)
  | n + 1, h => by
    by_cases c : 0 < f n
    · exact ⟨n, by omega, c⟩
    · have h' : 0 < sm f n + f n := h
      have h3 : 0 < sm f n := by omega
      obtain ⟨j, h1, h2⟩ := sm_ex n h3
      exact ⟨j, by omega, h2⟩
def qV (A L d : Nat) (I : Nat → Nat → Int32) (y : Nat → Int64) : Prop := iV A I y ∧ wI A I y ∧ cV L d y
section DH
variable {A L F p q : Nat} {I : Nat → Nat → Int32} {y y' l : Nat → Int64} {d c e : Nat} {X : Int}
/-- nothing but balances, what is drawn, and flows -/
theorem qV_same (hn : cEn A L F I) (h : ∀ m, (10 ≤ m ∧ m < 70) ∨ (76 ≤ m ∧ m < 88) → y' m = y m) (v : qV A L d I y) : qV A L d I y' := by
  have hA := hn.1
  have hL := hn.2.1
  obtain ⟨v1, v2, v3⟩ := v
  refine ⟨fun p hp => ?_, fun p hp => ?_, fun l hl => ?_⟩
  · have pA := hp.1
    rw [h _ (by omega), ← v1 p hp]
    exact ps_congr (fun i hi => h (50 + i) (by omega))
  · have pA := hp.1
    rw [h _ (by omega), h _ (by omega)]
    exact ⟨fun z => (v2 p hp).1 (fun x hx ht => by rw [← h (30 + x) (by omega)]; exact z x hx ht), fun z => (v2 p hp).2 (fun x hx ht => by rw [← h (40 + x) (by omega)]; exact z x hx ht)⟩
  · rw [h _ (by omega)]
    exact v3 l hl
theorem qV_mono {d' : Nat} (hd : d ≤ d') (v : qV A L d I y) : qV A L d' I y := by
  refine ⟨v.1, v.2.1, fun l hl => ?_⟩
  have := v.2.2 l hl
  omega
/-- a pool's accruing, at its sums and its members' weights -/
theorem accF_at (hn : cEn A L F I) {k : Nat} (hk : k < A) : ∃ w : Nat → Int64, (∀ m, m < 10 ∨ 50 ≤ m → w m = y m) ∧ w (10 + k) = y (10 + k) ∧ w (20 + k) = y (20 + k) ∧ (∀ x, x < A → tI I x = k → w (30 + x) = y (30 + x) ∧ w (40 + x) = y (40 + x)) ∧
    accF I A L y (10 + k) = accS I A k w (10 + k) ∧ accF I A L y (20 + k) = accS I A k w (20 + k) ∧ ∀ x, x < A → tI I x = k → accF I A L y (30 + x) = accS I A k w (30 + x) ∧ accF I A L y (40 + x) = accS I A k w (40 + x) := by
  have hA := hn.1
  have hL := hn.2.1
  have lines : ∀ m, m < 76 → accF I A L y m = itr (accS I A) A y m := fun m hm => itr_bd (R := fun s : Nat → Int64 => s m = itr (accS I A) A y m) L _ (fun k s hk hs => by
    unfold linS
    rw [pk_uLn (by omega)]
    exact hs) rfl
  have lone : ∀ m, (∀ k' s, k' < A → k' ≠ k → accS I A k' s m = s m) → accF I A L y m = accS I A k (itr (accS I A) k y) m ∨ ¬ m < 76 := fun m h => by
    by_cases g : m < 76
    · exact Or.inl ((lines m g).trans ((itr_lone (f := accS I A) (m := m) (p := k) A y h).1 hk))
    · exact Or.inr g
  have stay : ∀ m, (∀ k' s, k' < A → k' ≠ k → accS I A k' s m = s m) → itr (accS I A) k y m = y m := fun m h => (itr_lone (f := accS I A) (m := m) (p := k) k y (fun k' s hk' hne => h k' s (by omega) hne)).2 (Nat.le_refl k)
  have h25 : ∀ m, m = 10 + k ∨ m = 20 + k → ∀ k' s, k' < A → k' ≠ k → accS I A k' s m = s m := fun m hm k' s hk' hne => accS_25 hk' hA (by omega) (by omega) (by omega)
  have hww : ∀ x, x < A → tI I x = k → ∀ k' s, k' < A → k' ≠ k → accS I A k' s (30 + x) = s (30 + x) ∧ accS I A k' s (40 + x) = s (40 + x) := fun x hx ht k' s hk' hne => by
    obtain ⟨T, t1, t2⟩ := accS_w (y := s) hn hk' hx
    rw [t1, t2, if_neg (fun g => hne (g.2.1.symm.trans ht)), if_neg (fun g => hne (g.2.1.symm.trans ht)), Int64.add_zero, Int64.add_zero]
    exact ⟨rfl, rfl⟩
  refine ⟨itr (accS I A) k y, fun m hm => itr_bd (R := fun s : Nat → Int64 => s m = y m) k y (fun k' s hk' hs => (accS_o (by omega) hA hm).trans hs) rfl, stay _ (h25 _ (Or.inl rfl)), stay _ (h25 _ (Or.inr rfl)), fun x hx ht => ⟨stay _ (fun k' s a b => (hww x hx ht k' s a b).1), stay _ (fun k' s a b => (hww x hx ht k' s a b).2)⟩, ?_, ?_, fun x hx ht => ⟨?_, ?_⟩⟩
  · exact (lone _ (h25 _ (Or.inl rfl))).resolve_right (by omega)
  · exact (lone _ (h25 _ (Or.inr rfl))).resolve_right (by omega)
  · exact (lone _ (fun k' s a b => (hww x hx ht k' s a b).1)).resolve_right (by omega)
  · exact (lone _ (fun k' s a b => (hww x hx ht k' s a b).2)).resolve_right (by omega)
theorem wI_acc (hn : cEn A L F I) (hr : rtOk A L I) (hX0 : 0 ≤ X) (hX : X ≤ 2300000000) (he : e < 20) (hb : bR A L I X y) (h : bW A L I e X y) (v : wI A I y) : wI A I (accF I A L y) := by
  have hA := hn.1
  have hL := hn.2.1
  have tb := bR_bd hL hb
  obtain ⟨h1, h2, h3, h4, h5⟩ := h
  have eb2 : (e : Int) * (2 * X + 70000000) ≤ 20 * (2 * X + 70000000) := Int.mul_le_mul_of_nonneg_right (by omega) (by omega)
  have eb : (e : Int) * (1000 * (2 * X + 70000000)) ≤ 20 * (1000 * (2 * X + 70000000)) := Int.mul_le_mul_of_nonneg_right (by omega) (by omega)
  intro p hp
  obtain ⟨pA, p3⟩ := hp
  obtain ⟨w, w1, w2, w3, w4, a1, a2, a3⟩ := accF_at (L := L) (y := y) hn pA
  have wb : bdX A (X + 60000000) w := bdX_congr tb (fun i hi => w1 i (by omega))
  have sp := h1 p pA
  have s1 := sm_at (f := fun p => (y (10 + p)).toInt) (i := p) A (fun j hj => (h1 j hj).1) pA
  have s2 := sm_at (f := fun p => (y (20 + p)).toInt) (i := p) A (fun j hj => (h1 j hj).2.1) pA
  obtain ⟨q1, q2⟩ := accS_at (L := L) hn (X := X + 60000000) (by omega) (by omega) wb hr pA (by rw [w2, w3]; omega) p3
  have tc : tP A I p w = tP A I p y := tP_congr (fun i hi => w1 i (by omega))
  have et : (sumF I A w (nI p) p).toInt = tP A I p y := by
    rw [← mbT_eq hn.2.2.2.1 hn.2.2.2.2.1 hn.2.2.2.2.2.1 hA pA, ← tc]
    exact (mbT_int (I := I) (p := p) hA (by omega) (by omega) wb).1
  -- the members' weights
  have ws : ∀ x, x < A → tI I x = p → accS I A p w (30 + x) = y (30 + x) + (if 0 < tP A I p y ∧ 0 < (y x).toInt then y x else 0) ∧ accS I A p w (40 + x) = y (40 + x) + (if tP A I p y < 0 ∧ (y x).toInt < 0 then -(y x) else 0) := by
    intro x hx ht
    have m4 := (mem4 hn.2.2.2.2.1 hA pA hx).mpr ht
    unfold accS
    rw [if_pos p3]
    generalize sumF I A w (nI p) p = T at et
    obtain ⟨u1, u2⟩ := wtS_at (y := acc0 I p T w) (I := I) (k := p) (s := T) hA hx
    have a0 : ∀ m, m ≠ 10 + p → m ≠ 20 + p → acc0 I p T w m = w m := fun m h1 h2 => by
      unfold acc0
      rw [pk_uLn h2, pk_uLn h1]
    rw [u1, u2, a0 (30 + x) (by omega) (by omega), a0 (40 + x) (by omega) (by omega), a0 x (by omega) (by omega), if_pos m4, w1 x (by omega), (w4 x hx ht).1, (w4 x hx ht).2]
    have l1 : 0 < T ↔ 0 < tP A I p y := by rw [Int64.lt_iff_toInt_lt, i64_0, et]
    have l2 : T < 0 ↔ tP A I p y < 0 := by rw [Int64.lt_iff_toInt_lt, i64_0, et]
    have l3 : 0 < y x ↔ 0 < (y x).toInt := by rw [Int64.lt_iff_toInt_lt, i64_0]
    have l4 : y x < 0 ↔ (y x).toInt < 0 := by rw [Int64.lt_iff_toInt_lt, i64_0]
    constructor
    · by_cases g : 0 < tP A I p y ∧ 0 < (y x).toInt
      · rw [if_pos g, if_pos ⟨l1.mpr g.1, l3.mpr g.2⟩]
      · rw [if_neg g, if_neg (fun k => g ⟨l1.mp k.1, l3.mp k.2⟩)]
    · by_cases g : tP A I p y < 0 ∧ (y x).toInt < 0
      · rw [if_pos g, if_pos ⟨l2.mpr g.1, l4.mpr g.2⟩]
      · rw [if_neg g, if_neg (fun k => g ⟨l2.mp k.1, l4.mp k.2⟩)]
  have yb : ∀ x, x < A → -(X + 61000000) ≤ (y x).toInt ∧ (y x).toInt ≤ 2 * X + 130000000 := fun x hx => by
    have b1 := bdX_lo tb hx
    have b2 := bdX_hi tb hA hx
    omega
  have w30 : ∀ x, x < A → (0 ≤ (y (30 + x)).toInt ∧ (y (30 + x)).toInt ≤ 20 * (2 * X + 70000000)) ∧ (0 ≤ (y (40 + x)).toInt ∧ (y (40 + x)).toInt ≤ 20 * (2 * X + 70000000)) := fun x hx => by
    have := h4 x hx
    omega
  constructor
  · intro z
    -- all new weights are 0: so were the old ones, and nothing came
    have zz : ∀ x, x < A → tI I x = p → y (30 + x) = 0 ∧ ¬ (0 < tP A I p y ∧ 0 < (y x).toInt) := by
      intro x hx ht
      have e1 := z x hx ht
      rw [(a3 x hx ht).1, (ws x hx ht).1] at e1
      have b1 := w30 x hx
      have b2 := yb x hx
      by_cases g : 0 < tP A I p y ∧ 0 < (y x).toInt
      · rw [if_pos g] at e1
        have := congrArg Int64.toInt e1
        rw [i64_add (by omega) (by omega), i64_0] at this
        omega
      · rw [if_neg g, Int64.add_zero] at e1
        exact ⟨e1, g⟩
    have np : ¬ 0 < tP A I p y := by
      intro g
      obtain ⟨x, hx, hpos⟩ := sm_ex A g
      by_cases ht : tI I x = p
      · rw [if_pos ht] at hpos
        exact (zz x hx ht).2 ⟨g, hpos⟩
      · rw [if_neg ht] at hpos
        omega
    rw [a1, q1, tc, if_neg np, w2]
    have := (v p ⟨pA, p3⟩).1 (fun x hx ht => (zz x hx ht).1)
    omega
  · intro z
    have zz : ∀ x, x < A → tI I x = p → y (40 + x) = 0 ∧ ¬ (tP A I p y < 0 ∧ (y x).toInt < 0) := by
      intro x hx ht
      have e1 := z x hx ht
      rw [(a3 x hx ht).2, (ws x hx ht).2] at e1
      have b1 := w30 x hx
      have b2 := yb x hx
      by_cases g : tP A I p y < 0 ∧ (y x).toInt < 0
      · rw [if_pos g] at e1
        have := congrArg Int64.toInt e1
        rw [i64_add (by rw [i64_neg (by omega)]; omega) (by rw [i64_neg (by omega)]; omega), i64_neg (by omega), i64_0] at this
        omega
      · rw [if_neg g, Int64.add_zero] at e1
        exact ⟨e1, g⟩
    have np : ¬ tP A I p y < 0 := by
      intro g
      have g' : 0 < sm (fun i => -(if tI I i = p then (y i).toInt else 0)) A := by
        rw [sm_neg]
        unfold tP at g
        omega
      obtain ⟨x, hx, hpos⟩ := sm_ex A g'
      by_cases ht : tI I x = p
      · rw [if_pos ht] at hpos
        exact (zz x hx ht).2 ⟨g, by omega⟩
      · rw [if_neg ht] at hpos
        omega
    rw [a2, q2, tc, if_neg np, w3]
    have := (v p ⟨pA, p3⟩).2 (fun x hx ht => (zz x hx ht).1)
    omega
/-- what is behind the moves of a day -/
theorem rest_keeps (hc : cfg A L F I) (hcc : c ≤ 512) (hd : d < 460) (h : stD A L F I c d X y) (v : qV A L d I y) : qV A L (d + 1) I (restF I A L d (y, l)).1 ∧ ∀ q, q < 10 → gP A L I q (restF I A L d (y, l)).1 = gP A L I q y := by
  obtain ⟨hn, htg, hr, ham, -⟩ := hc
  have hA := hn.1
  have hL := hn.2.1
  obtain ⟨s1, s2, s3, s4⟩ := h
  have dn := dn_rng hn.2.2.1 s3
  have lim := bT_lim s1 hcc (show d / 20 ≤ 23 by omega) dn
  obtain ⟨X0, hT, hR⟩ := s1
  have a1 : ∀ q, q < 10 → gP A L I q (accF I A L y) = gP A L I q y := fun q hq => gP_acc hn hq
  have a2 : iV A I (accF I A L y) := fun p hp => by
    have pA := hp.1
    rw [accF_o hA hL (by omega), ← v.1 p hp]
    exact ps_congr (fun i hi => accF_o hA hL (by omega))
  have a3 := wI_acc (e := d % 20) hn hr X0 (by omega) (by omega) hR s2 v.2.1
  have a4 : cV L d (accF I A L y) := fun l hl => by
    rw [accF_o hA hL (by omega)]
    exact v.2.2 l hl
  have dw : ∀ u : Nat → Int64, qV A L (d + 1) I u → qV A L (d + 1) I (dayW d u) := fun u g => qV_same hn (fun m hm => dayW_o (by omega)) g
  have dg : ∀ (u : Nat → Int64) q, q < 10 → gP A L I q (dayW d u) = gP A L I q u := fun u q hq => gP_congr (fun i hi => dayW_o (by omega)) (dayW_o (by omega)) (fun l hl => ⟨dayW_o (by omega), dayW_o (by omega)⟩)
  unfold restF
  by_cases g : nI (d + 1) - nI (d + 1) / 20 * 20 = 0
  · rw [if_pos g]
    have g' := (rem20_0 (d := d) (by omega)).mp g
    have e20 : d % 20 + 1 = 20 := by omega
    have bw := acc_bW hn hr X0 (show X ≤ 2300000000 by omega) (show d % 20 < 20 by omega) hR s2
    rw [e20] at bw
    obtain ⟨k1, k2, k3⟩ := wF_smOk X0 (by omega) bw
    obtain ⟨m1, m2, m3, m4⟩ := bk_keeps (l := l) hn k1 k2 a3 k3 a2 (show d < 1000 by omega) a4
    exact ⟨dw _ ⟨m2, m3, m4⟩, fun q hq => (dg _ q hq).trans ((m1 q hq).trans (a1 q hq))⟩
  · rw [if_neg g]
    exact ⟨dw _ (qV_mono (by omega) ⟨a2, a3, a4⟩), fun q hq => (dg _ q hq).trans (a1 q hq)⟩
/-- a day -/
theorem pass_keeps (hc : cfg A L F I) (hcc : c ≤ 512) (hd : d < 460) (h : stD A L F I c d X y) (v : qV A L d I y) : qV A L (d + 1) I (passF I A L F 6 18 d (y, l)).1 := by
  have hn := hc.1
  unfold passF
  by_cases g : stF I d = true
  · rw [if_pos g]
    obtain ⟨X', -, m2⟩ := moved_st hc hcc hd h
    obtain ⟨-, -, -, -, -, -, s6, -⟩ := settle_eq (d := d) hn hc.2.2.2.1 hc.2.1 hcc (show d / 20 ≤ 23 by omega) h.2.2.1 h.1
    exact (rest_keeps hc hcc hd m2 (qV_same hn (fun m hm => s6 m (by omega)) v)).1
  · rw [if_neg g]
    exact (rest_keeps hc hcc hd h v).1
theorem pass_gP (hc : cfg A L F I) (hcc : c ≤ 512) (hd : d ≤ 450) (h : stD A L F I c d X y) (hw : fwOk F d I y) (v : qV A L d I y) (hq : q < 10) : gP A L I q (passF I A L F 6 18 d (y, l)).1 = gP A L I q y + s64 (fun k => if tI I k = q then scF I F y k (nI d) (nI d) else 0) A := by
  have hn := hc.1
  unfold passF
  by_cases g : stF I d = true
  · rw [if_pos g]
    obtain ⟨X', -, m2⟩ := moved_st hc hcc (show d < 460 by omega) h
    obtain ⟨-, -, -, -, -, -, s6, -⟩ := settle_eq (d := d) hn hc.2.2.2.1 hc.2.1 hcc (show d / 20 ≤ 23 by omega) h.2.2.1 h.1
    rw [(rest_keeps hc hcc (by omega) m2 (qV_same hn (fun m hm => s6 m (by omega)) v)).2 q hq, gP_setl hn hw hd g hq]
  · rw [if_neg g]
    rw [(rest_keeps hc hcc (by omega) h v).2 q hq, s64_0 A (fun k _ => by rw [sc_none (by omega) g]; split <;> rfl), Int64.add_zero]
theorem dy_keeps (hc : cfg A L F I) (hcc : c ≤ 512) (h : stD A L F I c d X y) (v : qV A L d I y) : ∀ t, d + t ≤ 460 → qV A L (d + t) I (dyF I A L F d (y, l) t).1
  | 0, _ => v
  | t + 1, ht => by
    obtain ⟨⟨X', -, s⟩, -, -⟩ := dy_st (l := l) hc hcc h t (by omega)
    exact pass_keeps (d := d + t) (l := (dyF I A L F d (y, l) t).2) hc hcc (show d + t < 460 by omega) s (dy_keeps hc hcc h v t (by omega))
end DH
