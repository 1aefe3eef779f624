/-! ===== what holds between calls ===== -/
def zO (A L F : Nat) (y : Nat → Int64) : Prop := ∀ m, m < 109 → dm A L F m → y m = 0
def vO (A : Nat) (I : Nat → Nat → Int32) : Prop := ∀ i, A ≤ i → i < 10 → I 6 i = 0 ∧ I 7 i = 0 ∧ I 8 i = 0
def h6O (A : Nat) (I : Nat → Nat → Int32) (y : Nat → Int64) (K : Nat → Nat → Int64) : Prop := ∀ p, cisp A I p → y (60 + p) = K 4 (2 * p) - K 4 (2 * p + 1)
def lV (A L F : Nat) (I : Nat → Nat → Int32) (y : Nat → Int64) (c d : Nat) (X : Int) : Prop := d ≤ 400 ∧ cfg A L F I ∧ stD A L F I c d X y ∧ fwOk F d I y ∧ zO A L F y ∧ vO A I
section LV
variable {A L F : Nat} {I I' : Nat → Nat → Int32} {y y' l : Nat → Int64} {K K' : Nat → Nat → Int64} {X : Int} {c d n : Nat}
theorem dm_A {i : Nat} (hA : A ≤ i) (hi : i < 10) (hL : L ≤ 6) (hF : F ≤ 20) : dm A L F i ∧ dm A L F (10 + i) ∧ dm A L F (20 + i) ∧ dm A L F (30 + i) ∧ dm A L F (40 + i) ∧ dm A L F (50 + i) ∧ dm A L F (60 + i) := by
  refine ⟨?_, ?_, ?_, ?_, ?_, ?_, ?_⟩ <;> exact ⟨fun x hx => by omega, fun l hl => by omega, fun f hf => by omega, by omega⟩
theorem dm_L {i : Nat} (hA : A ≤ 10) (hi : i < 6) (hL : L ≤ i) (hF : F ≤ 20) : dm A L F (70 + i) ∧ dm A L F (76 + i) ∧ dm A L F (82 + i) := by
  refine ⟨?_, ?_, ?_⟩ <;> exact ⟨fun x hx => by omega, fun l hl => by omega, fun f hf => by omega, by omega⟩
theorem dm_F {i : Nat} (hA : A ≤ 10) (hi : i < 20) (hL : L ≤ 6) (hF : F ≤ i) : dm A L F (88 + i) := ⟨fun x hx => by omega, fun l hl => by omega, fun f hf => by omega, by omega⟩
theorem zO_mono {A' L' F' : Nat} (h : zO A L F y) (hA : A ≤ A') (hL : L ≤ L') (hF : F ≤ F') : zO A' L' F' y := fun m hm g => h m hm ⟨fun x hx => g.1 x (by omega), fun l hl => g.2.1 l (by omega), fun f hf => g.2.2.1 f (by omega), g.2.2.2⟩
theorem lV_fresh (h : lV A L F I y c d X) (hA : A < 10) : fresh A I y := by
  obtain ⟨-, hc, -, -, hz, hv⟩ := h
  have hL := hc.1.2.1
  have hF := hc.1.2.2.1
  obtain ⟨d1, d2, d3, d4, d5, d6, d7⟩ := dm_A (L := L) (F := F) (Nat.le_refl A) hA hL hF
  obtain ⟨v1, v2, v3⟩ := hv A (Nat.le_refl A) hA
  exact ⟨hz _ (by omega) d1, hz _ (by omega) d6, hz _ (by omega) d4, hz _ (by omega) d5, hz _ (by omega) d2, hz _ (by omega) d3, hz _ (by omega) d7, v1, v2, v3⟩
theorem lV_line (h : lV A L F I y c d X) (hL : L < 6) : y (70 + L) = 0 ∧ y (76 + L) = 0 ∧ y (82 + L) = 0 := by
  obtain ⟨-, hc, -, -, hz, -⟩ := h
  obtain ⟨d1, d2, d3⟩ := dm_L (A := A) (F := F) hc.1.1 hL (Nat.le_refl L) hc.1.2.2.1
  exact ⟨hz _ (by omega) d1, hz _ (by omega) d2, hz _ (by omega) d3⟩
theorem lV_flow (h : lV A L F I y c d X) (hF : F < 20) : y (88 + F) = 0 := by
  obtain ⟨-, hc, -, -, hz, -⟩ := h
  exact hz _ (by omega) (dm_F hc.1.1 hF hc.1.2.1 (Nat.le_refl F))
theorem T_mono {c n : Nat} {D : Int} : (1000000 * ((c : Int) + D) + 120000000) * (100 + 3 * (n : Int)) + 1000000 * (100 + 3 * (n : Int)) = (1000000 * (((c + 1 : Nat) : Int) + D) + 120000000) * (100 + 3 * (n : Int)) := by
  rw [← Int.add_mul]
  congr 1
  omega
theorem bT_c (h : bT A L F I c n X y) : bT A L F I (c + 1) n X y := by
  refine ⟨h.1, ?_, h.2.2⟩
  rw [← T_mono]
  have := h.2.1
  omega
/-- other rows: what must hold of them -/
theorem lV_I (h : lV A L F I y c d X) (r : ∀ k, k ≠ 6 → k ≠ 7 → k ≠ 8 → k ≠ 14 → k ≠ 20 → I' k = I k) (hn : cEn A L F I') (ht : tgOk A I') (h20 : ∀ e, 450 < e → I' 20 e = 0) (hs : ∀ e, stF I' e = true → stF I e = true) (hv : vO A I') : lV A L F I' y (c + 1) d X := by
  obtain ⟨hd, ⟨-, -, hr, ham, -⟩, ⟨s1, s2, s3, s4⟩, hw, hz, -⟩ := h
  have e3 := r 3 (by decide) (by decide) (by decide) (by decide) (by decide)
  have e9 := r 9 (by decide) (by decide) (by decide) (by decide) (by decide)
  have e10 := r 10 (by decide) (by decide) (by decide) (by decide) (by decide)
  have e12 := r 12 (by decide) (by decide) (by decide) (by decide) (by decide)
  have e13 := r 13 (by decide) (by decide) (by decide) (by decide) (by decide)
  have e16 := r 16 (by decide) (by decide) (by decide) (by decide) (by decide)
  have e17 := r 17 (by decide) (by decide) (by decide) (by decide) (by decide)
  have e18 := r 18 (by decide) (by decide) (by decide) (by decide) (by decide)
  have e19 := r 19 (by decide) (by decide) (by decide) (by decide) (by decide)
  refine ⟨hd, ⟨hn, ht, ?_, ?_, h20⟩, ⟨?_, ?_, ?_, s4⟩, ?_, hz, hv⟩
  · unfold rtOk; rw [e9, e10, e13]; exact hr
  · unfold amOk; rw [e16]; exact ham
  · have := bT_c s1
    unfold bT bR drOk at this ⊢
    rw [e12]; exact this
  · unfold bW at s2 ⊢
    rw [e3]; exact s2
  · unfold flB; rw [e19]; exact s3
  · have qae : qa I' = qa I := by funext f; unfold qa; rw [e17]
    have qbe : qb I' = qb I := by funext f; unfold qb; rw [e18]
    have qTe : qT I' = qT I := by funext f; unfold qT; rw [e19]
    unfold fwOk at hw ⊢
    rw [qae, qbe, qTe, e17, e18, e19]
    intro f hf
    obtain ⟨w1, w2, w3, w4, w5, w6, w7, w8, w9⟩ := hw f hf
    exact ⟨w1, w2, w3, w4, w5, w6, w7, w8, fun g e e1 e2 v => w9 g e e1 e2 (hs e v)⟩
theorem lV_c (h : lV A L F I y c d X) : lV A L F I y (c + 1) d X := lV_I h (fun _ _ _ _ _ _ => rfl) h.2.1.1 h.2.1.2.1 h.2.1.2.2.2.2 (fun _ v => v) h.2.2.2.2.2
theorem sm_0 {f : Nat → Int} {n : Nat} (h : f n = 0) : sm f (n + 1) = sm f n := by
  show sm f n + f n = sm f n
  omega
/-- an account more -/
theorem lV_A (h : lV A L F I y c d X) (hA : A < 10) (a : aI A I I') (hn : cEn (A + 1) L F I') (h9 : 0 ≤ (I' 9 A).toInt ∧ (I' 9 A).toInt ≤ 1000) (h10 : 0 ≤ (I' 10 A).toInt ∧ (I' 10 A).toInt ≤ 1000) : lV (A + 1) L F I' y (c + 1) d X := by
  obtain ⟨y1, -, y3, y4, y5, y6, -, v6, v7, v8⟩ := lV_fresh h hA
  obtain ⟨hd, ⟨-, ht, hr, ham, h20⟩, ⟨s1, s2, s3, s4⟩, hw, hz, hv⟩ := h
  have r : ∀ {k}, k ≠ 3 → k ≠ 4 → k ≠ 5 → k ≠ 9 → k ≠ 10 → I' k = I k := fun a1 a2 a3 a4 a5 => a.2 _ a1 a2 a3 a4 a5
  have e6 := r (k := 6) (by decide) (by decide) (by decide) (by decide) (by decide)
  have e7 := r (k := 7) (by decide) (by decide) (by decide) (by decide) (by decide)
  have e8 := r (k := 8) (by decide) (by decide) (by decide) (by decide) (by decide)
  have e12 := r (k := 12) (by decide) (by decide) (by decide) (by decide) (by decide)
  have e13 := r (k := 13) (by decide) (by decide) (by decide) (by decide) (by decide)
  have e16 := r (k := 16) (by decide) (by decide) (by decide) (by decide) (by decide)
  have e17 := r (k := 17) (by decide) (by decide) (by decide) (by decide) (by decide)
  have e18 := r (k := 18) (by decide) (by decide) (by decide) (by decide) (by decide)
  have e19 := r (k := 19) (by decide) (by decide) (by decide) (by decide) (by decide)
  have e20 := r (k := 20) (by decide) (by decide) (by decide) (by decide) (by decide)
  have t0 : (0 : Int64).toInt = 0 := by decide
  have t0' : (0 : Int32).toInt = 0 := by decide
  refine ⟨hd, ⟨hn, ?_, ?_, ?_, ?_⟩, ⟨?_, ?_, ?_, s4⟩, ?_, zO_mono hz (by omega) (Nat.le_refl _) (Nat.le_refl _), ?_⟩
  · intro i hi
    rw [e7, e8]
    by_cases e : i = A
    · rw [e, v7, v8, t0']; omega
    · exact ht i (by omega)
  · refine ⟨fun p hp => ?_, ?_⟩
    · by_cases e : p = A
      · rw [e]; exact ⟨h9, h10⟩
      · rw [a.1 9 p e, a.1 10 p e]; exact hr.1 p (by omega)
    · rw [e13]; exact hr.2
  · unfold amOk; rw [e16]; exact ham
  · rw [e20]; exact h20
  · obtain ⟨b1, b2, b3, b4, b5⟩ := bT_c s1
    have z1 : bS (A + 1) y = bS A y := sm_0 (by show (y A).toInt = 0; rw [y1, t0])
    have z2 : bN (A + 1) y = bN A y := sm_0 (by show ng (y A).toInt = 0; rw [y1, t0]; rfl)
    refine ⟨b1, b2, ?_, ?_, ?_⟩
    · rw [z1]; exact b3
    · rw [z2]; exact b4
    · unfold drOk; rw [e12]; exact b5
  · obtain ⟨w1, w2, w3, w4, w5⟩ := s2
    refine ⟨fun p hp => ?_, ?_, ?_, fun x hx => ?_, w5⟩
    · by_cases e : p = A
      · rw [e, y5, y6, t0]; exact ⟨by omega, by omega, fun _ => ⟨rfl, rfl⟩⟩
      · rw [a.1 3 p e]; exact w1 p (by omega)
    · rw [sm_0 (f := fun p => (y (10 + p)).toInt) (by show (y (10 + A)).toInt = 0; rw [y5, t0])]; exact w2
    · rw [sm_0 (f := fun p => (y (20 + p)).toInt) (by show (y (20 + A)).toInt = 0; rw [y6, t0])]; exact w3
    · by_cases e : x = A
      · have X0 := s1.1
        have p0 : (0 : Int) ≤ ((d % 20 : Nat) : Int) * (2 * X + 70000000) := Int.mul_nonneg (by omega) (by omega)
        rw [e, y3, y4, t0]
        exact ⟨⟨by omega, p0⟩, by omega, p0⟩
      · exact w4 x (by omega)
  · unfold flB; rw [e19]; exact s3
  · have qae : qa I' = qa I := by funext f; unfold qa; rw [e17]
    have qbe : qb I' = qb I := by funext f; unfold qb; rw [e18]
    have qTe : qT I' = qT I := by funext f; unfold qT; rw [e19]
    have ste : stF I' = stF I := by funext e; unfold stF; rw [e20]
    unfold fwOk at hw ⊢
    rw [qae, qbe, qTe, e17, e18, e19, ste]
    exact hw
  · intro i hi h10
    rw [e6, e7, e8]
    exact hv i (by omega) h10
/-- a line more -/
theorem lV_L (h : lV A L F I y c d X) (hL : L < 6) (a : lI L I I') (hn : cEn A (L + 1) F I') (h12 : 0 ≤ (I' 12 L).toInt ∧ (I' 12 L).toInt ≤ 10000000) (h13 : 0 ≤ (I' 13 L).toInt ∧ (I' 13 L).toInt ≤ 1000) : lV A (L + 1) F I' y (c + 1) d X := by
  obtain ⟨y1, y2, -⟩ := lV_line h hL
  obtain ⟨hd, ⟨-, ht, hr, ham, h20⟩, ⟨s1, s2, s3, s4⟩, hw, hz, hv⟩ := h
  have r : ∀ {k}, k ≠ 11 → k ≠ 12 → k ≠ 13 → I' k = I k := fun a1 a2 a3 => a.2 _ a1 a2 a3
  have e3 := r (k := 3) (by decide) (by decide) (by decide)
  have e6 := r (k := 6) (by decide) (by decide) (by decide)
  have e7 := r (k := 7) (by decide) (by decide) (by decide)
  have e8 := r (k := 8) (by decide) (by decide) (by decide)
  have e9 := r (k := 9) (by decide) (by decide) (by decide)
  have e10 := r (k := 10) (by decide) (by decide) (by decide)
  have e16 := r (k := 16) (by decide) (by decide) (by decide)
  have e17 := r (k := 17) (by decide) (by decide) (by decide)
  have e18 := r (k := 18) (by decide) (by decide) (by decide)
  have e19 := r (k := 19) (by decide) (by decide) (by decide)
  have e20 := r (k := 20) (by decide) (by decide) (by decide)
  have t0 : (0 : Int64).toInt = 0 := by decide
  refine ⟨hd, ⟨hn, ?_, ?_, ?_, ?_⟩, ⟨?_, ?_, ?_, s4⟩, ?_, zO_mono hz (Nat.le_refl _) (by omega) (Nat.le_refl _), ?_⟩
  · unfold tgOk; rw [e7, e8]; exact ht
  · refine ⟨?_, fun l hl => ?_⟩
    · rw [e9, e10]; exact hr.1
    · by_cases e : l = L
      · rw [e]; exact h13
      · rw [a.1 13 l e]; exact hr.2 l (by omega)
  · unfold amOk; rw [e16]; exact ham
  · rw [e20]; exact h20
  · obtain ⟨b1, b2, b3, b4, b5⟩ := bT_c s1
    have z1 : bD (L + 1) y = bD L y := sm_0 (by show (y (70 + L)).toInt = 0; rw [y1, t0])
    refine ⟨b1, b2, ?_, b4, fun l hl => ?_⟩
    · rw [z1]; exact b3
    · by_cases e : l = L
      · rw [e, y1, t0]; exact ⟨by omega, h12.1, h12.2⟩
      · rw [a.1 12 l e]; exact b5 l (by omega)
  · obtain ⟨w1, w2, w3, w4, w5⟩ := s2
    refine ⟨?_, w2, w3, w4, fun l hl => ?_⟩
    · rw [e3]; exact w1
    · by_cases e : l = L
      · rw [e, y2, t0]; omega
      · exact w5 l (by omega)
  · unfold flB; rw [e19]; exact s3
  · have qae : qa I' = qa I := by funext f; unfold qa; rw [e17]
    have qbe : qb I' = qb I := by funext f; unfold qb; rw [e18]
    have qTe : qT I' = qT I := by funext f; unfold qT; rw [e19]
    have ste : stF I' = stF I := by funext e; unfold stF; rw [e20]
    unfold fwOk at hw ⊢
    rw [qae, qbe, qTe, e17, e18, e19, ste]
    exact hw
  · unfold vO; rw [e6, e7, e8]; exact hv
/-- a booking -/
theorem lV_book (h : lV A L F I y c d X) (hc : c ≤ 512) {i : Nat} (hi : i < A) {v : Int32} (hv : -1000000 ≤ v.toInt ∧ v.toInt ≤ 1000000) : lV A L F I (vp_updL y i (y i + v.toInt64)) (c + 1) d (X + 1000000) := by
  obtain ⟨hd, hcf, ⟨s1, s2, s3, s4⟩, hw, hz, hv'⟩ := h
  have hA := hcf.1.1
  have hL := hcf.1.2.1
  have hF := hcf.1.2.2.1
  have lim := bT_lim s1 hc (show d / 20 ≤ 23 by omega) (dn_rng hF s3)
  have tb := bR_bd hL s1.2.2
  have X0 := s1.1
  have lo := bdX_lo tb hi
  have hi' := bdX_hi tb hA hi
  have e16 : v.toInt64.toInt = v.toInt := Int32.toInt_toInt64 _
  have tv : (vp_updL y i (y i + v.toInt64) i).toInt = (y i).toInt + v.toInt := by rw [pk_uLs, i64_add (by omega) (by omega), e16]
  have eo : ∀ j, j ≠ i → vp_updL y i (y i + v.toInt64) j = y j := fun j hj => pk_uLn hj
  generalize vp_updL y i (y i + v.toInt64) = y' at tv eo
  have q1 := sm_one (f := fun k => (y' k).toInt) (g := fun k => (y k).toInt) (i := i) A (fun j hj hne => by show (y' j).toInt = _; rw [eo j hne]) hi
  have q2 := sm_one (f := fun k => ng (y' k).toInt) (g := fun k => ng (y k).toInt) (i := i) A (fun j hj hne => by show ng (y' j).toInt = _; rw [eo j hne]) hi
  have q3 : dnF F y' = dnF F y := sm_congr F (fun f hf => by show (y' (88 + f)).toInt = _; rw [eo (88 + f) (by omega)])
  have q4 : bD L y' = bD L y := sm_congr L (fun l hl => by show (y' (70 + l)).toInt = _; rw [eo (70 + l) (by omega)])
  have n1 : ng (y' i).toInt ≤ ng (y i).toInt + 1000000 := by
    rw [tv]
    have := ng_sub (v := (y i).toInt) (w := 1000000) (by omega)
    have := ng_mono (v := (y i).toInt - 1000000) (w := (y i).toInt + v.toInt) (by omega)
    omega
  refine ⟨hd, hcf, ⟨⟨by omega, ?_, ?_, ?_, fun l hl => ?_⟩, bW_mono (bW_same hA hL s2 (fun m hm => eo m (by omega))) (by omega), ?_, ?_⟩, ?_, fun m hm g => ?_, hv'⟩
  · rw [q3, ← T_mono]
    have := s1.2.1
    omega
  · have := s1.2.2.1
    rw [q4]; unfold bS at this ⊢; omega
  · have := s1.2.2.2.1
    unfold bN at this ⊢; omega
  · rw [eo (70 + l) (by omega)]; exact s1.2.2.2.2 l hl
  · intro f hf
    rw [eo (88 + f) (by omega)]; exact s3 f hf
  · rw [eo 108 (by omega)]; exact s4
  · intro f hf
    have qme : qm y' f = qm y f := by unfold qm; rw [eo (88 + f) (by omega)]
    rw [qme, eo (88 + f) (by omega)]
    exact hw f hf
  · rw [eo m (g.1 i hi).1]
    exact hz m hm g
/-- days that pass -/
theorem lV_days (h : lV A L F I y c d X) (hc : c ≤ 512) {t : Nat} (ht : d + t ≤ 400) : ∃ X', lV A L F I (dyF I A L F d (y, l) t).1 (c + 1) (d + t) X' := by
  obtain ⟨hd, hcf, st, hw, hz, hv⟩ := h
  obtain ⟨⟨X', -, s'⟩, -, -⟩ := dy_st (l := l) hcf hc st t (by omega)
  refine ⟨X', lV_c ⟨ht, hcf, s', dy_fw hcf hc st hw t (by omega), fun m hm g => ?_, hv⟩⟩
  rw [dm_dy hcf.1 g]
  exact hz m hm g
theorem i32_rng {a b x : Int32} {m n : Int} (h : a ≤ x ∧ x ≤ b) (ha : a.toInt = m) (hb : b.toInt = n) : m ≤ x.toInt ∧ x.toInt ≤ n := by
  rw [Int32.le_iff_toInt_le, Int32.le_iff_toInt_le, ha, hb] at h
  exact h
/-- a flow more -/
theorem lV_F (h : lV A L F I y c d X) (hF : F < 20) {x x2 x3 x4 x5 : Int32} (hn : cEn A L (F + 1) (fsI I F x x2 x3 x4 x5)) (h2 : -1000000 ≤ x2 ∧ x2 ≤ 1000000) (h3 : nI d ≤ x3 ∧ x3 ≤ 450) (h4 : 1 ≤ x4 ∧ x4 ≤ 100) (h5 : 1 ≤ x5 ∧ x5 ≤ 30) : lV A L (F + 1) (fsI I F x x2 x3 x4 x5) y (c + 1) d X := by
  have v0 : y (88 + F) = lN 0 := (lV_flow h hF).trans (by decide)
  have d400 := h.1
  have n0 : ∀ {v : Int32}, 1 ≤ v → ¬ v < 0 := fun hv => Int32.not_lt.mpr (Int32.le_trans (show (0 : Int32) ≤ 1 by decide) hv)
  obtain ⟨a, ha, e3⟩ := nI_of2 (M := 450) (n := 450) rfl (Int32.not_lt.mpr (Int32.le_trans (nI_pos' (n := d) (by omega)) h3.1)) h3.2
  obtain ⟨b, hb, e4⟩ := nI_of2 (M := 100) (n := 100) rfl (n0 h4.1) h4.2
  obtain ⟨t, ht30, e5⟩ := nI_of2 (M := 30) (n := 30) rfl (n0 h5.1) h5.2
  have hda : d ≤ a := by
    have := h3.1
    rw [e3] at this
    exact (nI_leI (by omega) (by omega)).mp this
  obtain ⟨hd, ⟨-, ht, hr, ham, h20⟩, ⟨s1, s2, s3, s4⟩, hw, hz, hv⟩ := h
  obtain ⟨-, f16, f17, f18, f19⟩ := fsI_at (I := I) (F := F) (x := x) (x2 := x2) (x3 := x3) (x4 := x4) (x5 := x5)
  have lo : ∀ {r}, r < 15 ∨ 20 ≤ r → fsI I F x x2 x3 x4 x5 r = I r := fun h => fsI_lo h
  have no : ∀ {r f}, f ≠ F → fsI I F x x2 x3 x4 x5 r f = I r f := fun h => fsI_no h
  generalize fsI I F x x2 x3 x4 x5 = I' at hn f16 f17 f18 f19 lo no ⊢
  refine ⟨hd, ⟨hn, ?_, ?_, ?_, ?_⟩, ⟨?_, ?_, ?_, s4⟩, ?_, zO_mono hz (Nat.le_refl _) (Nat.le_refl _) (by omega), ?_⟩
  · unfold tgOk; rw [lo (r := 7) (by omega), lo (r := 8) (by omega)]; exact ht
  · unfold rtOk; rw [lo (r := 9) (by omega), lo (r := 10) (by omega), lo (r := 13) (by omega)]; exact hr
  · intro f hf
    by_cases e : f = F
    · rw [e, f16]; exact i32_rng h2 (by decide) (by decide)
    · rw [no e]; exact ham f (by omega)
  · rw [lo (r := 20) (by omega)]; exact h20
  · obtain ⟨b1, b2, b3, b4, b5⟩ := bT_c s1
    have z1 : dnF (F + 1) y = dnF F y := sm_0 (by show (y (88 + F)).toInt = 0; rw [v0]; decide)
    refine ⟨b1, ?_, b3, b4, ?_⟩
    · rw [z1]; exact b2
    · unfold drOk; rw [lo (r := 12) (by omega)]; exact b5
  · unfold bW at s2 ⊢
    rw [lo (r := 3) (by omega)]; exact s2
  · intro f hf
    by_cases e : f = F
    · rw [e, f19]; exact ⟨0, t, by omega, ht30, v0, e5⟩
    · obtain ⟨m, t, q1, q2, q3, q4⟩ := s3 f (by omega)
      rw [no e]; exact ⟨m, t, q1, q2, q3, q4⟩
  · intro f hf
    by_cases e : f = F
    · rw [e]
      have qae : qa I' F = a := by unfold qa; rw [f17, e3]; exact nI_clamp (by omega)
      have qbe : qb I' F = b := by unfold qb; rw [f18, e4]; exact nI_clamp (by omega)
      have qTe : qT I' F = t := by unfold qT; rw [f19, e5]; exact nI_clamp (by omega)
      have qme : qm y F = 0 := qm_of v0 (by decide)
      rw [qae, qbe, qTe, qme]
      exact ⟨ha, hb, by omega, ht30, f17.trans e3, f18.trans e4, f19.trans e5, v0, fun _ e h1 h2 => by omega⟩
    · have qae : qa I' f = qa I f := by unfold qa; rw [no e]
      have qbe : qb I' f = qb I f := by unfold qb; rw [no e]
      have qTe : qT I' f = qT I f := by unfold qT; rw [no e]
      have ste : stF I' = stF I := by funext e; unfold stF; rw [lo (r := 20) (by omega)]
      rw [qae, qbe, qTe, no e, no e, no e, ste]
      exact hw f (by omega)
  · unfold vO; rw [lo (r := 6) (by omega), lo (r := 7) (by omega), lo (r := 8) (by omega)]; exact hv
/-- a flow cancelled -/
theorem lV_cancel (h : lV A L F I y c d X) {i : Nat} (hi : i < F) : lV A L F (upR I 19 (upd (I 19) i (I 19 i - leftF I y i))) y (c + 1) d X := by
  obtain ⟨hd, ⟨hn, ht, hr, ham, h20⟩, ⟨s1, s2, s3, s4⟩, hw, hz, hv⟩ := h
  obtain ⟨m, t, q1, q2, q3, q4⟩ := s3 i hi
  have eI : I 19 i - leftF I y i = nI m := by
    unfold leftF
    rw [q3, lN_i, q4, nI_sub2 q1, nI_sub2 (by omega)]
    congr 1
    omega
  have s := sI_up (I := I) (r := 19) (g := upd (I 19) i (I 19 i - leftF I y i)) (by decide)
  have ro : ∀ {r}, r ≠ 19 → upR I 19 (upd (I 19) i (I 19 i - leftF I y i)) r = I r := fun h => upR_o h
  have ri : upR I 19 (upd (I 19) i (I 19 i - leftF I y i)) 19 i = nI m := by rw [upR_at, upd_at, eI]
  have rn : ∀ {f}, f ≠ i → upR I 19 (upd (I 19) i (I 19 i - leftF I y i)) 19 f = I 19 f := fun h => by rw [upR_at, upd_no h]
  have hn' : cEn A L F (upR I 19 (upd (I 19) i (I 19 i - leftF I y i))) := cEn_I s (fun j hj => by rw [ro (by decide)]; exact hn.2.2.2.2.2.2.2.2 j hj) hn
  generalize upR I 19 (upd (I 19) i (I 19 i - leftF I y i)) = I' at ro ri rn hn' ⊢
  refine ⟨hd, ⟨hn', ?_, ?_, ?_, ?_⟩, ⟨?_, ?_, ?_, s4⟩, ?_, hz, ?_⟩
  · unfold tgOk; rw [ro (r := 7) (by decide), ro (r := 8) (by decide)]; exact ht
  · unfold rtOk; rw [ro (r := 9) (by decide), ro (r := 10) (by decide), ro (r := 13) (by decide)]; exact hr
  · unfold amOk; rw [ro (r := 16) (by decide)]; exact ham
  · rw [ro (r := 20) (by decide)]; exact h20
  · have := bT_c s1
    unfold bT bR drOk at this ⊢
    rw [ro (r := 12) (by decide)]; exact this
  · unfold bW at s2 ⊢
    rw [ro (r := 3) (by decide)]; exact s2
  · intro f hf
    by_cases e : f = i
    · rw [e, ri]; exact ⟨m, m, Nat.le_refl _, by omega, q3, rfl⟩
    · rw [rn e]; exact s3 f hf
  · intro f hf
    have ste : stF I' = stF I := by funext e; unfold stF; rw [ro (r := 20) (by decide)]
    have qae : qa I' f = qa I f := by unfold qa; rw [ro (r := 17) (by decide)]
    have qbe : qb I' f = qb I f := by unfold qb; rw [ro (r := 18) (by decide)]
    obtain ⟨w1, w2, w3, w4, w5, w6, w7, w8, w9⟩ := hw f hf
    rw [qae, qbe, ste, ro (r := 17) (by decide), ro (r := 18) (by decide)]
    by_cases e : f = i
    · subst e
      have qTe : qT I' f = m := by unfold qT; rw [ri]; exact nI_clamp (by omega)
      have qme : qm y f = m := qm_of q3 (by omega)
      rw [qTe, ri, qme]
      exact ⟨w1, w2, Nat.le_refl _, by omega, w5, w6, rfl, q3, fun g => absurd g (Nat.lt_irrefl _)⟩
    · have qTe : qT I' f = qT I f := by unfold qT; rw [rn e]
      rw [qTe, rn e]
      exact ⟨w1, w2, w3, w4, w5, w6, w7, w8, w9⟩
  · unfold vO; rw [ro (r := 6) (by decide), ro (r := 7) (by decide), ro (r := 8) (by decide)]; exact hv
/-! rules, floors, limits, holidays -/
theorem lV_rule (h : lV A L F I y c d X) {i : Nat} (hi : i < A) (hp : ¬ I 3 i = -1) {x2 x3 : Int32} (h2 : 0 ≤ x2 ∧ x2 ≤ 3) (h3 : -1000000 ≤ x3 ∧ x3 ≤ 1000000) : lV A L F (upR (upR I 6 (upd (I 6) i x2)) 7 (upd (I 7) i x3)) y (c + 1) d X := by
  have hA := h.2.1.1.1
  have ro : ∀ {r}, r ≠ 6 → r ≠ 7 → upR (upR I 6 (upd (I 6) i x2)) 7 (upd (I 7) i x3) r = I r := fun a b => by rw [upR_o b, upR_o a]
  have e7 : upR (upR I 6 (upd (I 6) i x2)) 7 (upd (I 7) i x3) 7 = upd (I 7) i x3 := upR_at
  have e6 : upR (upR I 6 (upd (I 6) i x2)) 7 (upd (I 7) i x3) 6 = upd (I 6) i x2 := by rw [upR_o (by decide), upR_at]
  generalize upR (upR I 6 (upd (I 6) i x2)) 7 (upd (I 7) i x3) = I' at ro e6 e7 ⊢
  have s : sI I I' := fun r h6 h7 _ _ _ _ => ro h6 h7
  refine lV_I h (fun k h6 h7 _ _ _ => ro h6 h7) (cEn_I s (fun j hj => ?_) h.2.1.1) (fun j hj => ?_) ?_ (fun e v => ?_) (fun j hj h10 => ?_)
  · by_cases e : j = i
    · rw [e, e6, upd_at]
      refine ⟨?_, fun v => absurd v hp⟩
      obtain ⟨k, hk, ek⟩ := nI_of2 (M := 3) (n := 3) rfl (Int32.not_lt.mpr h2.1) h2.2
      have : k = 0 ∨ k = 1 ∨ k = 2 ∨ k = 3 := by omega
      rcases this with rfl | rfl | rfl | rfl
      · exact Or.inl ek
      · exact Or.inr (Or.inl ek)
      · exact Or.inr (Or.inr (Or.inl ek))
      · exact Or.inr (Or.inr (Or.inr ek))
    · rw [e6, upd_no e]; exact h.2.1.1.2.2.2.2.2.2.2.2 j hj
  · obtain ⟨a1, a2, a3, a4⟩ := h.2.1.2.1 j hj
    rw [ro (r := 8) (by decide) (by decide), e7]
    by_cases e : j = i
    · have w := i32_rng h3 (m := -1000000) (n := 1000000) (by decide) (by decide)
      rw [e, upd_at]
      rw [e] at a3 a4
      exact ⟨w.1, w.2, a3, a4⟩
    · rw [upd_no e]; exact ⟨a1, a2, a3, a4⟩
  · rw [ro (r := 20) (by decide) (by decide)]; exact h.2.1.2.2.2.2
  · unfold stF at v ⊢; rw [ro (r := 20) (by decide) (by decide)] at v; exact v
  · rw [e6, e7, ro (r := 8) (by decide) (by decide), upd_no (by omega), upd_no (by omega)]
    exact h.2.2.2.2.2 j hj h10
theorem lV_floor (h : lV A L F I y c d X) {i : Nat} (hi : i < A) {x2 : Int32} (h3 : -1000000 ≤ x2 ∧ x2 ≤ 1000000) : lV A L F (upR I 8 (upd (I 8) i x2)) y (c + 1) d X := by
  have ro : ∀ {r}, r ≠ 8 → upR I 8 (upd (I 8) i x2) r = I r := fun a => upR_o a
  have e8 : upR I 8 (upd (I 8) i x2) 8 = upd (I 8) i x2 := upR_at
  generalize upR I 8 (upd (I 8) i x2) = I' at ro e8 ⊢
  have s : sI I I' := fun r _ _ h8 _ _ _ => ro h8
  refine lV_I h (fun k _ _ h8 _ _ => ro h8) (cEn_I s (fun j hj => ?_) h.2.1.1) (fun j hj => ?_) ?_ (fun e v => ?_) (fun j hj h10 => ?_)
  · rw [ro (r := 6) (by decide)]; exact h.2.1.1.2.2.2.2.2.2.2.2 j hj
  · obtain ⟨a1, a2, a3, a4⟩ := h.2.1.2.1 j hj
    rw [ro (r := 7) (by decide), e8]
    by_cases e : j = i
    · have w := i32_rng h3 (m := -1000000) (n := 1000000) (by decide) (by decide)
      rw [e, upd_at]
      rw [e] at a1 a2
      exact ⟨a1, a2, w.1, w.2⟩
    · rw [upd_no e]; exact ⟨a1, a2, a3, a4⟩
  · rw [ro (r := 20) (by decide)]; exact h.2.1.2.2.2.2
  · unfold stF at v ⊢; rw [ro (r := 20) (by decide)] at v; exact v
  · rw [ro (r := 6) (by decide), ro (r := 7) (by decide), e8, upd_no (by omega)]
    exact h.2.2.2.2.2 j hj h10
theorem lV_lim (h : lV A L F I y c d X) {g : Nat → Int32} : lV A L F (upR I 14 g) y (c + 1) d X := by
  have ro : ∀ {r}, r ≠ 14 → upR I 14 g r = I r := fun a => upR_o a
  generalize upR I 14 g = I' at ro ⊢
  have s : sI I I' := fun r _ _ _ h14 _ _ => ro h14
  refine lV_I h (fun k _ _ _ h14 _ => ro h14) (cEn_I s (fun j hj => ?_) h.2.1.1) ?_ ?_ (fun e v => ?_) ?_
  · rw [ro (r := 6) (by decide)]; exact h.2.1.1.2.2.2.2.2.2.2.2 j hj
  · unfold tgOk; rw [ro (r := 7) (by decide), ro (r := 8) (by decide)]; exact h.2.1.2.1
  · rw [ro (r := 20) (by decide)]; exact h.2.1.2.2.2.2
  · unfold stF at v ⊢; rw [ro (r := 20) (by decide)] at v; exact v
  · unfold vO; rw [ro (r := 6) (by decide), ro (r := 7) (by decide), ro (r := 8) (by decide)]; exact h.2.2.2.2.2
theorem lV_hol (h : lV A L F I y c d X) {i : Nat} (hi : i ≤ 450) : lV A L F (upR I 20 (upd (I 20) i 1)) y (c + 1) d X := by
  have ro : ∀ {r}, r ≠ 20 → upR I 20 (upd (I 20) i 1) r = I r := fun a => upR_o a
  have e20 : upR I 20 (upd (I 20) i 1) 20 = upd (I 20) i 1 := upR_at
  generalize upR I 20 (upd (I 20) i 1) = I' at ro e20 ⊢
  have s : sI I I' := fun r _ _ _ _ _ h20 => ro h20
  refine lV_I h (fun k _ _ _ _ h20 => ro h20) (cEn_I s (fun j hj => ?_) h.2.1.1) ?_ (fun e he => ?_) (fun e v => ?_) ?_
  · rw [ro (r := 6) (by decide)]; exact h.2.1.1.2.2.2.2.2.2.2.2 j hj
  · unfold tgOk; rw [ro (r := 7) (by decide), ro (r := 8) (by decide)]; exact h.2.1.2.1
  · rw [e20, upd_no (by omega)]; exact h.2.1.2.2.2.2 e he
  · unfold stF at v ⊢
    rw [e20] at v
    by_cases g : e = i
    · rw [g, upd_at] at v
      have : (decide ((1 : Int32) = 0)) = false := by decide
      rw [this, Bool.and_false] at v
      cases v
    · rw [upd_no g] at v; exact v
  · unfold vO; rw [ro (r := 6) (by decide), ro (r := 7) (by decide), ro (r := 8) (by decide)]; exact h.2.2.2.2.2
theorem lV_00 : lV 0 0 0 I00 (fun _ => 0) 0 0 0 := by
  refine ⟨by omega, ⟨cEn_00, fun i hi => absurd hi (by omega), ⟨fun i hi => absurd hi (by omega), fun i hi => absurd hi (by omega)⟩, fun i hi => absurd hi (by omega), fun e _ => rfl⟩, ⟨⟨by omega, ?_, ?_, ?_, fun i hi => absurd hi (by omega)⟩, ⟨fun i hi => absurd hi (by omega), ?_, ?_, fun i hi => absurd hi (by omega), fun i hi => absurd hi (by omega)⟩, fun i hi => absurd hi (by omega), by decide⟩, fun i hi => absurd hi (by omega), fun m _ _ => rfl, fun i _ _ => ⟨rfl, rfl, rfl⟩⟩
  · show (100 * 0 : Int) ≤ (1000000 * (((0 : Nat) : Int) + 0) + 120000000) * (100 + 3 * ((0 / 20 : Nat) : Int))
    decide
  · show (0 : Int) - 0 ≤ 0
    decide
  · show (0 : Int) ≤ 0
    decide
  · show (0 : Int) ≤ 36000000 + ((0 % 20 : Nat) : Int) * (1000 * (2 * 0 + 70000000))
    decide
  · show (0 : Int) ≤ 36000000 + ((0 % 20 : Nat) : Int) * (1000 * (2 * 0 + 70000000))
    decide
end LV
