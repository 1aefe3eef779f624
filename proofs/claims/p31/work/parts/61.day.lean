/-! ===== what holds from day to day ===== -/
/-- how many times of flows are done -/
def dnF (F : Nat) (y : Nat → Int64) : Int := sm (fun f => (y (88 + f)).toInt) F
def rtOk (A L : Nat) (I : Nat → Nat → Int32) : Prop := (∀ p, p < A → (0 ≤ (I 9 p).toInt ∧ (I 9 p).toInt ≤ 1000) ∧ (0 ≤ (I 10 p).toInt ∧ (I 10 p).toInt ≤ 1000)) ∧ ∀ l, l < L → 0 ≤ (I 13 l).toInt ∧ (I 13 l).toInt ≤ 1000
def amOk (F : Nat) (I : Nat → Nat → Int32) : Prop := ∀ f, f < F → -1000000 ≤ (I 16 f).toInt ∧ (I 16 f).toInt ≤ 1000000
/-- balances are bounded by what came in: c calls so far, n bookings of interest so far -/
def bT (A L F : Nat) (I : Nat → Nat → Int32) (c n : Nat) (X : Int) (y : Nat → Int64) : Prop :=
  0 ≤ X ∧ 100 * X ≤ (1000000 * (c + dnF F y) + 120000000) * (100 + 3 * n) ∧ bR A L I X y
/-- sums and weights, e days behind a booking -/
def bW (A L : Nat) (I : Nat → Nat → Int32) (e : Nat) (X : Int) (y : Nat → Int64) : Prop :=
  (∀ p, p < A → 0 ≤ (y (10 + p)).toInt ∧ 0 ≤ (y (20 + p)).toInt ∧ (¬ I 3 p = -1 → (y (10 + p)).toInt = 0 ∧ (y (20 + p)).toInt = 0)) ∧
  sm (fun p => (y (10 + p)).toInt) A ≤ 36000000 + e * (1000 * (2 * X + 70000000)) ∧ sm (fun p => (y (20 + p)).toInt) A ≤ 36000000 + e * (1000 * (2 * X + 70000000)) ∧
  (∀ x, x < A → (0 ≤ (y (30 + x)).toInt ∧ (y (30 + x)).toInt ≤ e * (2 * X + 70000000)) ∧ (0 ≤ (y (40 + x)).toInt ∧ (y (40 + x)).toInt ≤ e * (2 * X + 70000000))) ∧
  (∀ l, l < L → 0 ≤ (y (76 + l)).toInt ∧ (y (76 + l)).toInt ≤ 3600000 + e * 10000000000)
section DY
variable {A L F : Nat} {I : Nat → Nat → Int32} {y y' l : Nat → Int64} {X X' : Int} {c n d e : Nat}
theorem dn_rng (hF : F ≤ 20) (hb : flB F I y) : 0 ≤ dnF F y ∧ dnF F y ≤ 600 := by
  have v : ∀ f, f < F → 0 ≤ (y (88 + f)).toInt ∧ (y (88 + f)).toInt ≤ 30 := fun f hf => by
    obtain ⟨m, t, h1, h2, h3, -⟩ := hb f hf
    rw [h3, lN_toInt (by omega)]
    omega
  have h1 := sm_nn (f := fun f => (y (88 + f)).toInt) F (fun f hf => (v f hf).1)
  have h2 := sm_le (f := fun f => (y (88 + f)).toInt) (g := fun _ => 30) F (fun f hf => (v f hf).2)
  rw [sm_const] at h2
  unfold dnF
  omega
theorem bT_lim (h : bT A L F I c n X y) (hc : c ≤ 512) (hn : n ≤ 23) (hd : 0 ≤ dnF F y ∧ dnF F y ≤ 600) : X ≤ 2200000000 := by
  obtain ⟨h1, h2, -⟩ := h
  have m : (1000000 * (c + dnF F y) + 120000000) * (100 + 3 * n) ≤ 1232000000 * (100 + 3 * (n : Int)) := Int.mul_le_mul_of_nonneg_right (by omega) (by omega)
  omega
theorem bT_same (h : bT A L F I c n X y) (e1 : dnF F y' = dnF F y) (e2 : bR A L I X y') : bT A L F I c n X y' := by
  obtain ⟨h1, h2, -⟩ := h
  exact ⟨h1, by rw [e1]; exact h2, e2⟩
theorem bW_mono (h : bW A L I e X y) (hX : X ≤ X') : bW A L I e X' y := by
  obtain ⟨h1, h2, h3, h4, h5⟩ := h
  have m : (e : Int) * (2 * X + 70000000) ≤ e * (2 * X' + 70000000) := Int.mul_le_mul_of_nonneg_left (by omega) (by omega)
  have m2 : (e : Int) * (1000 * (2 * X + 70000000)) ≤ e * (1000 * (2 * X' + 70000000)) := Int.mul_le_mul_of_nonneg_left (by omega) (by omega)
  exact ⟨h1, by omega, by omega, fun x hx => by have := h4 x hx; omega, h5⟩
theorem bW_same (hA : A ≤ 10) (hL : L ≤ 6) (h : bW A L I e X y) (s : ∀ m, (10 ≤ m ∧ m < 50) ∨ (76 ≤ m ∧ m < 82) → y' m = y m) : bW A L I e X y' := by
  obtain ⟨h1, h2, h3, h4, h5⟩ := h
  refine ⟨fun p hp => ?_, ?_, ?_, fun x hx => ?_, fun l hl => ?_⟩
  · rw [s (10 + p) (by omega), s (20 + p) (by omega)]; exact h1 p hp
  · rw [sm_congr A (g := fun p => (y (10 + p)).toInt) (fun p hp => by show (y' (10 + p)).toInt = _; rw [s (10 + p) (by omega)])]; exact h2
  · rw [sm_congr A (g := fun p => (y (20 + p)).toInt) (fun p hp => by show (y' (20 + p)).toInt = _; rw [s (20 + p) (by omega)])]; exact h3
  · rw [s (30 + x) (by omega), s (40 + x) (by omega)]; exact h4 x hx
  · rw [s (76 + l) (by omega)]; exact h5 l hl
/-! flows -/
theorem flwS_bT (hn : cEn A L F I) (ham : amOk F I) (hb : flB F I y) (hc : c ≤ 512) (hn23 : n ≤ 23) (h : bT A L F I c n X y) {f : Nat} (hf : f < F) (hlt : y (88 + f) < (I 19 f).toInt64) : bT A L F I c n (X + 1000000) (flwS I f y) := by
  have hA := hn.1
  have hL := hn.2.1
  have hF := hn.2.2.1
  obtain ⟨-, fa⟩ := hn.2.2.2.2.2.2.2.1 f hf
  have lim := bT_lim h hc hn23 (dn_rng hF hb)
  obtain ⟨h1, h2, h3⟩ := h
  have tb := bR_bd hL h3
  have lo := bdX_lo tb fa
  have hi := bdX_hi tb hA fa
  obtain ⟨a1, a2⟩ := ham f hf
  obtain ⟨m, t, q1, q2, q3, q4⟩ := hb f hf
  have e16 : (I 16 f).toInt64.toInt = (I 16 f).toInt := Int32.toInt_toInt64 _
  have eb : flwS I f y (fA I f) = y (fA I f) + (I 16 f).toInt64 := by unfold flwS; rw [pk_uLn (by omega), pk_uLs]
  have ed : flwS I f y (88 + f) = y (88 + f) + 1 := by unfold flwS; exact pk_uLs
  have eo : ∀ j, j ≠ 88 + f → j ≠ fA I f → flwS I f y j = y j := fun j j1 j2 => flwS_done j1 j2
  have tbv : (flwS I f y (fA I f)).toInt = (y (fA I f)).toInt + (I 16 f).toInt := by rw [eb, i64_add (by omega) (by omega), e16]
  have tdv : (flwS I f y (88 + f)).toInt = (y (88 + f)).toInt + 1 := by
    rw [ed, q3, lN_1, lN_toInt (by omega), lN_toInt (by omega)]
    omega
  have s1 := sm_one (f := fun i => (flwS I f y i).toInt) (g := fun i => (y i).toInt) (i := fA I f) A (fun j hj hne => by show (flwS I f y j).toInt = _; rw [eo j (by omega) hne]) fa
  have s2 := sm_one (f := fun i => ng (flwS I f y i).toInt) (g := fun i => ng (y i).toInt) (i := fA I f) A (fun j hj hne => by show ng (flwS I f y j).toInt = _; rw [eo j (by omega) hne]) fa
  have s3 := sm_one (f := fun i => (flwS I f y (88 + i)).toInt) (g := fun i => (y (88 + i)).toInt) (i := f) F (fun j hj hne => by show (flwS I f y (88 + j)).toInt = _; rw [eo (88 + j) (by omega) (by omega)]) hf
  have s4 : bD L (flwS I f y) = bD L y := sm_congr L (fun l hl => by show (flwS I f y (70 + l)).toInt = _; rw [eo (70 + l) (by omega) (by omega)])
  have n1 : ng (flwS I f y (fA I f)).toInt ≤ ng (y (fA I f)).toInt + 1000000 := by
    rw [tbv]
    have := ng_sub (v := (y (fA I f)).toInt) (w := 1000000) (by omega)
    have := ng_mono (v := (y (fA I f)).toInt - 1000000) (w := (y (fA I f)).toInt + (I 16 f).toInt) (by omega)
    omega
  have edn : dnF F (flwS I f y) = dnF F y + 1 := by unfold dnF; omega
  obtain ⟨r1, r2, r3⟩ := h3
  refine ⟨by omega, ?_, ?_, ?_, fun l hl => ?_⟩
  · rw [edn]
    have e : (1000000 * ((c : Int) + (dnF F y + 1)) + 120000000) * (100 + 3 * n) = (1000000 * (c + dnF F y) + 120000000) * (100 + 3 * n) + 1000000 * (100 + 3 * n) := by
      rw [← Int.add_mul]
      congr 1
      omega
    rw [e]
    omega
  · rw [s4]; unfold bS at r1 ⊢; omega
  · unfold bN at r2 ⊢; omega
  · rw [eo (70 + l) (by omega) (by omega)]; exact r3 l hl
theorem flwF_bT (hn : cEn A L F I) (ham : amOk F I) (hc : c ≤ 512) (hn23 : n ≤ 23) {f : Nat} (hf : f < F) : ∀ (k : Nat) (y : Nat → Int64) (X : Int), flB F I y → bT A L F I c n X y → ∃ X', X ≤ X' ∧ bT A L F I c n X' (flwF I d f k y) := by
  intro k
  induction k with
  | zero => intro y X _ h; exact ⟨X, Int.le_refl _, h⟩
  | succ k ih =>
    intro y X hb h
    unfold flwF
    by_cases cc : flwC I d f y
    · rw [if_pos cc]
      have hb2 : flB F I (flwS I f y) := by
        intro g hg
        obtain ⟨m, t, h1, h2, h3, h4⟩ := hb g hg
        by_cases e : g = f
        · subst e
          refine ⟨m + 1, t, ?_, h2, ?_, h4⟩
          · have c1 := cc.1
            rw [h3, h4, nI_l (by omega)] at c1
            exact (lN_lt (by omega) (by omega)).mp c1
          · unfold flwS
            rw [pk_uLs, h3, lN_1]
        · have fa := (hn.2.2.2.2.2.2.2.1 f hf).2
          have hA := hn.1
          exact ⟨m, t, h1, h2, (flwS_done (by omega) (by omega)).trans h3, h4⟩
      obtain ⟨X', h1, h2⟩ := ih _ _ hb2 (flwS_bT hn ham hb hc hn23 h hf cc.1)
      exact ⟨X', by omega, h2⟩
    · rw [if_neg cc]
      exact ⟨X, Int.le_refl _, h⟩
theorem flows_bT (hn : cEn A L F I) (ham : amOk F I) (hc : c ≤ 512) (hn23 : n ≤ 23) (hb : flB F I y) (h : bT A L F I c n X y) : ∀ k, k ≤ F → ∃ X', X ≤ X' ∧ bT A L F I c n X' (itr (flowS I d) k y) := by
  intro k
  induction k with
  | zero => intro _; exact ⟨X, Int.le_refl _, h⟩
  | succ k ih =>
    intro hk
    obtain ⟨X1, g1, g2⟩ := ih (by omega)
    obtain ⟨X2, g3, g4⟩ := flwF_bT (d := d) hn ham hc hn23 (show k < F by omega) (flwN I k (itr (flowS I d) k y)) _ X1 (flB_itr hn hb k (by omega)) g2
    exact ⟨X2, by omega, g4⟩
theorem flowS_o (hn : cEn A L F I) {m : Nat} (hm : 10 ≤ m ∧ m < 88 ∨ 108 ≤ m) : ∀ k, k ≤ F → itr (flowS I d) k y m = y m := by
  intro k
  induction k with
  | zero => intro _; rfl
  | succ k ih =>
    intro hk
    have hA := hn.1
    have hL := hn.2.1
    have hF := hn.2.2.1
    have fa := (hn.2.2.2.2.2.2.2.1 k (by omega)).2
    show flowS I d k (itr (flowS I d) k y) m = _
    unfold flowS
    rw [flwF_other (by omega) (by omega)]
    exact ih (by omega)
/-! covering and easing leave the rest -/
theorem cvC_o (hA : A ≤ 10) (hL : L ≤ 6) {p m : Nat} (hp : p < A) (hm : 10 ≤ m ∧ m < 70 ∨ 76 ≤ m) : cvC L I p y m = y m := by
  unfold cvC
  have h1 : foldS (drC I p) (crk I p L) y m = y m := foldS_inv (R := fun y' : Nat → Int64 => y' m = y m) _ _ (fun x hx s hs => by
    have := (mem_crk.mp hx).1
    rw [drC_o (by omega) (by omega)]
    exact hs) rfl
  exact foldS_inv (R := fun y' : Nat → Int64 => y' m = y m) _ _ (fun x hx s hs => by
    have := (mem_crk.mp (List.mem_reverse.mp hx)).1
    rw [pbC_o (by omega) (by omega)]
    exact hs) h1
theorem easeF_o (hA : A ≤ 10) {m : Nat} (hm : 10 ≤ m) : ∀ (f : Nat) (y : Nat → Int64), easeF I A f y m = y m := by
  intro f
  induction f with
  | zero => intro y; rfl
  | succ f ih =>
    intro y
    unfold easeF
    cases hn : nextE I A y with
    | none => rfl
    | some y' =>
      show easeF I A f y' m = y m
      rw [ih]
      unfold nextE at hn
      cases hg : givF I A y with
      | none => rw [hg] at hn; cases hn
      | some i =>
        have gi := (givF_some hg).1
        rw [hg] at hn
        cases hj : getF I A y (tI I i) with
        | none => simp [hj] at hn
        | some j =>
          have gj := (getF_some hj).1
          have e : movF i j (amtF I A i j y) y = y' := by simpa [hj] using hn
          rw [← e]
          unfold movF
          rw [pk_uLn (by omega), pk_uLn (by omega)]
/-- a settlement day's moves: the class's, the reference's, and what holds behind -/
theorem settle_eq (hn : cEn A L F I) (ham : amOk F I) (htg : tgOk A I) (hc : c ≤ 512) (hn23 : n ≤ 23) (hb : flB F I y) (h : bT A L F I c n X y) :
    ∃ X', X ≤ X' ∧ X' ≤ 2200000000 ∧ bT A L F I c n X' (setlF I A L F 6 18 d y) ∧ flB F I (setlF I A L F 6 18 d y) ∧ setlE I A L F 6 18 d y ∧ (∀ m, (10 ≤ m ∧ m < 70) ∨ (76 ≤ m ∧ m < 88) ∨ 108 ≤ m → setlF I A L F 6 18 d y m = y m) ∧
      foldS (swC A I) (ctops A I) (itr (flowS I d) F y) = setl1 I A F d y ∧ foldS (cvC L I) (ctops A I) (setl1 I A F d y) = itr (covP I L 6) A (setl1 I A F d y) ∧ bR A L I X' (itr (covP I L 6) A (setl1 I A F d y)) := by
  have hA := hn.1
  have hL := hn.2.1
  have hF := hn.2.2.1
  have hp : parOk A I := hn.2.2.2.1
  have ha : acOk A I := hn.2.2.2.2.1
  have ht : tpOk A I := hn.2.2.2.2.2.1
  have hl : lnOk2 A L I := hn.2.2.2.2.2.2.1
  obtain ⟨X1, g1, g2⟩ := flows_bT (d := d) hn ham hc hn23 hb h F (Nat.le_refl _)
  have fb := flB_itr hn (d := d) hb F (Nat.le_refl _)
  have lim := bT_lim g2 hc hn23 (dn_rng hF fb)
  have X0 := g2.1
  obtain ⟨w1, w2⟩ := sweep_bR hp htg hA hL X0 (by omega) g2.2.2
  have w1' : bR A L I X1 (setl1 I A F d y) := w1
  obtain ⟨v1, v2, v3⟩ := cover_eq hA hL hl X0 (by omega) w1'
  obtain ⟨u1, u2⟩ := ease_ends hA hL ha X0 (by omega) 18 _ v2 (phi_rng hA).2
  have oth : ∀ m, (10 ≤ m ∧ m < 70) ∨ 76 ≤ m → setlF I A L F 6 18 d y m = itr (flowS I d) F y m := by
    intro m hm
    unfold setlF
    rw [easeF_o hA (by omega), ← v1]
    have e1 : foldS (cvC L I) (ctops A I) (setl1 I A F d y) m = setl1 I A F d y m := foldS_inv (R := fun y' : Nat → Int64 => y' m = setl1 I A F d y m) _ _ (fun x hx s hs => by
      rw [cvC_o hA hL (mem_ctops.mp hx).1 (by omega)]
      exact hs) rfl
    rw [e1]
    exact sweepF_o hp hA (by omega)
  have fb2 : flB F I (setlF I A L F 6 18 d y) := fun f hf => by
    obtain ⟨m, t, q1, q2, q3, q4⟩ := fb f hf
    exact ⟨m, t, q1, q2, (oth (88 + f) (by omega)).trans q3, q4⟩
  refine ⟨X1, g1, lim, bT_same g2 (sm_congr F (fun f hf => by show (setlF I A L F 6 18 d y (88 + f)).toInt = _; rw [oth (88 + f) (by omega)])) u2, fb2, ⟨fun k hk hc => v3 k hk hc, u1⟩, fun m hm => ?_, ?_, v1, v2⟩
  · rw [oth m (by omega), flowS_o hn (by omega) F (Nat.le_refl _)]
  · rw [sweep_eq hp ht hA]
    exact w2.symm
/-! accruing -/
theorem itr_lone {f : Nat → (Nat → Int64) → Nat → Int64} {m p : Nat} : ∀ N (y : Nat → Int64), (∀ k s, k < N → k ≠ p → f k s m = s m) → (p < N → itr f N y m = f p (itr f p y) m) ∧ (N ≤ p → itr f N y m = y m) := by
  intro N
  induction N with
  | zero => intro y _; exact ⟨fun h => by omega, fun _ => rfl⟩
  | succ N ih =>
    intro y h
    obtain ⟨i1, i2⟩ := ih y (fun k s hk hne => h k s (by omega) hne)
    refine ⟨fun hp => ?_, fun hp => ?_⟩
    · show f N (itr f N y) m = _
      by_cases e : p = N
      · rw [e]
      · rw [h N _ (by omega) (fun v => e v.symm)]
        exact i1 (by omega)
    · show f N (itr f N y) m = _
      rw [h N _ (by omega) (by omega)]
      exact i2 (by omega)
/-- the sum of a pool, by the row of balances -/
def tP (A : Nat) (I : Nat → Nat → Int32) (p : Nat) (y : Nat → Int64) : Int := sm (fun i => if tI I i = p then (y i).toInt else 0) A
theorem tP_congr (h : ∀ i, i < A → y' i = y i) {p : Nat} : tP A I p y' = tP A I p y := sm_congr A (fun i hi => by
  show (if tI I i = p then (y' i).toInt else 0) = if tI I i = p then (y i).toInt else 0
  rw [h i hi])
theorem mul_i32 {v : Int64} {r : Int32} (h1 : -100000000000000 ≤ v.toInt) (h2 : v.toInt ≤ 100000000000000) (r1 : 0 ≤ r.toInt) (r2 : r.toInt ≤ 1000) : (v * r.toInt64).toInt = v.toInt * r.toInt := by
  have e : r.toInt64.toInt = r.toInt := Int32.toInt_toInt64 _
  have b1 : v.toInt * r.toInt ≤ 100000000000000 * r.toInt := Int.mul_le_mul_of_nonneg_right h2 r1
  have b2 : -100000000000000 * r.toInt ≤ v.toInt * r.toInt := Int.mul_le_mul_of_nonneg_right h1 r1
  rw [Int64.toInt_mul, e, Int.bmod_eq_of_le] <;> omega
theorem accS_at (hn : cEn A L F I) (hX0 : 0 ≤ X) (hX : X ≤ 1000000000000) (hb : bdX A X y) (hr : rtOk A L I) {k : Nat} (hk : k < A) (hs : (y (10 + k)).toInt ≤ 1000000000000000000 ∧ 0 ≤ (y (10 + k)).toInt ∧ (y (20 + k)).toInt ≤ 1000000000000000000 ∧ 0 ≤ (y (20 + k)).toInt) (hc : I 3 k = -1) :
    (accS I A k y (10 + k)).toInt = (y (10 + k)).toInt + (if 0 < tP A I k y then tP A I k y * (I 9 k).toInt else 0) ∧ (accS I A k y (20 + k)).toInt = (y (20 + k)).toInt + (if tP A I k y < 0 then -(tP A I k y) * (I 10 k).toInt else 0) := by
  have hA := hn.1
  obtain ⟨⟨r1, r2⟩, r3, r4⟩ := hr.1 k hk
  obtain ⟨t1, t2, t3⟩ := mbT_int (I := I) (p := k) hA hX0 hX hb
  have et : (sumF I A y (nI k) k).toInt = tP A I k y := by
    rw [← mbT_eq hn.2.2.2.1 hn.2.2.2.2.1 hn.2.2.2.2.2.1 hA hk]
    exact t1
  rw [mbT_eq hn.2.2.2.1 hn.2.2.2.2.1 hn.2.2.2.2.2.1 hA hk] at t2 t3
  unfold accS
  rw [if_pos hc]
  generalize sumF I A y (nI k) k = T at et t2 t3 ⊢
  have o : ∀ m, 10 ≤ m → m < 30 → itr (wtS I k T) A (acc0 I k T y) m = acc0 I k T y m := fun m m1 m2 => itr_bd (R := fun s : Nat → Int64 => s m = acc0 I k T y m) A _ (fun x s hx hs => by
    unfold wtS
    rw [pk_uLn (by omega), pk_uLn (by omega)]
    exact hs) rfl
  rw [o (10 + k) (by omega) (by omega), o (20 + k) (by omega) (by omega)]
  unfold acc0
  rw [pk_uLs, pk_uLn (show 10 + k ≠ 20 + k by omega), pk_uLs]
  have m1 := mul_i32 (v := T) (r := I 9 k) (by omega) (by omega) r1 r2
  have en : (-T).toInt = -T.toInt := i64_neg (by omega)
  have m2 := mul_i32 (v := -T) (r := I 10 k) (by omega) (by omega) r3 r4
  have b1 : T.toInt * (I 9 k).toInt ≤ 100000000000000 * (I 9 k).toInt := Int.mul_le_mul_of_nonneg_right (by omega) r1
  have b2 : -100000000000000 * (I 9 k).toInt ≤ T.toInt * (I 9 k).toInt := Int.mul_le_mul_of_nonneg_right (by omega) r1
  have b3 : (-T.toInt) * (I 10 k).toInt ≤ 100000000000000 * (I 10 k).toInt := Int.mul_le_mul_of_nonneg_right (by omega) r3
  have b4 : -100000000000000 * (I 10 k).toInt ≤ (-T.toInt) * (I 10 k).toInt := Int.mul_le_mul_of_nonneg_right (by omega) r3
  rw [en] at m2
  rw [← et]
  constructor
  · by_cases p : 0 < T
    · have p' := Int64.lt_iff_toInt_lt.mp p
      rw [i64_0] at p'
      rw [if_pos p, if_pos p', i64_add (by omega) (by omega), m1]
    · have p' := Int64.le_iff_toInt_le.mp (Int64.not_lt.mp p)
      rw [i64_0] at p'
      rw [if_neg p, if_neg (by omega), Int64.add_zero]
      omega
  · by_cases p : T < 0
    · have p' := Int64.lt_iff_toInt_lt.mp p
      rw [i64_0] at p'
      rw [if_pos p, if_pos p', i64_add (by omega) (by omega), m2]
    · have p' := Int64.le_iff_toInt_le.mp (Int64.not_lt.mp p)
      rw [i64_0] at p'
      rw [if_neg p, if_neg (by omega), Int64.add_zero]
      omega
theorem accS_25 {k m : Nat} (hk : k < A) (hA : A ≤ 10) (hm : 10 ≤ m ∧ m < 30) (h1 : m ≠ 10 + k) (h2 : m ≠ 20 + k) : accS I A k y m = y m := by
  unfold accS
  split
  · refine itr_bd (R := fun s : Nat → Int64 => s m = y m) A _ (fun x s hx hs => ?_) ?_
    · unfold wtS
      rw [pk_uLn (by omega), pk_uLn (by omega)]
      exact hs
    · unfold acc0
      rw [pk_uLn h2, pk_uLn h1]
  · rfl
/-- pools' sums above 0 together are at most what is above 0 -/
def pos (v : Int) : Int := if 0 < v then v else 0
theorem pos_nn {v : Int} : 0 ≤ pos v := by unfold pos; split <;> omega
theorem pos_ge {v : Int} : v ≤ pos v := by unfold pos; split <;> omega
theorem pools_pos (f : Nat → Int) (A : Nat) (I : Nat → Nat → Int32) : ∀ N : Nat, sm (fun p => pos (sm (fun i => if tI I i = p then f i else 0) A)) N ≤ sm (fun i => if tI I i < N then pos (f i) else 0) A := by
  intro N
  induction N with
  | zero =>
    show (0 : Int) ≤ _
    exact sm_nn A (fun i _ => by show 0 ≤ (if tI I i < 0 then pos (f i) else 0); split; exact pos_nn; exact Int.le_refl _)
  | succ N ih =>
    show sm (fun p => pos (sm (fun i => if tI I i = p then f i else 0) A)) N + pos (sm (fun i => if tI I i = N then f i else 0) A) ≤ _
    have s1 : sm (fun i => if tI I i < N + 1 then pos (f i) else 0) A = sm (fun i => (if tI I i < N then pos (f i) else 0) + (if tI I i = N then pos (f i) else 0)) A := sm_congr A (fun i _ => by
      show (if tI I i < N + 1 then pos (f i) else 0) = (if tI I i < N then pos (f i) else 0) + (if tI I i = N then pos (f i) else 0)
      by_cases c1 : tI I i < N
      · rw [if_pos c1, if_pos (by omega), if_neg (by omega)]; omega
      · by_cases c2 : tI I i = N
        · rw [if_neg c1, if_pos c2, if_pos (by omega)]; omega
        · rw [if_neg c1, if_neg c2, if_neg (by omega)]; omega)
    rw [s1, sm_add]
    have s2 : pos (sm (fun i => if tI I i = N then f i else 0) A) ≤ sm (fun i => if tI I i = N then pos (f i) else 0) A := by
      have l := sm_le (f := fun i => if tI I i = N then f i else 0) (g := fun i => if tI I i = N then pos (f i) else 0) A (fun i _ => by
        show (if tI I i = N then f i else 0) ≤ (if tI I i = N then pos (f i) else 0)
        split; exact pos_ge; exact Int.le_refl _)
      have nn := sm_nn (f := fun i => if tI I i = N then pos (f i) else 0) A (fun i _ => by
        show 0 ≤ (if tI I i = N then pos (f i) else 0)
        split; exact pos_nn; exact Int.le_refl _)
      unfold pos at *
      split <;> omega
    omega
theorem all_pos (hA : A ≤ 10) (hb : bdX A X y) : sm (fun i => pos (y i).toInt) A ≤ 2 * X + 10000000 ∧ sm (fun i => pos (-(y i).toInt)) A ≤ X + 10000000 := by
  obtain ⟨h1, h2⟩ := hb
  constructor
  · have l := sm_le (f := fun i => pos (y i).toInt) (g := fun i => (y i).toInt + ng (y i).toInt + 1000000) A (fun i _ => by
      show pos (y i).toInt ≤ (y i).toInt + ng (y i).toInt + 1000000
      have := ng_ge (v := (y i).toInt)
      have := ng_nn (v := (y i).toInt)
      unfold pos
      split <;> omega)
    rw [sm_add (f := fun i => (y i).toInt + ng (y i).toInt) (g := fun _ => 1000000), sm_add (f := fun i => (y i).toInt) (g := fun i => ng (y i).toInt), sm_const] at l
    unfold bS at h1
    unfold bN at h2
    omega
  · have l := sm_le (f := fun i => pos (-(y i).toInt)) (g := fun i => ng (y i).toInt + 1000000) A (fun i _ => by
      show pos (-(y i).toInt) ≤ ng (y i).toInt + 1000000
      have := ng_ge (v := (y i).toInt)
      have := ng_nn (v := (y i).toInt)
      unfold pos
      split <;> omega)
    rw [sm_add (f := fun i => ng (y i).toInt) (g := fun _ => 1000000), sm_const] at l
    unfold bN at h2
    omega
end DY
