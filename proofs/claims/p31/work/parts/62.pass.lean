/-! ===== a day: what holds behind it ===== -/
/-- the state between days: day d, c calls so far -/
def stD (A L F : Nat) (I : Nat → Nat → Int32) (c d : Nat) (X : Int) (y : Nat → Int64) : Prop := bT A L F I c (d / 20) X y ∧ bW A L I (d % 20) X y ∧ flB F I y ∧ y 108 = lN d
/-- all that is asked of what stays as days pass -/
def cfg (A L F : Nat) (I : Nat → Nat → Int32) : Prop := cEn A L F I ∧ tgOk A I ∧ rtOk A L I ∧ amOk F I ∧ ∀ d, 450 < d → I 20 d = 0
section PD
variable {A L F : Nat} {I : Nat → Nat → Int32} {y y' l : Nat → Int64} {X X' : Int} {c n d e : Nat}
theorem sm_neg {f : Nat → Int} : ∀ n, sm (fun i => -(f i)) n = -(sm f n)
  | 0 => rfl
  | n + 1 => by
    show sm (fun i => -(f i)) n + -(f n) = -(sm f n + f n)
    rw [sm_neg n]
    omega
theorem bR_pos (hA : A ≤ 10) (hL : L ≤ 6) (h : bR A L I X y) : sm (fun i => pos (y i).toInt) A ≤ 2 * X + 70000000 ∧ sm (fun i => pos (-(y i).toInt)) A ≤ X + 10000000 := by
  have hd := bD_rng hL h.2.2
  obtain ⟨h1, h2, -⟩ := h
  unfold bS at h1
  unfold bN at h2
  constructor
  · have l := sm_le (f := fun i => pos (y i).toInt) (g := fun i => (y i).toInt + ng (y i).toInt + 1000000) A (fun i _ => by
      show pos (y i).toInt ≤ (y i).toInt + ng (y i).toInt + 1000000
      have := ng_ge (v := (y i).toInt)
      have := ng_nn (v := (y i).toInt)
      unfold pos
      split <;> omega)
    rw [sm_add (f := fun i => (y i).toInt + ng (y i).toInt) (g := fun _ => 1000000), sm_add (f := fun i => (y i).toInt) (g := fun i => ng (y i).toInt), sm_const] at l
    omega
  · have l := sm_le (f := fun i => pos (-(y i).toInt)) (g := fun i => ng (y i).toInt + 1000000) A (fun i _ => by
      show pos (-(y i).toInt) ≤ ng (y i).toInt + 1000000
      have := ng_ge (v := (y i).toInt)
      have := ng_nn (v := (y i).toInt)
      unfold pos
      split <;> omega)
    rw [sm_add (f := fun i => ng (y i).toInt) (g := fun _ => 1000000), sm_const] at l
    omega
theorem tP_pos (hA : A ≤ 10) (hL : L ≤ 6) (h : bR A L I X y) : sm (fun p => pos (tP A I p y)) A ≤ 2 * X + 70000000 ∧ sm (fun p => pos (-(tP A I p y))) A ≤ X + 10000000 := by
  obtain ⟨p1, p2⟩ := bR_pos hA hL h
  have cut : ∀ f : Nat → Int, sm (fun i => if tI I i < A then pos (f i) else 0) A ≤ sm (fun i => pos (f i)) A := fun f => sm_le A (fun i _ => by
    show (if tI I i < A then pos (f i) else 0) ≤ pos (f i)
    split
    · exact Int.le_refl _
    · exact pos_nn)
  constructor
  · exact Int.le_trans (pools_pos (fun i => (y i).toInt) A I A) (Int.le_trans (cut _) p1)
  · have e : sm (fun p => pos (-(tP A I p y))) A = sm (fun p => pos (sm (fun i => if tI I i = p then -(y i).toInt else 0) A)) A := sm_congr A (fun p _ => by
      show pos (-(sm (fun i => if tI I i = p then (y i).toInt else 0) A)) = _
      rw [← sm_neg]
      congr 1
      exact sm_congr A (fun i _ => by
        show -(if tI I i = p then (y i).toInt else 0) = if tI I i = p then -(y i).toInt else 0
        split <;> omega))
    rw [e]
    exact Int.le_trans (pools_pos (fun i => -(y i).toInt) A I A) (Int.le_trans (cut _) p2)
/-- one weight behind a pool's accruing -/
theorem wtS_at {k x : Nat} {s : Int64} (hA : A ≤ 10) (hx : x < A) : itr (wtS I k s) A y (30 + x) = y (30 + x) + (if 0 < s ∧ 0 < (if I 4 x = nI k then y x else 0) then (if I 4 x = nI k then y x else 0) else 0) ∧ itr (wtS I k s) A y (40 + x) = y (40 + x) + (if s < 0 ∧ (if I 4 x = nI k then y x else 0) < 0 then -(if I 4 x = nI k then y x else 0) else 0) := by
  have o : ∀ m, ∀ j s', j < A → m ≠ 30 + j → m ≠ 40 + j → wtS I k s j s' m = s' m := fun m j s' _ h1 h2 => by
    unfold wtS
    rw [pk_uLn h2, pk_uLn h1]
  have bal : ∀ N, N ≤ A → ∀ m, m < 10 → itr (wtS I k s) N y m = y m := fun N hN m hm => itr_bd (R := fun s' : Nat → Int64 => s' m = y m) N y (fun j s' hj hs => (o m j s' (by omega) (by omega) (by omega)).trans hs) rfl
  have own : ∀ m, (m = 30 + x ∨ m = 40 + x) → itr (wtS I k s) x y m = y m := fun m hm => itr_bd (R := fun s' : Nat → Int64 => s' m = y m) x y (fun j s' hj hs => (o m j s' (by omega) (by omega) (by omega)).trans hs) rfl
  constructor
  · rw [(itr_lone (f := wtS I k s) (m := 30 + x) (p := x) A y (fun j s' hj hne => o _ j s' hj (by omega) (by omega))).1 hx]
    unfold wtS
    have b := bal x (by omega) x (by omega)
    have w := own (30 + x) (Or.inl rfl)
    unfold wtS at b w
    rw [pk_uLn (by omega), pk_uLs, w, b]
  · rw [(itr_lone (f := wtS I k s) (m := 40 + x) (p := x) A y (fun j s' hj hne => o _ j s' hj (by omega) (by omega))).1 hx]
    unfold wtS
    have b := bal x (by omega) x (by omega)
    have w := own (40 + x) (Or.inr rfl)
    unfold wtS at b w
    rw [pk_uLs, w, b]
theorem accS_w (hn : cEn A L F I) {k x : Nat} (hk : k < A) (hx : x < A) : (∃ T : Int64, accS I A k y (30 + x) = y (30 + x) + (if 0 < T ∧ tI I x = k ∧ 0 < y x then y x else 0) ∧ accS I A k y (40 + x) = y (40 + x) + (if T < 0 ∧ tI I x = k ∧ y x < 0 then -(y x) else 0)) := by
  have hA := hn.1
  have ha : acOk A I := hn.2.2.2.2.1
  unfold accS
  by_cases c : I 3 k = -1
  · rw [if_pos c]
    obtain ⟨w1, w2⟩ := wtS_at (y := acc0 I k (sumF I A y (nI k) k) y) (I := I) (k := k) (s := sumF I A y (nI k) k) hA hx
    have a0 : ∀ m, m ≠ 10 + k → m ≠ 20 + k → acc0 I k (sumF I A y (nI k) k) y m = y m := fun m h1 h2 => by
      unfold acc0
      rw [pk_uLn h2, pk_uLn h1]
    rw [w1, w2, a0 (30 + x) (by omega) (by omega), a0 (40 + x) (by omega) (by omega), a0 x (by omega) (by omega)]
    refine ⟨sumF I A y (nI k) k, ?_, ?_⟩
    · by_cases e : tI I x = k
      · rw [if_pos ((mem4 ha hA hk hx).mpr e)]
        by_cases g : 0 < sumF I A y (nI k) k ∧ 0 < y x
        · rw [if_pos g, if_pos ⟨g.1, e, g.2⟩]
        · rw [if_neg g, if_neg (fun v => g ⟨v.1, v.2.2⟩)]
      · rw [if_neg (fun v => e ((mem4 ha hA hk hx).mp v)), if_neg (fun v => absurd v.2 (by decide)), if_neg (fun v => e v.2.1)]
    · by_cases e : tI I x = k
      · rw [if_pos ((mem4 ha hA hk hx).mpr e)]
        by_cases g : sumF I A y (nI k) k < 0 ∧ y x < 0
        · rw [if_pos g, if_pos ⟨g.1, e, g.2⟩]
        · rw [if_neg g, if_neg (fun v => g ⟨v.1, v.2.2⟩)]
      · rw [if_neg (fun v => e ((mem4 ha hA hk hx).mp v)), if_neg (fun v => absurd v.2 (by decide)), if_neg (fun v => e v.2.1)]
  · rw [if_neg c]
    refine ⟨0, ?_, ?_⟩
    · rw [if_neg (fun v => absurd v.1 (by decide)), Int64.add_zero]
    · rw [if_neg (fun v => absurd v.1 (by decide)), Int64.add_zero]
theorem accF_o (hA : A ≤ 10) (hL : L ≤ 6) {m : Nat} (hm : m < 10 ∨ (50 ≤ m ∧ m < 76) ∨ 82 ≤ m) : accF I A L y m = y m := by
  unfold accF
  have h1 : itr (accS I A) A y m = y m := itr_bd (R := fun s : Nat → Int64 => s m = y m) A y (fun k s hk hs => (accS_o hk hA (by omega)).trans hs) rfl
  exact itr_bd (R := fun s : Nat → Int64 => s m = y m) L _ (fun k s hk hs => by
    unfold linS
    rw [pk_uLn (by omega)]
    exact hs) h1
theorem acc_bW (hn : cEn A L F I) (hr : rtOk A L I) (hX0 : 0 ≤ X) (hX : X ≤ 2300000000) (he : e < 20) (hb : bR A L I X y) (h : bW A L I e X y) : bW A L I (e + 1) X (accF I A L y) := by
  have hA := hn.1
  have hL := hn.2.1
  have tb := bR_bd hL hb
  obtain ⟨h1, h2, h3, h4, h5⟩ := h
  obtain ⟨P1, P2⟩ := tP_pos hA hL hb
  obtain ⟨Q1, Q2⟩ := bR_pos hA hL hb
  have em : ((e + 1 : Nat) : Int) * (2 * X + 70000000) = e * (2 * X + 70000000) + (2 * X + 70000000) := by rw [Int.natCast_add, Int.add_mul]; simp
  have em2 : ((e + 1 : Nat) : Int) * (1000 * (2 * X + 70000000)) = e * (1000 * (2 * X + 70000000)) + 1000 * (2 * X + 70000000) := by rw [Int.natCast_add, Int.add_mul]; simp
  have em3 : ((e + 1 : Nat) : Int) * 10000000000 = e * 10000000000 + 10000000000 := by rw [Int.natCast_add, Int.add_mul]; simp
  have eb : (e : Int) * (1000 * (2 * X + 70000000)) ≤ 20 * (1000 * (2 * X + 70000000)) := Int.mul_le_mul_of_nonneg_right (by omega) (by omega)
  have eb2 : (e : Int) * (2 * X + 70000000) ≤ 20 * (2 * X + 70000000) := Int.mul_le_mul_of_nonneg_right (by omega) (by omega)
  -- behind the pools
  have bal : ∀ N, N ≤ A → ∀ m, m < 10 ∨ 50 ≤ m → itr (accS I A) N y m = y m := fun N hN m hm => itr_bd (R := fun s : Nat → Int64 => s m = y m) N y (fun k s hk hs => (accS_o (by omega) hA hm).trans hs) rfl
  have lines : ∀ m, m < 76 → itr (linS I) L (itr (accS I A) A y) m = itr (accS I A) A y m := fun m hm => itr_bd (R := fun s : Nat → Int64 => s m = itr (accS I A) A y m) L _ (fun k s hk hs => by
    unfold linS
    rw [pk_uLn (by omega)]
    exact hs) rfl
  have s1le : ∀ p, p < A → (y (10 + p)).toInt ≤ 36000000 + 20 * (1000 * (2 * X + 70000000)) ∧ (y (20 + p)).toInt ≤ 36000000 + 20 * (1000 * (2 * X + 70000000)) := fun p hp => by
    have a1 := sm_at (f := fun p => (y (10 + p)).toInt) (i := p) A (fun j hj => (h1 j hj).1) hp
    have a2 := sm_at (f := fun p => (y (20 + p)).toInt) (i := p) A (fun j hj => (h1 j hj).2.1) hp
    exact ⟨by omega, by omega⟩
  have sums : ∀ p, p < A → (accF I A L y (10 + p)).toInt = (y (10 + p)).toInt + (if I 3 p = -1 then (if 0 < tP A I p y then tP A I p y * (I 9 p).toInt else 0) else 0) ∧ (accF I A L y (20 + p)).toInt = (y (20 + p)).toInt + (if I 3 p = -1 then (if tP A I p y < 0 then -(tP A I p y) * (I 10 p).toInt else 0) else 0) := by
    intro p hp
    have o10 : ∀ N, N ≤ p → itr (accS I A) N y (10 + p) = y (10 + p) := fun N hN => (itr_lone (f := accS I A) (m := 10 + p) (p := p) N y (fun k s hk hne => accS_25 (by omega) hA (by omega) (by omega) (by omega))).2 hN
    have o20 : ∀ N, N ≤ p → itr (accS I A) N y (20 + p) = y (20 + p) := fun N hN => (itr_lone (f := accS I A) (m := 20 + p) (p := p) N y (fun k s hk hne => accS_25 (by omega) hA (by omega) (by omega) (by omega))).2 hN
    have e1 : accF I A L y (10 + p) = accS I A p (itr (accS I A) p y) (10 + p) := by
      unfold accF
      rw [lines (10 + p) (by omega)]
      exact (itr_lone (f := accS I A) (m := 10 + p) (p := p) A y (fun k s hk hne => accS_25 hk hA (by omega) (by omega) (by omega))).1 hp
    have e2 : accF I A L y (20 + p) = accS I A p (itr (accS I A) p y) (20 + p) := by
      unfold accF
      rw [lines (20 + p) (by omega)]
      exact (itr_lone (f := accS I A) (m := 20 + p) (p := p) A y (fun k s hk hne => accS_25 hk hA (by omega) (by omega) (by omega))).1 hp
    rw [e1, e2]
    have tc : tP A I p (itr (accS I A) p y) = tP A I p y := tP_congr (fun i hi => bal p (by omega) i (by omega))
    have sl := s1le p hp
    have sn := h1 p hp
    by_cases c : I 3 p = -1
    · rw [if_pos c, if_pos c]
      have := accS_at (L := L) hn (X := X + 60000000) (by omega) (by omega) (bdX_congr tb (fun i hi => bal p (by omega) i (by omega))) hr hp (by rw [o10 p (Nat.le_refl _), o20 p (Nat.le_refl _)]; omega) c
      rw [tc, o10 p (Nat.le_refl _), o20 p (Nat.le_refl _)] at this
      exact this
    · rw [if_neg c, if_neg c]
      unfold accS
      rw [if_neg c]
      have a := o10 p (Nat.le_refl _)
      have b := o20 p (Nat.le_refl _)
      unfold accS at a b
      rw [a, b]
      omega
  have delta : ∀ p, p < A → 0 ≤ (if I 3 p = -1 then (if 0 < tP A I p y then tP A I p y * (I 9 p).toInt else 0) else 0) ∧ (if I 3 p = -1 then (if 0 < tP A I p y then tP A I p y * (I 9 p).toInt else 0) else 0) ≤ 1000 * pos (tP A I p y) ∧ 0 ≤ (if I 3 p = -1 then (if tP A I p y < 0 then -(tP A I p y) * (I 10 p).toInt else 0) else 0) ∧ (if I 3 p = -1 then (if tP A I p y < 0 then -(tP A I p y) * (I 10 p).toInt else 0) else 0) ≤ 1000 * pos (-(tP A I p y)) := by
    intro p hp
    obtain ⟨⟨r1, r2⟩, r3, r4⟩ := hr.1 p hp
    have n1 := pos_nn (v := tP A I p y)
    have n2 := pos_nn (v := -(tP A I p y))
    have m1 : ∀ t r : Int, 0 ≤ t → 0 ≤ r → r ≤ 1000 → 0 ≤ t * r ∧ t * r ≤ 1000 * t := fun t r ht hr hr2 => ⟨Int.mul_nonneg ht hr, by rw [Int.mul_comm 1000 t]; exact Int.mul_le_mul_of_nonneg_left hr2 ht⟩
    refine ⟨?_, ?_, ?_, ?_⟩
    · split
      · split
        · exact (m1 _ _ (by omega) r1 r2).1
        · omega
      · omega
    · split
      · split
        · rename_i g
          have := (m1 _ _ (by omega) r1 r2 : 0 ≤ tP A I p y * (I 9 p).toInt ∧ _).2
          have := pos_ge (v := tP A I p y)
          omega
        · omega
      · omega
    · split
      · split
        · exact (m1 _ _ (by omega) r3 r4).1
        · omega
      · omega
    · split
      · split
        · rename_i g
          have := (m1 _ _ (by omega) r3 r4 : 0 ≤ -(tP A I p y) * (I 10 p).toInt ∧ _).2
          have := pos_ge (v := -(tP A I p y))
          omega
        · omega
      · omega
  refine ⟨fun p hp => ?_, ?_, ?_, fun x hx => ?_, fun l hl => ?_⟩
  · obtain ⟨s1, s2⟩ := sums p hp
    obtain ⟨d1, d2, d3, d4⟩ := delta p hp
    obtain ⟨n1, n2, n3⟩ := h1 p hp
    refine ⟨by omega, by omega, fun c => ?_⟩
    rw [if_neg c] at s1 s2
    have := n3 c
    omega
  · have l := sm_le (f := fun p => (accF I A L y (10 + p)).toInt) (g := fun p => (y (10 + p)).toInt + 1000 * pos (tP A I p y)) A (fun p hp => by
      show (accF I A L y (10 + p)).toInt ≤ (y (10 + p)).toInt + 1000 * pos (tP A I p y)
      have := (sums p hp).1
      have := (delta p hp).2.1
      omega)
    rw [sm_add (f := fun p => (y (10 + p)).toInt) (g := fun p => 1000 * pos (tP A I p y))] at l
    have m : sm (fun p => 1000 * pos (tP A I p y)) A = 1000 * sm (fun p => pos (tP A I p y)) A := by
      have : ∀ N, sm (fun p => 1000 * pos (tP A I p y)) N = 1000 * sm (fun p => pos (tP A I p y)) N := by
        intro N
        induction N with
        | zero => rfl
        | succ N ih =>
          show sm (fun p => 1000 * pos (tP A I p y)) N + 1000 * pos (tP A I N y) = 1000 * (sm (fun p => pos (tP A I p y)) N + pos (tP A I N y))
          rw [ih]
          omega
      exact this A
    rw [m] at l
    omega
  · have l := sm_le (f := fun p => (accF I A L y (20 + p)).toInt) (g := fun p => (y (20 + p)).toInt + 1000 * pos (-(tP A I p y))) A (fun p hp => by
      show (accF I A L y (20 + p)).toInt ≤ (y (20 + p)).toInt + 1000 * pos (-(tP A I p y))
      have := (sums p hp).2
      have := (delta p hp).2.2.2
      omega)
    rw [sm_add (f := fun p => (y (20 + p)).toInt) (g := fun p => 1000 * pos (-(tP A I p y)))] at l
    have m : sm (fun p => 1000 * pos (-(tP A I p y))) A = 1000 * sm (fun p => pos (-(tP A I p y))) A := by
      have : ∀ N, sm (fun p => 1000 * pos (-(tP A I p y))) N = 1000 * sm (fun p => pos (-(tP A I p y))) N := by
        intro N
        induction N with
        | zero => rfl
        | succ N ih =>
          show sm (fun p => 1000 * pos (-(tP A I p y))) N + 1000 * pos (-(tP A I N y)) = 1000 * (sm (fun p => pos (-(tP A I p y))) N + pos (-(tP A I N y)))
          rw [ih]
          omega
      exact this A
    rw [m] at l
    omega
  · have ct := hn.top x hx
    have o30 : ∀ k s, k < A → k ≠ tI I x → accS I A k s (30 + x) = s (30 + x) := fun k s hk hne => by
      obtain ⟨T, w1, -⟩ := accS_w (y := s) hn hk hx
      rw [w1, if_neg (fun v => hne v.2.1.symm), Int64.add_zero]
    have o40 : ∀ k s, k < A → k ≠ tI I x → accS I A k s (40 + x) = s (40 + x) := fun k s hk hne => by
      obtain ⟨T, -, w2⟩ := accS_w (y := s) hn hk hx
      rw [w2, if_neg (fun v => hne v.2.1.symm), Int64.add_zero]
    have f1 := itr_lone (f := accS I A) (m := 30 + x) (p := tI I x) A y (fun k s hk hne => o30 k s hk hne)
    have f2 := itr_lone (f := accS I A) (m := 40 + x) (p := tI I x) A y (fun k s hk hne => o40 k s hk hne)
    have g1 := (itr_lone (f := accS I A) (m := 30 + x) (p := tI I x) (tI I x) y (fun k s hk hne => o30 k s (by have := ct.1; omega) hne)).2 (Nat.le_refl _)
    have g2 := (itr_lone (f := accS I A) (m := 40 + x) (p := tI I x) (tI I x) y (fun k s hk hne => o40 k s (by have := ct.1; omega) hne)).2 (Nat.le_refl _)
    obtain ⟨T, w1, w2⟩ := accS_w (y := itr (accS I A) (tI I x) y) hn ct.1 hx
    have bx : itr (accS I A) (tI I x) y x = y x := bal _ (by have := ct.1; omega) x (by omega)
    rw [g1, bx] at w1
    rw [g2, bx] at w2
    have e1 : accF I A L y (30 + x) = y (30 + x) + (if 0 < T ∧ tI I x = tI I x ∧ 0 < y x then y x else 0) := by
      unfold accF
      rw [lines (30 + x) (by omega), f1.1 ct.1, w1]
    have e2 : accF I A L y (40 + x) = y (40 + x) + (if T < 0 ∧ tI I x = tI I x ∧ y x < 0 then -(y x) else 0) := by
      unfold accF
      rw [lines (40 + x) (by omega), f2.1 ct.1, w2]
    have up := sm_at (f := fun i => pos (y i).toInt) (i := x) A (fun _ _ => pos_nn) hx
    have dn := sm_at (f := fun i => pos (-(y i).toInt)) (i := x) A (fun _ _ => pos_nn) hx
    have pg := pos_ge (v := (y x).toInt)
    have pg2 := pos_ge (v := -(y x).toInt)
    have lo := bdX_lo tb hx
    obtain ⟨⟨u1, u2⟩, u3, u4⟩ := h4 x hx
    rw [e1, e2]
    constructor
    · split
      · rename_i g
        have g' := Int64.lt_iff_toInt_lt.mp g.2.2
        rw [i64_0] at g'
        rw [i64_add (by omega) (by omega)]
        omega
      · rw [Int64.add_zero]
        omega
    · split
      · rename_i g
        have g' := Int64.lt_iff_toInt_lt.mp g.2.2
        rw [i64_0] at g'
        have en : (-(y x)).toInt = -(y x).toInt := i64_neg (by omega)
        rw [i64_add (by rw [en]; omega) (by rw [en]; omega), en]
        omega
      · rw [Int64.add_zero]
        omega
  · have f1 := (itr_lone (f := linS I) (m := 76 + l) (p := l) L (itr (accS I A) A y) (fun k s hk hne => by
      unfold linS
      exact pk_uLn (by omega))).1 hl
    have g1 : ∀ m, (m = 76 + l ∨ m = 70 + l) → itr (linS I) l (itr (accS I A) A y) m = y m := fun m hm => by
      rw [itr_bd (R := fun s : Nat → Int64 => s m = itr (accS I A) A y m) l _ (fun k s hk hs => by
        unfold linS
        rw [pk_uLn (by omega)]
        exact hs) rfl]
      exact bal A (Nat.le_refl _) m (by omega)
    have e1 : accF I A L y (76 + l) = y (76 + l) + y (70 + l) * (I 13 l).toInt64 := by
      unfold accF
      rw [f1]
      unfold linS
      have a := g1 (76 + l) (Or.inl rfl)
      have b := g1 (70 + l) (Or.inr rfl)
      unfold linS at a b
      rw [pk_uLs, a, b]
    obtain ⟨d1, d2, d3⟩ := hb.2.2 l hl
    obtain ⟨r1, r2⟩ := hr.2 l hl
    have m := mul_i32 (v := y (70 + l)) (r := I 13 l) (by omega) (by omega) r1 r2
    have m1 : (y (70 + l)).toInt * (I 13 l).toInt ≤ 10000000 * (I 13 l).toInt := Int.mul_le_mul_of_nonneg_right (by omega) r1
    have m2 := Int.mul_nonneg d1 r1
    obtain ⟨u1, u2⟩ := h5 l hl
    rw [e1, i64_add (by omega) (by omega), m]
    omega
end PD
