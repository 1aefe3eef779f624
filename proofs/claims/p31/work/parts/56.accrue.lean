/-! ===== accruing: the class's way and the reference's ===== -/
section AC
variable {A L F : Nat} {I : Nat → Nat → Int32} {y y' : Nat → Int64} {X : Int}
theorem sub_none {par : Nat → Option Nat} {t k : Nat} (h : par k = none) (hne : k ≠ t) : ¬ sub par t k := by
  rintro ⟨n, h2⟩
  cases n with
  | zero => exact hne (Option.some.inj h2)
  | succ n =>
    simp only [parN, h] at h2
    cases h2
theorem sub_up {par : Nat → Option Nat} {t k p : Nat} (h : par k = some p) (hne : k ≠ t) : sub par t k ↔ sub par t p := by
  constructor
  · rintro ⟨n, h2⟩
    cases n with
    | zero => exact absurd (Option.some.inj h2) hne
    | succ n =>
      simp only [parN, h] at h2
      exact ⟨n, h2⟩
  · intro h2
    exact sub_trans h2 (sub_par h)
theorem bel_sub (hp : parOk A I) (hA : A ≤ 10) {t : Nat} : ∀ f k, k ≤ f → k < A → (belF I t f k = true ↔ sub (cpar A I) t k) := by
  intro f
  induction f with
  | zero =>
    intro k hf hk
    unfold belF
    rw [decide_eq_true_eq]
    constructor
    · intro e; rw [e]; exact sub_rfl
    · intro h
      by_cases e : k = t
      · exact e
      · refine absurd h (sub_none (cpar_n ?_) e)
        rcases hp k hk with w | ⟨p, w, -⟩
        · exact w
        · omega
  | succ f ih =>
    intro k hf hk
    unfold belF
    by_cases e : k = t
    · rw [if_pos e, e]
      exact ⟨fun _ => sub_rfl, fun _ => rfl⟩
    · rw [if_neg e]
      by_cases c : I 3 k = -1
      · rw [if_pos c]
        exact ⟨fun h => absurd h (by decide), fun h => absurd h (sub_none (cpar_n c) e)⟩
      · rw [if_neg c]
        have lp := (pI_lt hp hA hk c).2
        rw [ih (pI I k) (by omega) (by omega)]
        exact (sub_up (cpar_s hk c) e).symm
theorem bl_sub (hp : parOk A I) (hA : A ≤ 10) {t k : Nat} (hk : k < A) : blF I t k = true ↔ sub (cpar A I) t k := bel_sub hp hA k k (Nat.le_refl _) hk
theorem mbT_eq (hp : parOk A I) (ha : acOk A I) (ht : tpOk A I) (hA : A ≤ 10) {p : Nat} (hpA : p < A) : mbT A I p y = sumF I A y (nI p) p := by
  unfold mbT sumF cmem
  rw [foldS_filter, itr_foldS]
  refine foldS_congr _ _ (fun x hx s => ?_)
  have hx := List.mem_range.mp hx
  obtain ⟨a1, a2, -, -⟩ := ha x hx
  unfold sumS
  by_cases e : tI I x = p
  · have c1 : I 4 x = nI p := by rw [a1, e]
    have c2 : blF I p x = true := (bl_sub hp hA hx).mpr (by rw [← e]; exact top_sub hp ht hA x hx)
    rw [if_pos (decide_eq_true e), if_pos ⟨c1, c2⟩]
  · rw [if_neg (fun c => e (of_decide_eq_true c)), if_neg (fun c => e ?_), Int64.add_zero]
    exact (nI_eq (by omega) (by omega)).mp (a1.symm.trans c.1)
/-- the sum of a pool, as a whole number -/
theorem mbT_int (hA : A ≤ 10) (hX0 : 0 ≤ X) (hX : X ≤ 1000000000000) (h : bdX A X y) {p : Nat} : (mbT A I p y).toInt = sm (fun i => if tI I i = p then (y i).toInt else 0) A ∧ -20000000000000 ≤ (mbT A I p y).toInt ∧ (mbT A I p y).toInt ≤ 21000000000000 := by
  have main : ∀ n, n ≤ A → (itr (fun k s => if decide (tI I k = p) = true then s + y k else s) n 0).toInt = sm (fun i => if tI I i = p then (y i).toInt else 0) n ∧ -(n * (X + 1000000)) ≤ sm (fun i => if tI I i = p then (y i).toInt else 0) n ∧ sm (fun i => if tI I i = p then (y i).toInt else 0) n ≤ n * (2 * X + 10000000) := by
    intro n
    induction n with
    | zero => intro _; exact ⟨i64_0, by simp [sm], by simp [sm]⟩
    | succ n ih =>
      intro hn
      obtain ⟨e, l, u⟩ := ih (by omega)
      have b1 := bdX_lo h (show n < A by omega)
      have b2 := bdX_hi h hA (show n < A by omega)
      have m1 : (n : Int) * (X + 1000000) ≤ 10 * (X + 1000000) := Int.mul_le_mul_of_nonneg_right (by omega) (by omega)
      have m2 : (n : Int) * (2 * X + 10000000) ≤ 10 * (2 * X + 10000000) := Int.mul_le_mul_of_nonneg_right (by omega) (by omega)
      have m3 : ((n + 1 : Nat) : Int) * (X + 1000000) = n * (X + 1000000) + (X + 1000000) := by rw [Int.natCast_add, Int.add_mul]; simp
      have m4 : ((n + 1 : Nat) : Int) * (2 * X + 10000000) = n * (2 * X + 10000000) + (2 * X + 10000000) := by rw [Int.natCast_add, Int.add_mul]; simp
      show ((fun k s => if decide (tI I k = p) = true then s + y k else s) n (itr (fun k s => if decide (tI I k = p) = true then s + y k else s) n 0)).toInt = sm (fun i => if tI I i = p then (y i).toInt else 0) n + (if tI I n = p then (y n).toInt else 0) ∧ -(((n + 1 : Nat) : Int) * (X + 1000000)) ≤ sm (fun i => if tI I i = p then (y i).toInt else 0) n + (if tI I n = p then (y n).toInt else 0) ∧ sm (fun i => if tI I i = p then (y i).toInt else 0) n + (if tI I n = p then (y n).toInt else 0) ≤ ((n + 1 : Nat) : Int) * (2 * X + 10000000)
      generalize itr (fun k s => if decide (tI I k = p) = true then s + y k else s) n (0 : Int64) = s at e ⊢
      by_cases c : tI I n = p
      · simp only [c, decide_true, if_true]
        rw [i64_add (by omega) (by omega), e]
        exact ⟨rfl, by omega, by omega⟩
      · simp only [c, decide_false, if_false, Bool.false_eq_true]
        exact ⟨by omega, by omega, by omega⟩
  obtain ⟨e, l, u⟩ := main A (Nat.le_refl _)
  have e2 : mbT A I p y = itr (fun k s => if decide (tI I k = p) = true then s + y k else s) A 0 := by
    unfold mbT cmem
    rw [foldS_filter, itr_foldS]
  have m1 : (A : Int) * (X + 1000000) ≤ 10 * (X + 1000000) := Int.mul_le_mul_of_nonneg_right (by omega) (by omega)
  have m2 : (A : Int) * (2 * X + 10000000) ≤ 10 * (2 * X + 10000000) := Int.mul_le_mul_of_nonneg_right (by omega) (by omega)
  rw [e2]
  exact ⟨e, by omega, by omega⟩
theorem sg_0 {p : Nat} : sgS (2 * p) = 1 := if_pos (by omega)
theorem sg_1 {p : Nat} : sgS (2 * p + 1) = -1 := if_neg (by omega)
theorem sg64_1 : (1 : Int32).toInt64 = 1 := by decide
theorem sg64_n : (-1 : Int32).toInt64 = -1 := by decide
theorem neg1_mul (x : Int64) : (-1 : Int64) * x = -x := by
  rw [Int64.neg_mul, Int64.one_mul]
theorem acP_eq (hp : parOk A I) (ha : acOk A I) (ht : tpOk A I) (hA : A ≤ 10) (hX0 : 0 ≤ X) (hX : X ≤ 1000000000000) (h : bdX A X y) {k : Nat} (hk : k < A) (hc : I 3 k = -1) : acP A I k y = accS I A k y := by
  have T1 := mbT_int (I := I) (p := k) hA hX0 hX h
  have d2 : (2 * k) / 2 = k := by omega
  have d3 : (2 * k + 1) / 2 = k := by omega
  have z1 : sz1 (2 * k) = 10 + k := by rw [sz1_0 (by omega), d2]
  have z2 : sz1 (2 * k + 1) = 20 + k := by rw [sz1_1 (by omega), d3]
  have r1 : srt I (2 * k) = I 9 k := by unfold srt; rw [if_pos (by omega), d2]
  have r2 : srt I (2 * k + 1) = I 10 k := by unfold srt; rw [if_neg (by omega), d3]
  have w1 : ∀ x, sw1 (2 * k) x = 30 + x := fun x => sw1_0 (by omega)
  have w2 : ∀ x, sw1 (2 * k + 1) x = 40 + x := fun x => sw1_1 (by omega)
  have mem : ∀ x, x < A → (I 4 x = nI k ↔ tI I x = k) := fun x hx => by
    obtain ⟨a1, a2, -, -⟩ := ha x hx
    rw [a1]
    exact nI_eq (by omega) (by omega)
  unfold acP accS
  rw [if_pos hc, ← mbT_eq hp ha ht hA hk]
  generalize mbT A I k y = T at T1 ⊢
  obtain ⟨-, T2, T3⟩ := T1
  unfold acS acc0
  rw [sg_0, sg_1, sg64_1, sg64_n, Int64.one_mul, neg1_mul, z1, z2, r1, r2, d2, d3]
  have en : (-T).toInt = -T.toInt := i64_neg (by omega)
  by_cases c1 : 0 < T
  · have c1' := Int64.lt_iff_toInt_lt.mp c1
    rw [i64_0] at c1'
    have c2 : ¬ T < 0 := Int64.not_lt.mpr (Int64.le_of_lt c1)
    have c3 : ¬ (0 : Int64) < -T := fun w => by have := Int64.lt_iff_toInt_lt.mp w; rw [en, i64_0] at this; omega
    rw [if_neg c3, if_pos c1, if_pos c1, if_neg c2, Int64.add_zero]
    have e20 : vp_updL (vp_updL y (10 + k) (y (10 + k) + T * (I 9 k).toInt64)) (20 + k) (y (20 + k)) = vp_updL y (10 + k) (y (10 + k) + T * (I 9 k).toInt64) := by
      have : y (20 + k) = vp_updL y (10 + k) (y (10 + k) + T * (I 9 k).toInt64) (20 + k) := (pk_uLn (by omega)).symm
      rw [this, updL_same]
    rw [e20]
    unfold cmem
    rw [foldS_filter, itr_foldS]
    refine foldS_congr _ _ (fun x hx s => ?_)
    have hx := List.mem_range.mp hx
    unfold wtS wgS
    rw [sg_0, sg64_1, Int64.one_mul, w1]
    have e40 : ∀ v, vp_updL (vp_updL s (30 + x) v) (40 + x) (s (40 + x) + (if T < 0 ∧ (if I 4 x = nI k then s x else 0) < 0 then -(if I 4 x = nI k then s x else 0) else 0)) = vp_updL s (30 + x) v := by
      intro v
      rw [if_neg (fun w => c2 w.1), Int64.add_zero]
      have : s (40 + x) = vp_updL s (30 + x) v (40 + x) := (pk_uLn (by omega)).symm
      rw [this, updL_same]
    rw [e40]
    by_cases e : tI I x = k
    · rw [if_pos (decide_eq_true e), if_pos ((mem x hx).mpr e)]
      by_cases g : 0 < s x
      · rw [if_pos g, if_pos ⟨c1, g⟩]
      · rw [if_neg g, if_neg (fun w => g w.2)]
    · rw [if_neg (fun w => e (of_decide_eq_true w)), if_neg (fun w => e ((mem x hx).mp w)), if_neg (fun w => absurd w.2 (by decide)), Int64.add_zero, updL_same]
  · have c1' := Int64.le_iff_toInt_le.mp (Int64.not_lt.mp c1)
    rw [i64_0] at c1'
    rw [if_neg c1, if_neg c1, Int64.add_zero, updL_same]
    by_cases c2 : T < 0
    · have c2' := Int64.lt_iff_toInt_lt.mp c2
      rw [i64_0] at c2'
      have c3 : (0 : Int64) < -T := by rw [Int64.lt_iff_toInt_lt, en, i64_0]; omega
      rw [if_pos c3, if_pos c2]
      unfold cmem
      rw [foldS_filter, itr_foldS]
      refine (foldS_congrI (R := fun s : Nat → Int64 => ∀ i, i < 10 → s i = y i) _ _ (fun i hi => pk_uLn (by omega)) (fun x hx s hs => ?_)).1
      have hx := List.mem_range.mp hx
      have sx := hs x (by omega)
      have b1 := bdX_lo h hx
      unfold wtS wgS
      rw [sg_1, sg64_n, neg1_mul, w2]
      have e30 : vp_updL s (30 + x) (s (30 + x) + (if 0 < T ∧ 0 < (if I 4 x = nI k then s x else 0) then (if I 4 x = nI k then s x else 0) else 0)) = s := by
        rw [if_neg (fun w => c1 w.1), Int64.add_zero, updL_same]
      rw [e30]
      by_cases e : tI I x = k
      · rw [if_pos (decide_eq_true e), if_pos ((mem x hx).mpr e)]
        have e3 : (if (0 : Int64) < -(s x) then -(s x) else 0) = (if T < 0 ∧ s x < 0 then -(s x) else 0) := by
          have en2 : (-(s x)).toInt = -(s x).toInt := i64_neg (by rw [sx]; omega)
          by_cases g : s x < 0
          · have g' := Int64.lt_iff_toInt_lt.mp g
            rw [i64_0] at g'
            have k1 : (0 : Int64) < -(s x) := by rw [Int64.lt_iff_toInt_lt, en2, i64_0]; omega
            rw [if_pos k1, if_pos ⟨c2, g⟩]
          · have g' := Int64.le_iff_toInt_le.mp (Int64.not_lt.mp g)
            rw [i64_0] at g'
            have k1 : ¬ (0 : Int64) < -(s x) := fun w => by
              have := Int64.lt_iff_toInt_lt.mp w
              rw [en2, i64_0] at this
              omega
            rw [if_neg k1, if_neg (fun w => g w.2)]
        rw [e3]
        exact ⟨rfl, fun i hi => (pk_uLn (by omega)).trans (hs i hi)⟩
      · rw [if_neg (fun w => e (of_decide_eq_true w)), if_neg (fun w => e ((mem x hx).mp w)), if_neg (fun w => absurd w.2 (by decide)), Int64.add_zero, updL_same]
        exact ⟨rfl, hs⟩
    · have c2' := Int64.le_iff_toInt_le.mp (Int64.not_lt.mp c2)
      rw [i64_0] at c2'
      have c3 : ¬ (0 : Int64) < -T := fun w => by have := Int64.lt_iff_toInt_lt.mp w; rw [en, i64_0] at this; omega
      rw [if_neg c3, if_neg c2, Int64.add_zero, updL_same]
      refine (itr_bd (R := fun s : Nat → Int64 => y = s) A y (fun x s hx hs => ?_) rfl)
      subst hs
      unfold wtS
      rw [if_neg (fun w => c1 w.1), if_neg (fun w => c2 w.1), Int64.add_zero, Int64.add_zero, updL_same, updL_same]
/-- accruing leaves all but sums and weights -/
theorem accS_o {k m : Nat} (hk : k < A) (hA : A ≤ 10) (hm : m < 10 ∨ 50 ≤ m) : accS I A k y m = y m := by
  unfold accS
  split
  · refine itr_bd (R := fun s : Nat → Int64 => s m = y m) A _ (fun x s hx hs => ?_) ?_
    · unfold wtS
      rw [pk_uLn (by omega), pk_uLn (by omega)]
      exact hs
    · unfold acc0
      rw [pk_uLn (by omega), pk_uLn (by omega)]
  · rfl
theorem bdX_congr {X : Int} (h : bdX A X y) (e : ∀ i, i < A → y' i = y i) : bdX A X y' := by
  have e1 : bS A y' = bS A y := sm_congr A (fun i hi => by show (y' i).toInt = (y i).toInt; rw [e i hi])
  have e2 : bN A y' = bN A y := sm_congr A (fun i hi => by show ng (y' i).toInt = ng (y i).toInt; rw [e i hi])
  exact ⟨e1 ▸ h.1, e2 ▸ h.2⟩
theorem accrue_eq (hp : parOk A I) (ha : acOk A I) (ht : tpOk A I) (hA : A ≤ 10) (hX0 : 0 ≤ X) (hX : X ≤ 1000000000000) (h : bdX A X y) : foldS (acP A I) (ctops A I) y = itr (accS I A) A y := by
  unfold ctops
  rw [foldS_filter, itr_foldS]
  refine ((foldS_congrI (f := accS I A) (R := fun s : Nat → Int64 => ∀ i, i < 10 → s i = y i) _ _ (fun _ _ => rfl) (fun k hk s hs => ?_)).1).symm
  have hk := List.mem_range.mp hk
  refine ⟨?_, fun i hi => (accS_o hk hA (Or.inl hi)).trans (hs i hi)⟩
  by_cases c : I 3 k = -1
  · rw [if_pos (decide_eq_true c)]
    exact (acP_eq hp ha ht hA hX0 hX (bdX_congr h (fun i hi => hs i (by omega))) hk c).symm
  · rw [if_neg (fun e => c (of_decide_eq_true e))]
    unfold accS
    rw [if_neg c]
end AC
