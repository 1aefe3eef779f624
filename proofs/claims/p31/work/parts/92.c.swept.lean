/-! ===== what sweeping does to accounts without children ===== -/
section LS2
variable {ad : Nat × Nat → Nat} {nm : Nat → Nat × Nat} {A L F : Nat} {I : Nat → Nat → Int32} {y : Nat → Int64} {X : Int}
theorem mxP_int (x : Int64) : (mxP x).toInt = if 0 < x.toInt then x.toInt else 0 := by
  unfold mxP
  by_cases c : (0 : Int64) < x
  · have := Int64.lt_iff_toInt_lt.mp c
    rw [i64_0] at this
    rw [if_pos c, if_pos this]
  · have : ¬ 0 < x.toInt := fun v => c (Int64.lt_iff_toInt_lt.mpr (by rw [i64_0]; exact v))
    rw [if_neg c, if_neg this, i64_0]
theorem mn0 (s : Int) : (if 0 < (if s < 0 then -s else 0) then (0 : Int) else (if s < 0 then -s else 0)) = 0 := by
  by_cases g : s < 0
  · rw [if_pos g, if_pos (by omega)]
  · rw [if_neg g, if_neg (by omega)]
theorem mn_le (a b : Int) : (if a < b then a else b) ≤ b := by split <;> omega
theorem ifs_int {c : Prop} [Decidable c] {a b : Int64} : (if c then a else b).toInt = if c then a.toInt else b.toInt := by split <;> rfl
/-- a surplus in whole numbers -/
theorem surp_r (ht : tgOk A I) {i : Nat} (hi : i < A) {v : Int64} (h1 : -4611686018427387904 ≤ v.toInt) (h2 : v.toInt ≤ 4611686018427387904) :
    (I 6 i = 0 → surpF I i v = 0) ∧ (I 6 i = 1 → (surpF I i v).toInt = v.toInt - (I 7 i).toInt) ∧ (I 6 i = 2 → (surpF I i v).toInt = if v.toInt < (I 7 i).toInt then 0 else v.toInt - (I 7 i).toInt) ∧ (I 6 i = 3 → (surpF I i v).toInt = if (I 7 i).toInt < v.toInt then 0 else v.toInt - (I 7 i).toInt) := by
  obtain ⟨t1, t2, -, -⟩ := ht i hi
  have e : (I 7 i).toInt64.toInt = (I 7 i).toInt := Int32.toInt_toInt64 _
  have d : (v - (I 7 i).toInt64).toInt = v.toInt - (I 7 i).toInt := by rw [i64_sub (by omega) (by omega), e]
  have l1 : v - (I 7 i).toInt64 < 0 ↔ v.toInt < (I 7 i).toInt := by rw [Int64.lt_iff_toInt_lt, d, i64_0]; omega
  have l2 : 0 < v - (I 7 i).toInt64 ↔ (I 7 i).toInt < v.toInt := by rw [Int64.lt_iff_toInt_lt, d, i64_0]; omega
  unfold surpF
  refine ⟨fun r => if_pos (Or.inl r), fun r => ?_, fun r => ?_, fun r => ?_⟩
  · rw [if_neg (by rw [r]; rintro (c | c | c) <;> first | exact absurd c (by decide) | exact absurd c.1 (by decide)), d]
  · by_cases c : v.toInt < (I 7 i).toInt
    · rw [if_pos (Or.inr (Or.inl ⟨r, l1.mpr c⟩)), if_pos c, i64_0]
    · rw [if_neg (by rintro (g | g | g)
                     · rw [r] at g; exact absurd g (by decide)
                     · exact c (l1.mp g.2)
                     · rw [r] at g; exact absurd g.1 (by decide)), if_neg c, d]
  · by_cases c : (I 7 i).toInt < v.toInt
    · rw [if_pos (Or.inr (Or.inr ⟨r, l2.mpr c⟩)), if_pos c, i64_0]
    · rw [if_neg (by rintro (g | g | g)
                     · rw [r] at g; exact absurd g (by decide)
                     · rw [r] at g; exact absurd g.1 (by decide)
                     · exact c (l2.mp g.2)), if_neg c, d]
/-- a part in whole numbers -/
theorem pt_int (ht : tgOk A I) {i : Nat} (hp : pI I i < A) {v w : Int64} (h1 : -4611686018427387904 ≤ w.toInt) (h2 : w.toInt ≤ 4611686018427387904) (s1 : -4611686018427387904 ≤ (surpF I i v).toInt) (s2 : (surpF I i v).toInt ≤ 4611686018427387904) :
    (ptF I i v w).toInt = (if (if 0 < w.toInt - (I 8 (pI I i)).toInt then w.toInt - (I 8 (pI I i)).toInt else 0) < (if (surpF I i v).toInt < 0 then -(surpF I i v).toInt else 0) then (if 0 < w.toInt - (I 8 (pI I i)).toInt then w.toInt - (I 8 (pI I i)).toInt else 0) else (if (surpF I i v).toInt < 0 then -(surpF I i v).toInt else 0)) := by
  obtain ⟨-, -, t1, t2⟩ := ht (pI I i) hp
  have e : (I 8 (pI I i)).toInt64.toInt = (I 8 (pI I i)).toInt := Int32.toInt_toInt64 _
  have d : (w - (I 8 (pI I i)).toInt64).toInt = w.toInt - (I 8 (pI I i)).toInt := by rw [i64_sub (by omega) (by omega), e]
  have n : (-(surpF I i v)).toInt = -(surpF I i v).toInt := i64_neg (by omega)
  have a1 : (if (0 : Int64) < w - (I 8 (pI I i)).toInt64 then w - (I 8 (pI I i)).toInt64 else 0).toInt = if 0 < w.toInt - (I 8 (pI I i)).toInt then w.toInt - (I 8 (pI I i)).toInt else 0 := by
    have := mxP_int (w - (I 8 (pI I i)).toInt64)
    unfold mxP at this
    rw [this, d]
  have a2 : (if (0 : Int64) < -(surpF I i v) then -(surpF I i v) else 0).toInt = if (surpF I i v).toInt < 0 then -(surpF I i v).toInt else 0 := by
    have := mxP_int (-(surpF I i v))
    unfold mxP at this
    rw [this, n]
    by_cases c : (surpF I i v).toInt < 0
    · rw [if_pos (by omega), if_pos c]
    · rw [if_neg (by omega), if_neg c]
  unfold ptF
  rw [ifs_int, a1, a2]
  by_cases c : (if (0 : Int64) < w - (I 8 (pI I i)).toInt64 then w - (I 8 (pI I i)).toInt64 else 0) < (if (0 : Int64) < -(surpF I i v) then -(surpF I i v) else 0)
  · have g := Int64.lt_iff_toInt_lt.mp c
    rw [a1, a2] at g
    rw [if_pos c, if_pos g]
  · have g : ¬ _ := fun g => c (Int64.lt_iff_toInt_lt.mpr g)
    rw [a1, a2] at g
    rw [if_neg c, if_neg g]
theorem dn_bdj (hp : parOk A I) (ht : tgOk A I) (hA : A ≤ 10) (hX0 : 0 ≤ X) (hX : X ≤ 1000000000000) (h : bdX A X y) : ∀ j, j ≤ A → bdX A X (itr (dnC I) j (itd (upS I) A y))
  | 0, _ => itd_bd (R := fun w => bdX A X w) A y (fun k w hk g => (upS_bd hp ht hA hX0 hX g hk).1) h
  | j + 1, hj => by
    have g := dn_bdj hp ht hA hX0 hX h j (by omega)
    show bdX A X (dnC I j (itr (dnC I) j (itd (upS I) A y)))
    rw [← dn_eq hp ht hA hX0 hX g (show j < A by omega)]
    exact (dnS_bd hp ht hA hX0 hX g (by omega)).1
/-- an account without children behind a sweep: what it had, less its surplus, and what it gets of its parent at that moment; and how its parent ends -/
theorem leaf_at (h : cE ad nm A L F I) (ht : tgOk A I) (hX0 : 0 ≤ X) (hX : X ≤ 1000000000000) (hb : bdX A X y) {i p : Nat} (hi : i < A) (hc : cpar A I i = some p) (hl : ∀ k, k < A → cpar A I k ≠ some i) :
    ∃ v : Int64, -4611686018427387904 ≤ v.toInt ∧ v.toInt ≤ 4611686018427387904 ∧ sweepF I A y i = y i - mxP (surpF I i (y i)) + ptF I i (y i - mxP (surpF I i (y i))) v ∧
      ((v - ptF I i (y i - mxP (surpF I i (y i))) v).toInt ≤ (I 8 p).toInt → (sweepF I A y p).toInt ≤ (I 8 p).toInt) := by
  have hA := h.2.1
  have hp : parOk A I := h.2.2.2.2.1
  obtain ⟨c1, c2, c3⟩ := cpar_A hc
  have cm := kid_gt h hc
  have hpA : p < A := by omega
  obtain ⟨se, -, -, -⟩ := sweep_bd hp ht hA hX0 hX hb
  have bj := dn_bdj hp ht hA hX0 hX hb
  have kn : ckids A I i = [] := by
    unfold ckids
    rw [List.filter_eq_nil_iff]
    intro k hk
    have := hl k (List.mem_range.mp hk)
    simpa using this
  have hu : hU A I y i = y i := by rw [hU_eq h hi, kn]; rfl
  have ui : itd (upS I) A y i = y i - mxP (surpF I i (y i)) := by
    rw [pU_all, pU_done h hi A (by omega) (Nat.le_refl A), hu]
  have di : itr (dnC I) i (itd (upS I) A y) i = y i - mxP (surpF I i (y i)) := by rw [dn_own h i (Nat.le_refl i) (by omega), ui]
  have bi := bj i (by omega)
  have l1 := bdX_lo bi hpA
  have l2 := bdX_hi bi hA hpA
  refine ⟨itr (dnC I) i (itd (upS I) A y) p, by omega, by omega, ?_, fun hv => ?_⟩
  · have st : ∀ n, i + 1 + n ≤ A → itr (dnC I) (i + 1 + n) (itd (upS I) A y) i = y i - mxP (surpF I i (y i)) + ptF I i (y i - mxP (surpF I i (y i))) (itr (dnC I) i (itd (upS I) A y) p) := by
      intro n
      induction n with
      | zero =>
        intro _
        show dnC I i (itr (dnC I) i (itd (upS I) A y)) i = _
        rw [dnC_own h hc, di]
      | succ n ih =>
        intro hn
        show dnC I (i + 1 + n) (itr (dnC I) (i + 1 + n) (itd (upS I) A y)) i = _
        rw [dnC_no h (by omega) _ (by omega) (hl _ (by omega)), ih (by omega)]
    have := st (A - (i + 1)) (by omega)
    rw [show i + 1 + (A - (i + 1)) = A by omega] at this
    rw [se, this]
  · have st : ∀ n, i + 1 + n ≤ A → (itr (dnC I) (i + 1 + n) (itd (upS I) A y) p).toInt ≤ (I 8 p).toInt := by
      intro n
      induction n with
      | zero =>
        intro _
        show (dnC I i (itr (dnC I) i (itd (upS I) A y)) p).toInt ≤ _
        rw [dnC_par h hc, di]
        exact hv
      | succ n ih =>
        intro hn
        have g := ih (by omega)
        show (dnC I (i + 1 + n) (itr (dnC I) (i + 1 + n) (itd (upS I) A y)) p).toInt ≤ _
        by_cases cc : cpar A I (i + 1 + n) = some p
        · obtain ⟨q1, q2, q3⟩ := cpar_A cc
          have bq := bj (i + 1 + n) (by omega)
          have m1 := bdX_lo bq hpA
          have m2 := bdX_hi bq hA hpA
          have o1 := bdX_lo bq (show i + 1 + n < A by omega)
          have o2 := bdX_hi bq hA (show i + 1 + n < A by omega)
          obtain ⟨t1, t2, -, -⟩ := ht (i + 1 + n) (by omega)
          have sb : -4611686018427387904 ≤ (surpF I (i + 1 + n) (itr (dnC I) (i + 1 + n) (itd (upS I) A y) (i + 1 + n))).toInt ∧ (surpF I (i + 1 + n) (itr (dnC I) (i + 1 + n) (itd (upS I) A y) (i + 1 + n))).toInt ≤ 4611686018427387904 := by
            rcases surp_int ht (show i + 1 + n < A by omega) (v := itr (dnC I) (i + 1 + n) (itd (upS I) A y) (i + 1 + n)) (by omega) (by omega) with e | ⟨e, -⟩
            · rw [e, i64_0]; omega
            · rw [e]; omega
          have pz := pt_int ht (i := i + 1 + n) (v := itr (dnC I) (i + 1 + n) (itd (upS I) A y) (i + 1 + n)) (w := itr (dnC I) (i + 1 + n) (itd (upS I) A y) p) (by rw [← q3]; exact hpA) (by omega) (by omega) sb.1 sb.2
          rw [← q3, if_neg (show ¬ 0 < (itr (dnC I) (i + 1 + n) (itd (upS I) A y) p).toInt - (I 8 p).toInt by omega)] at pz
          have pz0 : (ptF I (i + 1 + n) (itr (dnC I) (i + 1 + n) (itd (upS I) A y) (i + 1 + n)) (itr (dnC I) (i + 1 + n) (itd (upS I) A y) p)).toInt = 0 := by
            rw [pz]
            exact mn0 _
          rw [dnC_par h cc, i64_sub (by omega) (by omega), pz0]
          omega
        · rw [dnC_no h (by omega) _ (by omega) cc]
          exact g
    have := st (A - (i + 1)) (by omega)
    rw [show i + 1 + (A - (i + 1)) = A by omega] at this
    rw [se]
    exact this
/-- by rules -/
theorem leaf_rules (h : cE ad nm A L F I) (ht : tgOk A I) (hX0 : 0 ≤ X) (hX : X ≤ 1000000000000) (hb : bdX A X y) {i p : Nat} (hi : i < A) (hc : cpar A I i = some p) (hl : ∀ k, k < A → cpar A I k ≠ some i) :
    (I 6 i = 0 → sweepF I A y i = y i) ∧ (I 6 i = 1 → (sweepF I A y i).toInt ≤ (I 7 i).toInt) ∧ (I 6 i = 2 → (sweepF I A y i).toInt ≤ (I 7 i).toInt ∧ (sweepF I A y i).toInt ≤ (y i).toInt) ∧ (I 6 i = 3 → (y i).toInt ≤ (sweepF I A y i).toInt ∧ ((sweepF I A y i).toInt ≤ (I 7 i).toInt ∨ sweepF I A y i = y i)) ∧
      (I 6 i = 1 ∨ I 6 i = 3 → (I 7 i).toInt ≤ (sweepF I A y i).toInt ∨ (sweepF I A y p).toInt ≤ (I 8 p).toInt) := by
  obtain ⟨v, v1, v2, e, hp⟩ := leaf_at h ht hX0 hX hb hi hc hl
  obtain ⟨c1, c2, c3⟩ := cpar_A hc
  have cm := kid_gt h hc
  have hA := h.2.1
  have b1 := bdX_lo hb hi
  have b2 := bdX_hi hb hA hi
  obtain ⟨t1, t2, -, -⟩ := ht i hi
  obtain ⟨-, -, f1, f2⟩ := ht p (by omega)
  obtain ⟨s0, s1, s2, s3⟩ := surp_r ht hi (v := y i) (by omega) (by omega)
  have m := mxP_int (surpF I i (y i))
  have mb : 0 ≤ (mxP (surpF I i (y i))).toInt ∧ (mxP (surpF I i (y i))).toInt ≤ 3000000000000 + 10000000 := by
    rcases surp_int ht hi (v := y i) (by omega) (by omega) with q | ⟨q, -⟩
    · rw [m, q, i64_0]; simp
    · rw [m, q]; split <;> omega
  have us : (y i - mxP (surpF I i (y i))).toInt = (y i).toInt - (mxP (surpF I i (y i))).toInt := i64_sub (by omega) (by omega)
  generalize hu : y i - mxP (surpF I i (y i)) = u at e us hp
  obtain ⟨r0, r1, r2, r3⟩ := surp_r ht hi (v := u) (by omega) (by omega)
  have sb : -4611686018427387904 ≤ (surpF I i u).toInt ∧ (surpF I i u).toInt ≤ 4611686018427387904 := by
    rcases surp_int ht hi (v := u) (by omega) (by omega) with q | ⟨q, -⟩
    · rw [q, i64_0]; omega
    · rw [q]; omega
  have pz := pt_int ht (i := i) (v := u) (w := v) (by rw [← c3]; omega) v1 v2 sb.1 sb.2
  rw [← c3] at pz
  have pb : 0 ≤ (ptF I i u v).toInt ∧ (ptF I i u v).toInt ≤ (if (surpF I i u).toInt < 0 then -(surpF I i u).toInt else 0) := by
    rw [pz]
    constructor
    · split <;> split <;> omega
    · exact mn_le _ _
  have pl : (if (surpF I i u).toInt < 0 then -(surpF I i u).toInt else 0) ≤ 5000000000000 := by
    rcases surp_int ht hi (v := u) (by omega) (by omega) with q | ⟨q, -⟩
    · rw [q, i64_0]; simp
    · rw [q]; split <;> omega
  have E : (sweepF I A y i).toInt = u.toInt + (ptF I i u v).toInt := by rw [e, i64_add (by omega) (by omega)]
  -- short: all that was above the floor is given
  have short : (ptF I i u v).toInt < (if (surpF I i u).toInt < 0 then -(surpF I i u).toInt else 0) → (sweepF I A y p).toInt ≤ (I 8 p).toInt := by
    intro lt
    refine hp ?_
    rw [i64_sub (by split at pl <;> omega) (by omega)]
    by_cases g : (if 0 < v.toInt - (I 8 p).toInt then v.toInt - (I 8 p).toInt else 0) < (if (surpF I i u).toInt < 0 then -(surpF I i u).toInt else 0)
    · rw [if_pos g] at pz
      rw [pz]
      split <;> omega
    · rw [if_neg g] at pz
      rw [pz] at lt
      exact absurd lt (Int.lt_irrefl _)
  have z0 : (surpF I i u).toInt = 0 → (ptF I i u v).toInt = 0 := by
    intro q
    rw [q] at pb
    have := pb.2
    rw [if_neg (by omega)] at this
    omega
  have i0 : ∀ w : Int64, w.toInt = 0 → w = 0 := fun w q => Int64.toInt_inj.mp (q.trans i64_0.symm)
  refine ⟨fun r => ?_, fun r => ?_, fun r => ?_, fun r => ?_, fun r => ?_⟩
  · have q1 : u = y i := by
      rw [← hu, s0 r]
      show y i - (if (0 : Int64) < 0 then 0 else 0) = y i
      rw [if_neg (by decide)]
      exact Int64.sub_zero _
    rw [e, i0 _ (z0 (by rw [r0 r, i64_0])), q1]
    exact Int64.add_zero _
  · have q1 := s1 r
    have q2 := r1 r
    rw [q1] at m
    rw [q2] at pb
    rw [E]
    split at m <;> split at pb <;> omega
  · have q1 := s2 r
    have q2 := r2 r
    rw [q1] at m
    have q3 : (surpF I i u).toInt = 0 := by rw [q2]; split at m <;> split at m <;> split <;> omega
    rw [E, z0 q3]
    split at m <;> split at m <;> omega
  · have q1 := s3 r
    have q2 := r3 r
    have q3 : (mxP (surpF I i (y i))).toInt = 0 := by rw [m, q1]; split <;> split <;> omega
    have q4 : u = y i := by
      rw [← hu, i0 _ q3]
      exact Int64.sub_zero _
    refine ⟨by rw [E]; omega, ?_⟩
    by_cases g : (I 7 i).toInt < u.toInt
    · right
      rw [if_pos g] at q2
      rw [e, i0 _ (z0 q2), q4]
      exact Int64.add_zero _
    · left
      rw [if_neg g] at q2
      rw [q2] at pb
      rw [E]
      split at pb <;> omega
  · by_cases g : (I 7 i).toInt ≤ (sweepF I A y i).toInt
    · exact Or.inl g
    · refine Or.inr (short ?_)
      rw [E] at g
      rcases r with r | r
      · rw [r1 r]
        split <;> omega
      · rw [r3 r]
        split
        · omega
        · split <;> omega
end LS2
