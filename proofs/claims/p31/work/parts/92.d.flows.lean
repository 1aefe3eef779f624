/-! ===== the flows of a day, and those that are scheduled ===== -/
theorem s64_head {g : Nat → Int64} : ∀ n, s64 g (n + 1) = g 0 + s64 (fun t => g (t + 1)) n
  | 0 => by
    show (0 : Int64) + g 0 = g 0 + 0
    rw [Int64.zero_add, Int64.add_zero]
  | n + 1 => by
    show s64 g (n + 1) + g (n + 1) = g 0 + (s64 (fun t => g (t + 1)) n + g (n + 1))
    rw [s64_head n, Int64.add_assoc]
section FW
variable {A L F p : Nat} {I : Nat → Nat → Int32} {y y' l : Nat → Int64} {d : Nat}
theorem stl_some : ∀ (n e x : Nat), stlF I n e = some x → e ≤ x ∧ x < e + n ∧ stF I x = true
  | 0, e, x, h => by cases h
  | n + 1, e, x, h => by
    unfold stlF at h
    by_cases c : stF I e = true
    · rw [if_pos c] at h
      cases h
      exact ⟨Nat.le_refl _, by omega, c⟩
    · rw [if_neg c] at h
      have := stl_some n (e + 1) x h
      exact ⟨by omega, by omega, this.2.2⟩
theorem stl_none : ∀ (n e : Nat), stlF I n e = none → ∀ x, e ≤ x → x < e + n → ¬ stF I x = true
  | 0, e, _, x, h1, h2 => by omega
  | n + 1, e, h, x, h1, h2 => by
    unfold stlF at h
    by_cases c : stF I e = true
    · rw [if_pos c] at h; cases h
    · rw [if_neg c] at h
      by_cases q : x = e
      · rw [q]; exact c
      · exact stl_none n (e + 1) h x (by omega) (by omega)
theorem stl_self {n e : Nat} (c : stF I e = true) : stlF I (n + 1) e = some e := by
  unfold stlF
  rw [if_pos c]
/-- the first settlement day from e on is d -/
theorem oI_stl {e : Nat} : oI (stlF I (451 - e) e) = -1 ∨ ∃ x, stlF I (451 - e) e = some x ∧ oI (stlF I (451 - e) e) = nI x ∧ e ≤ x ∧ x ≤ 450 ∧ stF I x = true := by
  cases h : stlF I (451 - e) e with
  | none => exact Or.inl rfl
  | some x =>
    obtain ⟨h1, h2, h3⟩ := stl_some _ _ _ h
    exact Or.inr ⟨x, rfl, rfl, h1, by omega, h3⟩
theorem n1_lt {x : Nat} (h : x < 2 ^ 31) : (-1 : Int32) < nI x := by
  rw [Int32.lt_iff_toInt_lt, nI_toInt h]
  have : (-1 : Int32).toInt = -1 := by decide
  omega
theorem nI_lt_iff {a b : Nat} (ha : a < 2 ^ 31) (hb : b < 2 ^ 31) : nI a < nI b ↔ a < b := by
  rw [Int32.lt_iff_toInt_lt, nI_toInt ha, nI_toInt hb]
  omega
theorem nI_le_iff {a b : Nat} (ha : a < 2 ^ 31) (hb : b < 2 ^ 31) : nI a ≤ nI b ↔ a ≤ b := by
  rw [Int32.le_iff_toInt_le, nI_toInt ha, nI_toInt hb]
  omega
/-- whether a time of a flow is booked between u and v -/
theorem gF_at {f t u v : Nat} (hu : u < 2 ^ 31) (hv : v < 2 ^ 31) : gF I f (nI u) (nI v) t = match stlF I (451 - (qa I f + t * qb I f)) (qa I f + t * qb I f) with
  | none => 0
  | some x => if u ≤ x ∧ x ≤ v then (I 16 f).toInt64 else 0 := by
  unfold gF
  cases h : stlF I (451 - (qa I f + t * qb I f)) (qa I f + t * qb I f) with
  | none => exact if_pos (n1_lt hu)
  | some x =>
    obtain ⟨h1, h2, -⟩ := stl_some _ _ _ h
    show (if nI x < nI u then (0 : Int64) else if nI v < nI x then 0 else (I 16 f).toInt64) = if u ≤ x ∧ x ≤ v then (I 16 f).toInt64 else 0
    by_cases c : u ≤ x
    · rw [if_neg (fun g => by rw [nI_lt_iff (by omega) hu] at g; omega)]
      by_cases c2 : x ≤ v
      · rw [if_neg (fun g => by rw [nI_lt_iff hv (by omega)] at g; omega), if_pos ⟨c, c2⟩]
      · rw [if_pos ((nI_lt_iff hv (by omega)).mpr (by omega)), if_neg (fun g => c2 g.2)]
    · rw [if_pos ((nI_lt_iff (by omega) hu).mpr (by omega)), if_neg (fun g => c g.1)]
/-- the flows of an interval are those of both its parts -/
theorem gF_cut {f t u m v : Nat} (h1 : u ≤ m) (h2 : m < v) (hv : v < 2 ^ 31) : gF I f (nI u) (nI v) t = gF I f (nI u) (nI m) t + gF I f (nI (m + 1)) (nI v) t := by
  rw [gF_at (by omega) hv, gF_at (by omega) (by omega), gF_at (by omega) hv]
  cases stlF I (451 - (qa I f + t * qb I f)) (qa I f + t * qb I f) with
  | none => exact (Int64.add_zero 0).symm
  | some x =>
    show (if u ≤ x ∧ x ≤ v then (I 16 f).toInt64 else 0) = (if u ≤ x ∧ x ≤ m then (I 16 f).toInt64 else 0) + (if m + 1 ≤ x ∧ x ≤ v then (I 16 f).toInt64 else 0)
    by_cases c1 : u ≤ x ∧ x ≤ m
    · rw [if_pos c1, if_pos (by omega), if_neg (by omega), Int64.add_zero]
    · by_cases c2 : m + 1 ≤ x ∧ x ≤ v
      · rw [if_neg c1, if_pos c2, if_pos (by omega), Int64.zero_add]
      · rw [if_neg c1, if_neg c2, if_neg (by omega), Int64.add_zero]
theorem gS_sum {f m : Nat} {u v : Int32} {n : Nat} {s : Int64} : itr (gS I f m u v) n s = s + s64 (fun t => gF I f u v (m + t)) n := s64_itr n
theorem scF_sum {i : Nat} {u v : Int32} : scF I F y i u v = s64 (fun f => if fA I f = i then s64 (fun t => gF I f u v (qm y f + t)) (qT I f - qm y f) else 0) F := by
  unfold scF
  rw [← Int64.zero_add (s64 _ F), ← s64_itr]
  refine itr_fun F 0 (fun f s _ => ?_)
  unfold sfF
  by_cases c : fA I f = i
  · rw [if_pos c, if_pos c, gS_sum]
  · rw [if_neg c, if_neg c, Int64.add_zero]
theorem sc_cut {i u m v : Nat} (h1 : u ≤ m) (h2 : m < v) (hv : v < 2 ^ 31) : scF I F y i (nI u) (nI v) = scF I F y i (nI u) (nI m) + scF I F y i (nI (m + 1)) (nI v) := by
  rw [scF_sum, scF_sum, scF_sum, ← s64_add]
  refine s64_congr F (fun f _ => ?_)
  by_cases c : fA I f = i
  · rw [if_pos c, if_pos c, if_pos c, ← s64_add]
    exact s64_congr _ (fun t _ => gF_cut h1 h2 hv)
  · rw [if_neg c, if_neg c, if_neg c, Int64.add_zero]
/-- no flow is scheduled for a day that is no settlement day -/
theorem sc_none {i : Nat} (hd : d < 2 ^ 31) (hs : ¬ stF I d = true) : scF I F y i (nI d) (nI d) = 0 := by
  rw [scF_sum]
  refine s64_0 F (fun f _ => ?_)
  by_cases c : fA I f = i
  · rw [if_pos c]
    refine s64_0 _ (fun t _ => ?_)
    rw [gF_at hd hd]
    cases h : stlF I (451 - (qa I f + (qm y f + t) * qb I f)) (qa I f + (qm y f + t) * qb I f) with
    | none => rfl
    | some x =>
      obtain ⟨h1, h2, h3⟩ := stl_some _ _ _ h
      show (if d ≤ x ∧ x ≤ d then (I 16 f).toInt64 else 0) = 0
      refine if_neg (fun g => hs ?_)
      have : d = x := by omega
      rw [this]; exact h3
  · rw [if_neg c]
/-- a flow's payments of a settlement day: those that are scheduled for it -/
theorem flw_sum {f : Nat} (hfa : fA I f < 10) (h1 : qa I f ≤ 450) (h2 : qb I f ≤ 100) (h4 : qT I f ≤ 30) (w5 : I 17 f = nI (qa I f)) (w6 : I 18 f = nI (qb I f)) (w7 : I 19 f = nI (qT I f)) (hd : d ≤ 450) (hs : stF I d = true) : ∀ (k m : Nat) (y : Nat → Int64), y (88 + f) = lN m → m + k = qT I f → (0 < k → ∀ e, qa I f + m * qb I f ≤ e → e < d → ¬ stF I e = true) →
    flwF I d f k y (fA I f) = y (fA I f) + s64 (fun t => gF I f (nI d) (nI d) (m + t)) k := by
  intro k
  induction k with
  | zero => intro m y _ _ _; exact (Int64.add_zero _).symm
  | succ k ih =>
    intro m y hy hk hn
    have mb : m * qb I f ≤ 30 * 100 := Nat.mul_le_mul (by omega) h2
    have eD : I 17 f + (y (88 + f)).toInt32 * I 18 f = nI (qa I f + m * qb I f) := by rw [w5, w6, hy, lN_i, nI_mul2, nI_add]
    have c1 : y (88 + f) < (I 19 f).toInt64 := by
      rw [hy, w7, nI_l (by omega)]
      exact (lN_lt (by omega) (by omega)).mpr (by omega)
    have mono : ∀ t, qa I f + m * qb I f ≤ qa I f + (m + t) * qb I f := fun t => Nat.add_le_add_left (Nat.mul_le_mul_right _ (Nat.le_add_right m t)) _
    unfold flwF
    by_cases cc : flwC I d f y
    · rw [if_pos cc]
      have due : qa I f + m * qb I f ≤ d := by
        have := cc.2
        rw [eD, nI_le_iff (by omega) (by omega)] at this
        exact this
      have hn' : ∀ e, qa I f + m * qb I f ≤ e → e < d → ¬ stF I e = true := hn (by omega)
      have g0 : gF I f (nI d) (nI d) (m + 0) = (I 16 f).toInt64 := by
        rw [gF_at (by omega) (by omega)]
        have e1 : stlF I (451 - (qa I f + (m + 0) * qb I f)) (qa I f + (m + 0) * qb I f) = some d := by
          rw [Nat.add_zero, stl_skip (d - (qa I f + m * qb I f)) (qa I f + m * qb I f) d (by omega) hn', show 451 - d = (450 - d) + 1 by omega]
          exact stl_self hs
        rw [e1]
        exact if_pos ⟨Nat.le_refl _, Nat.le_refl _⟩
      have sh : s64 (fun t => gF I f (nI d) (nI d) (m + t)) (k + 1) = (I 16 f).toInt64 + s64 (fun t => gF I f (nI d) (nI d) (m + 1 + t)) k := by
        rw [s64_head, g0]
        congr 1
        exact s64_congr k (fun t _ => by rw [show m + (t + 1) = m + 1 + t by omega])
      rw [ih (m + 1) (flwS I f y) (by unfold flwS; rw [pk_uLs, hy, lN_1]) (by omega) (fun _ e he hlt => hn' e (Nat.le_trans (mono 1) he) hlt), sh]
      have e2 : flwS I f y (fA I f) = y (fA I f) + (I 16 f).toInt64 := by
        unfold flwS
        rw [pk_uLn (by omega), pk_uLs]
      rw [e2, Int64.add_assoc]
    · rw [if_neg cc]
      have late : d < qa I f + m * qb I f := by
        refine Nat.lt_of_not_le (fun g => cc ⟨c1, ?_⟩)
        rw [eD]
        exact nI_le g (by omega)
      rw [s64_0 (k + 1) (fun t _ => ?_), Int64.add_zero]
      rw [gF_at (by omega) (by omega)]
      cases h : stlF I (451 - (qa I f + (m + t) * qb I f)) (qa I f + (m + t) * qb I f) with
      | none => rfl
      | some x =>
        obtain ⟨x1, -, -⟩ := stl_some _ _ _ h
        have := mono t
        exact if_neg (fun g => by omega)
/-- what the flows of a settlement day bring to a pool -/
theorem flows_ps (hn : cEn A L F I) (hw : fwOk F d I y) (hd : d ≤ 450) (hs : stF I d = true) : ∀ k, k ≤ F → ps A I p (itr (flowS I d) k y) = ps A I p y + s64 (fun f => if tI I (fA I f) = p then s64 (fun t => gF I f (nI d) (nI d) (qm y f + t)) (qT I f - qm y f) else 0) k := by
  have hA := hn.1
  intro k
  induction k with
  | zero => intro _; exact (Int64.add_zero _).symm
  | succ k ih =>
    intro hk
    obtain ⟨w1, w2, w3, w4, w5, w6, w7, w8, w9⟩ := hw k (by omega)
    have fa := (hn.2.2.2.2.2.2.2.1 k (by omega)).2
    have e88 : itr (flowS I d) k y (88 + k) = lN (qm y k) := by rw [(flows_88 hn k (by omega)).1 (Nat.le_refl k), w8]
    have nn := flwN_eq (zz := itr (flowS I d) k y) w4 w3 e88 w7
    have en : flwN I k (itr (flowS I d) k y) = qT I k - qm y k := by omega
    have own := flw_sum (f := k) (by omega) w1 w2 w4 w5 w6 w7 hd hs (qT I k - qm y k) (qm y k) (itr (flowS I d) k y) e88 (by omega) (fun h => w9 (by omega))
    show ps A I p (flowS I d k (itr (flowS I d) k y)) = ps A I p y + (s64 _ k + _)
    have st : ps A I p (flowS I d k (itr (flowS I d) k y)) = ps A I p (itr (flowS I d) k y) + (if tI I (fA I k) = p then s64 (fun t => gF I k (nI d) (nI d) (qm y k + t)) (qT I k - qm y k) else 0) := by
      have ef : flowS I d k (itr (flowS I d) k y) = flwF I d k (flwN I k (itr (flowS I d) k y)) (itr (flowS I d) k y) := rfl
      rw [ef, en]
      have cg : ps A I p (flwF I d k (qT I k - qm y k) (itr (flowS I d) k y)) = ps A I p (vp_updL (itr (flowS I d) k y) (fA I k) (flwF I d k (qT I k - qm y k) (itr (flowS I d) k y) (fA I k))) := by
        refine ps_congr (fun i hi => ?_)
        by_cases c : i = fA I k
        · rw [c, pk_uLs]
        · rw [pk_uLn c, flwF_other (by omega) c]
      rw [cg, ps_upd fa, own]
      congr 1
      by_cases c : tI I (fA I k) = p
      · rw [if_pos c, if_pos c]
        grind
      · rw [if_neg c, if_neg c]
    rw [st, ih (by omega), Int64.add_assoc]
/-- a pool's scheduled flows, by accounts and by flows -/
theorem sc_pool (hn : cEn A L F I) {u v : Int32} : s64 (fun k => if tI I k = p then scF I F y k u v else 0) A = s64 (fun f => if tI I (fA I f) = p then s64 (fun t => gF I f u v (qm y f + t)) (qT I f - qm y f) else 0) F := by
  have e : s64 (fun k => if tI I k = p then scF I F y k u v else 0) A = s64 (fun k => s64 (fun f => if tI I k = p ∧ fA I f = k then s64 (fun t => gF I f u v (qm y f + t)) (qT I f - qm y f) else 0) F) A := by
    refine s64_congr A (fun k _ => ?_)
    by_cases c : tI I k = p
    · rw [if_pos c, scF_sum]
      refine s64_congr F (fun f _ => ?_)
      by_cases c2 : fA I f = k
      · rw [if_pos c2, if_pos ⟨c, c2⟩]
      · rw [if_neg c2, if_neg (fun g => c2 g.2)]
    · rw [if_neg c]
      exact (s64_0 F (fun f _ => if_neg (fun g => c g.1))).symm
  rw [e, s64_swap]
  refine s64_congr F (fun f hf => ?_)
  have fa := (hn.2.2.2.2.2.2.2.1 f hf).2
  rw [s64_at (i := fA I f) (fun k _ hne => if_neg (fun g => hne g.2.symm)) fa]
  by_cases c : tI I (fA I f) = p
  · rw [if_pos ⟨c, rfl⟩, if_pos c]
  · rw [if_neg (fun g => c g.1), if_neg c]
end FW
