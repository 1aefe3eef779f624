/-! ===== bounds through a settlement day; easing ends ===== -/
def bD (L : Nat) (y : Nat → Int64) : Int := sm (fun l => (y (70 + l)).toInt) L
/-- what holds of balances and lines: X bounds all balances less what is drawn, and what is far below 0 -/
def bR (A L : Nat) (I : Nat → Nat → Int32) (X : Int) (y : Nat → Int64) : Prop := bS A y - bD L y ≤ X ∧ bN A y ≤ X ∧ drOk L I y
section EZ
variable {A L F : Nat} {I : Nat → Nat → Int32} {y y' : Nat → Int64} {X : Int}
theorem bD_rng (hL : L ≤ 6) (hd : drOk L I y) : 0 ≤ bD L y ∧ bD L y ≤ 60000000 := by
  have h1 := sm_nn (f := fun l => (y (70 + l)).toInt) L (fun j hj => (hd j hj).1)
  have h2 := sm_le (f := fun l => (y (70 + l)).toInt) (g := fun _ => 10000000) L (fun j hj => by have := hd j hj; show (y (70 + j)).toInt ≤ 10000000; omega)
  rw [sm_const] at h2
  unfold bD
  omega
theorem bR_bd (hL : L ≤ 6) (h : bR A L I X y) : bdX A (X + 60000000) y := by
  have := bD_rng hL h.2.2
  obtain ⟨h1, h2, -⟩ := h
  exact ⟨by omega, by omega⟩
/-- the lines' numbers are kept, the balances together too -/
theorem bR_mv (h : bR A L I X y) (e1 : bS A y' = bS A y) (e2 : bN A y' ≤ bN A y) (e3 : ∀ l, l < L → y' (70 + l) = y (70 + l)) : bR A L I X y' := by
  obtain ⟨h1, h2, h3⟩ := h
  have e4 : bD L y' = bD L y := sm_congr L (fun l hl => by show (y' (70 + l)).toInt = (y (70 + l)).toInt; rw [e3 l hl])
  refine ⟨by omega, by omega, fun l hl => ?_⟩
  rw [e3 l hl]
  exact h3 l hl
theorem dr_bR (hA : A ≤ 10) (hL : L ≤ 6) (hX0 : 0 ≤ X) (hX : X ≤ 900000000000) (h : bR A L I X y) {p l : Nat} (hp : p < A) (hl : l < L) : bR A L I X (drC I p l y) := by
  have hb := bR_bd hL h
  have b1 := bdX_lo hb hp
  by_cases c : (0 : Int64) < -(y p)
  · have c := Int64.lt_iff_toInt_lt.mp c
    rw [i64_neg (by omega), i64_0] at c
    obtain ⟨s1, s2, s3, s4, s5⟩ := drC_st h.2.2 (show p < 10 by omega) hl (by omega) (by omega)
    have e1 := sm_one (f := fun i => (drC I p l y i).toInt) (g := fun i => (y i).toInt) (i := p) A (fun j hj hne => by show (drC I p l y j).toInt = _; rw [drC_o (by omega) hne]) hp
    have e2 := sm_one (f := fun i => ng (drC I p l y i).toInt) (g := fun i => ng (y i).toInt) (i := p) A (fun j hj hne => by show ng (drC I p l y j).toInt = _; rw [drC_o (by omega) hne]) hp
    have e3 := sm_one (f := fun i => (drC I p l y (70 + i)).toInt) (g := fun i => (y (70 + i)).toInt) (i := l) L (fun j hj hne => by show (drC I p l y (70 + j)).toInt = _; rw [drC_o (by omega) (by omega)]) hl
    have n1 : ng (drC I p l y p).toInt ≤ ng (y p).toInt := ng_mono (by omega)
    obtain ⟨h1, h2, h3⟩ := h
    unfold bS bD at h1
    unfold bN at h2
    refine ⟨?_, ?_, drC_ok h3 (by omega) hl (by omega) (by omega)⟩
    · unfold bS bD; omega
    · unfold bN; omega
  · rw [drC_id (drA_0 h.2.2 hl c)]
    exact h
theorem pb_bR (hA : A ≤ 10) (h : bR A L I X y) {p l : Nat} (hp : p < A) (hl : l < L) : bR A L I X (pbC p l y) := by
  by_cases c : (0 : Int64) < y p
  · have c := Int64.lt_iff_toInt_lt.mp c
    rw [i64_0] at c
    obtain ⟨s1, s2, s3, s4, s5⟩ := pbC_st h.2.2 (show p < 10 by omega) hl c
    have e1 := sm_one (f := fun i => (pbC p l y i).toInt) (g := fun i => (y i).toInt) (i := p) A (fun j hj hne => by show (pbC p l y j).toInt = _; rw [pbC_o (by omega) hne]) hp
    have e2 := sm_one (f := fun i => ng (pbC p l y i).toInt) (g := fun i => ng (y i).toInt) (i := p) A (fun j hj hne => by show ng (pbC p l y j).toInt = _; rw [pbC_o (by omega) hne]) hp
    have e3 := sm_one (f := fun i => (pbC p l y (70 + i)).toInt) (g := fun i => (y (70 + i)).toInt) (i := l) L (fun j hj hne => by show (pbC p l y (70 + j)).toInt = _; rw [pbC_o (by omega) (by omega)]) hl
    have n1 : ng (pbC p l y p).toInt = 0 := ng_0 (by omega)
    have n2 := ng_nn (v := (y p).toInt)
    obtain ⟨h1, h2, h3⟩ := h
    unfold bS bD at h1
    unfold bN at h2
    refine ⟨?_, ?_, pbC_ok h3 (by omega) hl c⟩
    · unfold bS bD; omega
    · unfold bN; omega
  · rw [pbC_id (pbA_0 h.2.2 hl c)]
    exact h
theorem foldS_inv {σ : Type} {f : Nat → σ → σ} {R : σ → Prop} : ∀ (l : List Nat) (s : σ), (∀ x ∈ l, ∀ s, R s → R (f x s)) → R s → R (foldS f l s)
  | [], _, _, h => h
  | a :: l, s, hs, h => by
    rw [foldS_cons]
    exact foldS_inv l _ (fun x hx => hs x (List.mem_cons_of_mem _ hx)) (hs a List.mem_cons_self s h)
theorem foldS_congrI {σ : Type} {f g : Nat → σ → σ} {R : σ → Prop} : ∀ (l : List Nat) (s : σ), R s → (∀ x ∈ l, ∀ s, R s → f x s = g x s ∧ R (f x s)) → foldS f l s = foldS g l s ∧ R (foldS f l s)
  | [], _, h, _ => ⟨rfl, h⟩
  | a :: l, s, h, hs => by
    rw [foldS_cons, foldS_cons]
    obtain ⟨e, r⟩ := hs a List.mem_cons_self s h
    rw [← e]
    exact foldS_congrI l _ r (fun x hx => hs x (List.mem_cons_of_mem _ hx))
theorem cv_bR (hA : A ≤ 10) (hL : L ≤ 6) (hX0 : 0 ≤ X) (hX : X ≤ 900000000000) (h : bR A L I X y) {p : Nat} (hp : p < A) : bR A L I X (cvC L I p y) := by
  unfold cvC
  refine foldS_inv _ _ (fun x hx s hs => pb_bR hA hs hp (mem_crk.mp (List.mem_reverse.mp hx)).1) ?_
  exact foldS_inv _ _ (fun x hx s hs => dr_bR hA hL hX0 hX hs hp (mem_crk.mp hx).1) h
/-- covering, all pools -/
theorem cover_eq (hA : A ≤ 10) (hL : L ≤ 6) (hl : lnOk2 A L I) (hX0 : 0 ≤ X) (hX : X ≤ 900000000000) (h : bR A L I X y) :
    foldS (cvC L I) (ctops A I) y = itr (covP I L 6) A y ∧ bR A L I X (itr (covP I L 6) A y) ∧ ∀ k, k < A → I 3 k = -1 → covEnds I L (decide (itr (covP I L 6) k y k < 0)) k 6 (itr (covP I L 6) k y) := by
  have one : ∀ k y, k < A → bR A L I X y → I 3 k = -1 → cvC L I k y = covF I L (decide (y k < 0)) k 6 y ∧ covEnds I L (decide (y k < 0)) k 6 y := by
    intro k y hk hr _
    have b1 := bdX_lo (bR_bd hL hr) hk
    exact cv_eq hA hL hl hk hr.2.2 (by omega)
  have step : ∀ k y, k < A → bR A L I X y → covP I L 6 k y = (if decide (I 3 k = -1) = true then cvC L I k y else y) ∧ bR A L I X (covP I L 6 k y) := by
    intro k y hk hr
    unfold covP
    by_cases c : I 3 k = -1
    · rw [if_pos c, if_pos (decide_eq_true c), ← (one k y hk hr c).1]
      exact ⟨rfl, cv_bR hA hL hX0 hX hr hk⟩
    · rw [if_neg c, if_neg (fun e => c (of_decide_eq_true e))]
      exact ⟨rfl, hr⟩
  have part : ∀ n, n ≤ A → bR A L I X (itr (covP I L 6) n y) := fun n hn => itr_bd n y (fun k y' hk hr => (step k y' (by omega) hr).2) h
  refine ⟨?_, part A (Nat.le_refl _), fun k hk c => (one k _ hk (part k (by omega)) c).2⟩
  unfold ctops
  rw [foldS_filter, itr_foldS]
  exact ((foldS_congrI (R := bR A L I X) _ _ h (fun x hx s hs => step x s (List.mem_range.mp hx) hs)).1).symm
/-! sweeping changes balances alone -/
theorem upS_o (hp : parOk A I) (hA : A ≤ 10) {k m : Nat} (hk : k < A) (hm : 10 ≤ m) : upS I k y m = y m := by
  unfold upS
  split
  · rename_i c
    have := (pI_lt hp hA hk c.1).2
    unfold movF
    rw [pk_uLn (by omega), pk_uLn (by omega)]
  · rfl
theorem dnS_o (hp : parOk A I) (hA : A ≤ 10) {k m : Nat} (hk : k < A) (hm : 10 ≤ m) : dnS I k y m = y m := by
  unfold dnS
  split
  · rename_i c
    have := (pI_lt hp hA hk c.1).2
    unfold movF
    rw [pk_uLn (by omega), pk_uLn (by omega)]
  · rfl
theorem sweepF_o (hp : parOk A I) (hA : A ≤ 10) {m : Nat} (hm : 10 ≤ m) : sweepF I A y m = y m := by
  unfold sweepF
  have h1 : itd (upS I) A y m = y m := itd_bd (R := fun y' => y' m = y m) A y (fun k y' hk hr => (upS_o hp hA hk hm).trans hr) rfl
  exact itr_bd (R := fun (y' : Nat → Int64) => y' m = y m) A _ (fun k y' hk hr => (dnS_o hp hA hk hm).trans hr) h1
theorem sweep_bR (hp : parOk A I) (ht : tgOk A I) (hA : A ≤ 10) (hL : L ≤ 6) (hX0 : 0 ≤ X) (hX : X ≤ 900000000000) (h : bR A L I X y) : bR A L I X (sweepF I A y) ∧ sweepF I A y = itr (dnC I) A (itd (upS I) A y) := by
  obtain ⟨e, -, e1, e2⟩ := sweep_bd hp ht hA (X := X + 60000000) (by omega) (by omega) (bR_bd hL h)
  exact ⟨bR_mv h e1 e2 (fun l _ => sweepF_o hp hA (by omega)), e⟩
/-! exposures as whole numbers -/
def exI (I : Nat → Nat → Int32) (y : Nat → Int64) (b k : Nat) : Int := if I 5 k = nI b ∧ 0 < (y k).toInt then (y k).toInt else 0
theorem exI_nn {b k : Nat} : 0 ≤ exI I y b k := by unfold exI; split <;> omega
theorem exp_int (hA : A ≤ 10) (hX0 : 0 ≤ X) (hX : X ≤ 1000000000000) (h : bdX A X y) {b : Nat} : (expF I A y b).toInt = sm (exI I y b) A ∧ 0 ≤ sm (exI I y b) A ∧ sm (exI I y b) A ≤ 1125899906842624 := by
  have le : ∀ k, k < A → exI I y b k ≤ 2 * X + 10000000 := by
    intro k hk
    have := bdX_hi h hA hk
    unfold exI
    split <;> omega
  have up : ∀ n, n ≤ A → sm (exI I y b) n ≤ n * (2 * X + 10000000) := by
    intro n hn
    have := sm_le (f := exI I y b) (g := fun _ => 2 * X + 10000000) n (fun j hj => le j (by omega))
    rw [sm_const] at this
    exact this
  have lim : ∀ n, n ≤ A → sm (exI I y b) n ≤ 10 * (2 * X + 10000000) := by
    intro n hn
    have h1 := up n hn
    have h2 : (n : Int) * (2 * X + 10000000) ≤ 10 * (2 * X + 10000000) := Int.mul_le_mul_of_nonneg_right (by omega) (by omega)
    omega
  have nn : ∀ n, 0 ≤ sm (exI I y b) n := fun n => sm_nn n (fun j _ => exI_nn)
  have main : ∀ n, n ≤ A → (itr (expS I y b) n 0).toInt = sm (exI I y b) n := by
    intro n
    induction n with
    | zero => intro _; exact i64_0
    | succ n ih =>
      intro hn
      have ih := ih (by omega)
      show (expS I y b n (itr (expS I y b) n 0)).toInt = sm (exI I y b) n + exI I y b n
      have l1 := lim n (by omega)
      have l2 := nn n
      have l3 := le n (by omega)
      have l4 := exI_nn (I := I) (y := y) (b := b) (k := n)
      generalize itr (expS I y b) n 0 = s at ih ⊢
      unfold expS
      by_cases c : I 5 n = nI b ∧ 0 < y n
      · rw [if_pos c]
        have c2 := Int64.lt_iff_toInt_lt.mp c.2
        rw [i64_0] at c2
        have e : exI I y b n = (y n).toInt := if_pos ⟨c.1, c2⟩
        rw [i64_add (by omega) (by omega), ih, e]
      · rw [if_neg c, ih]
        have e : exI I y b n = 0 := if_neg (fun w => c ⟨w.1, by rw [Int64.lt_iff_toInt_lt, i64_0]; exact w.2⟩)
        omega
  have := lim A (Nat.le_refl _)
  exact ⟨main A (Nat.le_refl _), nn A, by omega⟩
theorem bd_exOk (hA : A ≤ 10) (hX0 : 0 ≤ X) (hX : X ≤ 1000000000000) (h : bdX A X y) : exOk I A y := by
  intro b _
  obtain ⟨e, h1, h2⟩ := exp_int (I := I) (b := b) hA hX0 hX h
  rw [e]
  exact ⟨h1, h2⟩
/-- excess and room by whole numbers -/
theorem exc_pos (hx : exOk I A y) {b : Nat} (hb : b < 4) : 0 < (excF I A y b).toInt ↔ (¬ I 14 b = -1 ∧ (I 14 b).toInt < (expF I A y b).toInt) := by
  have h1 := hx b hb
  have h2 := i64_i32 (I 14 b)
  have e : (I 14 b).toInt64.toInt = (I 14 b).toInt := Int32.toInt_toInt64 _
  have s : (expF I A y b - (I 14 b).toInt64).toInt = (expF I A y b).toInt - (I 14 b).toInt := by rw [i64_sub (by omega) (by omega), e]
  unfold excF
  split
  · rename_i c; rw [i64_0]; constructor
    · intro w; omega
    · intro w; exact absurd c w.1
  · rename_i c
    split
    · rename_i d
      rw [s]
      constructor
      · intro w; exact ⟨c, by omega⟩
      · intro w; omega
    · rename_i d
      have d := Int64.lt_iff_toInt_lt.mp (Int64.not_le.mp d)
      rw [s, i64_0] at d
      rw [i64_0]
      constructor
      · intro w; omega
      · intro w; omega
theorem exc_val (hx : exOk I A y) {b : Nat} (hb : b < 4) (h : 0 < (excF I A y b).toInt) : (excF I A y b).toInt = (expF I A y b).toInt - (I 14 b).toInt := by
  have h1 := hx b hb
  have h2 := i64_i32 (I 14 b)
  have e : (I 14 b).toInt64.toInt = (I 14 b).toInt := Int32.toInt_toInt64 _
  have s : (expF I A y b - (I 14 b).toInt64).toInt = (expF I A y b).toInt - (I 14 b).toInt := by rw [i64_sub (by omega) (by omega), e]
  unfold excF at h ⊢
  split
  · rename_i c; rw [if_pos c, i64_0] at h; omega
  · rename_i c
    rw [if_neg c] at h
    split
    · exact s
    · rename_i d; rw [if_neg d, i64_0] at h; omega
theorem rm_pos (hx : exOk I A y) {b : Nat} (hb : b < 4) : 0 < (rmF I A y b).toInt ↔ (I 14 b = -1 ∨ (expF I A y b).toInt < (I 14 b).toInt) := by
  have h1 := hx b hb
  have h2 := i64_i32 (I 14 b)
  have e : (I 14 b).toInt64.toInt = (I 14 b).toInt := Int32.toInt_toInt64 _
  have e2 : (4000000000000000000 : Int64).toInt = 4000000000000000000 := by decide
  have s : ((I 14 b).toInt64 - expF I A y b).toInt = (I 14 b).toInt - (expF I A y b).toInt := by rw [i64_sub (by omega) (by omega), e]
  unfold rmF
  split
  · rename_i c
    rw [e2]
    exact ⟨fun _ => Or.inl c, fun _ => by omega⟩
  · rename_i c
    split
    · rw [s]
      constructor
      · intro w; exact Or.inr (by omega)
      · rintro (w | w)
        · exact absurd w c
        · omega
    · rename_i d
      have d := Int64.lt_iff_toInt_lt.mp (Int64.not_le.mp d)
      rw [s, i64_0] at d
      rw [i64_0]
      constructor
      · intro w; omega
      · rintro (w | w)
        · exact absurd w c
        · omega
theorem rm_val (hx : exOk I A y) {b : Nat} (hb : b < 4) (hn : ¬ I 14 b = -1) (h : 0 < (rmF I A y b).toInt) : (rmF I A y b).toInt = (I 14 b).toInt - (expF I A y b).toInt := by
  have h1 := hx b hb
  have h2 := i64_i32 (I 14 b)
  have e : (I 14 b).toInt64.toInt = (I 14 b).toInt := Int32.toInt_toInt64 _
  have s : ((I 14 b).toInt64 - expF I A y b).toInt = (I 14 b).toInt - (expF I A y b).toInt := by rw [i64_sub (by omega) (by omega), e]
  unfold rmF at h ⊢
  rw [if_neg hn] at h ⊢
  split
  · exact s
  · rename_i d; rw [if_neg d, i64_0] at h; omega
/-- what is known of a move -/
theorem nextE_st (hA : A ≤ 10) (ha : acOk A I) (hX0 : 0 ≤ X) (hX : X ≤ 1000000000000) (h : bdX A X y) (hn : nextE I A y = some y') :
    ∃ i j, i < A ∧ j < A ∧ bI I i ≠ bI I j ∧ y' = movF i j (amtF I A i j y) y ∧ 0 < (y i).toInt ∧ 0 ≤ (y j).toInt ∧ 0 < (excF I A y (bI I i)).toInt ∧ 0 < (rmF I A y (bI I j)).toInt ∧ 0 < (amtF I A i j y).toInt ∧ (amtF I A i j y).toInt ≤ (y i).toInt ∧ (amtF I A i j y).toInt ≤ (excF I A y (bI I i)).toInt ∧ (amtF I A i j y).toInt ≤ (rmF I A y (bI I j)).toInt ∧
      ((amtF I A i j y).toInt = (y i).toInt ∨ (amtF I A i j y).toInt = (excF I A y (bI I i)).toInt ∨ (amtF I A i j y).toInt = (rmF I A y (bI I j)).toInt) := by
  have hx := bd_exOk (I := I) hA hX0 hX h
  unfold nextE at hn
  cases hg : givF I A y with
  | none => rw [hg] at hn; cases hn
  | some i =>
    obtain ⟨i1, i2, i3, i4⟩ := givF_some hg
    rw [hg] at hn
    cases hj : getF I A y (tI I i) with
    | none => exact absurd hj i4
    | some j =>
      obtain ⟨j1, j2, j3, j4⟩ := getF_some hj
      have ey : movF i j (amtF I A i j y) y = y' := by simpa [hj] using hn
      have i2 := Int64.lt_iff_toInt_lt.mp i2
      have i3 := Int64.lt_iff_toInt_lt.mp i3
      have j3 := Int64.le_iff_toInt_le.mp j3
      have j4 := Int64.lt_iff_toInt_lt.mp j4
      rw [i64_0] at i2 i3 j3 j4
      have bi := (ha i i1).2.2.2
      have bj := (ha j j1).2.2.2
      have hb : bI I i ≠ bI I j := by
        intro e
        have p1 := (exc_pos hx bi).mp i3
        rw [← e] at j4
        rcases (rm_pos hx bi).mp j4 with w | w
        · exact p1.1 w
        · omega
      have am : 0 < (amtF I A i j y).toInt ∧ (amtF I A i j y).toInt ≤ (y i).toInt ∧ (amtF I A i j y).toInt ≤ (excF I A y (bI I i)).toInt ∧ (amtF I A i j y).toInt ≤ (rmF I A y (bI I j)).toInt ∧ ((amtF I A i j y).toInt = (y i).toInt ∨ (amtF I A i j y).toInt = (excF I A y (bI I i)).toInt ∨ (amtF I A i j y).toInt = (rmF I A y (bI I j)).toInt) := by
        unfold amtF
        generalize excF I A y (bI I i) = e at i3 ⊢
        generalize rmF I A y (bI I j) = r at j4 ⊢
        generalize y i = w at i2 ⊢
        by_cases c1 : e ≤ w
        · rw [if_pos c1]
          have c1' := Int64.le_iff_toInt_le.mp c1
          by_cases c2 : e ≤ r
          · rw [if_pos c2]
            have c2' := Int64.le_iff_toInt_le.mp c2
            omega
          · rw [if_neg c2]
            have c2' := Int64.lt_iff_toInt_lt.mp (Int64.not_le.mp c2)
            omega
        · rw [if_neg c1]
          have c1' := Int64.lt_iff_toInt_lt.mp (Int64.not_le.mp c1)
          by_cases c2 : w ≤ r
          · rw [if_pos c2]
            have c2' := Int64.le_iff_toInt_le.mp c2
            omega
          · rw [if_neg c2]
            have c2' := Int64.lt_iff_toInt_lt.mp (Int64.not_le.mp c2)
            omega
      exact ⟨i, j, i1, j1, hb, ey.symm, i2, j3, i3, j4, am⟩
theorem ease_step (hA : A ≤ 10) (hL : L ≤ 6) (ha : acOk A I) (hX0 : 0 ≤ X) (hX : X ≤ 900000000000) (h : bR A L I X y) (hn : nextE I A y = some y') : bR A L I X y' := by
  have hb := bR_bd hL h
  obtain ⟨i, j, hi, hj, hne, ey, c1, c2, c3, c4, c5, c6, c7, c8, c9⟩ := nextE_st hA ha (by omega) (by omega) hb hn
  have m := mv_bd hb hA (by omega) (by omega) hi hj (fun e => hne (by rw [e])) (v := amtF I A i j y) (by omega) (Or.inr (by omega))
  rw [ey]
  refine bR_mv h m.2.2.2.1 m.2.2.2.2 (fun l hl => ?_)
  unfold movF
  rw [pk_uLn (by omega), pk_uLn (by omega)]
/-- 1 where a thing holds -/
noncomputable def ind (P : Prop) : Int := @ite _ P (Classical.propDecidable _) 1 0
theorem ind_le {P Q : Prop} (h : P → Q) : ind P ≤ ind Q := by
  unfold ind
  by_cases p : P
  · rw [if_pos p, if_pos (h p)]; exact Int.le_refl _
  · rw [if_neg p]; split <;> omega
theorem ind_1 {P : Prop} (h : P) : ind P = 1 := if_pos h
theorem ind_0 {P : Prop} (h : ¬ P) : ind P = 0 := if_neg h
theorem ind_rng {P : Prop} : 0 ≤ ind P ∧ ind P ≤ 1 := by unfold ind; split <;> omega
theorem sm_lt {f g : Nat → Int} {i : Nat} (n : Nat) (h : ∀ j, j < n → f j ≤ g j) (hi : i < n) (hl : f i < g i) : sm f n < sm g n := by
  have e := sm_one (f := fun j => if j = i then g i else f j) (g := f) (i := i) n (fun j _ hne => if_neg hne) hi
  simp only [if_true] at e
  have l := sm_le (f := fun j => if j = i then g i else f j) (g := g) n (fun j hj => by
    show (if j = i then g i else f j) ≤ g j
    split
    · rename_i w; rw [w]; exact Int.le_refl _
    · exact h j hj)
  omega
/-- how many moves may still come -/
noncomputable def phi (I : Nat → Nat → Int32) (A : Nat) (y : Nat → Int64) : Int :=
  sm (fun b => ind (0 < (excF I A y b).toInt)) 4 + sm (fun k => ind (0 < (y k).toInt ∧ 0 < (excF I A y (bI I k)).toInt)) A + sm (fun b => ind (0 < (rmF I A y b).toInt)) 4
theorem phi_rng (hA : A ≤ 10) : 0 ≤ phi I A y ∧ phi I A y ≤ 18 := by
  unfold phi
  have u : ∀ (P : Nat → Prop) n, 0 ≤ sm (fun b => ind (P b)) n ∧ sm (fun b => ind (P b)) n ≤ n := fun P n => by
    have h1 := sm_nn (f := fun b => ind (P b)) n (fun j _ => ind_rng.1)
    have h2 := sm_le (f := fun b => ind (P b)) (g := fun _ => 1) n (fun j _ => ind_rng.2)
    rw [sm_const] at h2
    omega
  have a := u (fun b => 0 < (excF I A y b).toInt) 4
  have b := u (fun k => 0 < (y k).toInt ∧ 0 < (excF I A y (bI I k)).toInt) A
  have c := u (fun b => 0 < (rmF I A y b).toInt) 4
  omega
theorem phi_lt (hA : A ≤ 10) (ha : acOk A I) (hX0 : 0 ≤ X) (hX : X ≤ 1000000000000) (h : bdX A X y) (hn : nextE I A y = some y') : phi I A y' < phi I A y := by
  have hx := bd_exOk (I := I) hA hX0 hX h
  obtain ⟨i, j, hi, hj, hne, ey, c1, c2, c3, c4, c5, c6, c7, c8, c9⟩ := nextE_st hA ha hX0 hX h hn
  have hij : i ≠ j := fun e => hne (by rw [e])
  have m := mv_bd h hA hX0 hX hi hj hij (v := amtF I A i j y) (by omega) (Or.inr (by omega))
  rw [← ey] at m
  obtain ⟨m1, m2, m3, -, -⟩ := m
  have hx' := bd_exOk (I := I) hA hX0 hX m1
  have mo : ∀ k, k ≠ i → k ≠ j → y' k = y k := fun k h1 h2 => by rw [ey]; unfold movF; rw [pk_uLn h2, pk_uLn h1]
  obtain ⟨-, -, bi, bi4⟩ := ha i hi
  obtain ⟨-, -, bj, bj4⟩ := ha j hj
  have nb : ∀ {k b : Nat}, k < A → b < 4 → (I 5 k = nI b ↔ bI I k = b) := fun hk hb => by
    obtain ⟨-, -, e, l⟩ := ha _ hk
    rw [e]
    exact nI_eq (by omega) (by omega)
  have ex : ∀ b, b < 4 → (expF I A y' b).toInt = (expF I A y b).toInt + (if b = bI I i then -(amtF I A i j y).toInt else 0) + (if b = bI I j then (amtF I A i j y).toInt else 0) := by
    intro b hb
    rw [(exp_int (I := I) (b := b) hA hX0 hX h).1, (exp_int (I := I) (b := b) hA hX0 hX m1).1]
    have s := sm_two (f := exI I y' b) (g := exI I y b) A hij (fun k hk h1 h2 => by unfold exI; rw [mo k h1 h2]) hi hj
    have fi : exI I y' b i - exI I y b i = if b = bI I i then -(amtF I A i j y).toInt else 0 := by
      unfold exI
      by_cases e : b = bI I i
      · have q : I 5 i = nI b := (nb hi hb).mpr e.symm
        have g1 : (if I 5 i = nI b ∧ 0 < (y i).toInt then (y i).toInt else 0) = (y i).toInt := if_pos ⟨q, c1⟩
        rw [if_pos e, g1]
        by_cases w : 0 < (y' i).toInt
        · rw [if_pos ⟨q, w⟩]; omega
        · rw [if_neg (fun v => w v.2)]; omega
      · have q : ¬ I 5 i = nI b := fun v => e ((nb hi hb).mp v).symm
        rw [if_neg e, if_neg (fun v => q v.1), if_neg (fun v => q v.1)]
        omega
    have fj : exI I y' b j - exI I y b j = if b = bI I j then (amtF I A i j y).toInt else 0 := by
      unfold exI
      by_cases e : b = bI I j
      · have q : I 5 j = nI b := (nb hj hb).mpr e.symm
        rw [if_pos e, if_pos ⟨q, by omega⟩]
        by_cases w : 0 < (y j).toInt
        · rw [if_pos ⟨q, w⟩]; omega
        · rw [if_neg (fun v => w v.2)]; omega
      · have q : ¬ I 5 j = nI b := fun v => e ((nb hj hb).mp v).symm
        rw [if_neg e, if_neg (fun v => q v.1), if_neg (fun v => q v.1)]
        omega
    omega
  have exi : (expF I A y' (bI I i)).toInt = (expF I A y (bI I i)).toInt - (amtF I A i j y).toInt := by
    have := ex _ bi4
    rw [if_pos rfl, if_neg hne] at this
    omega
  have exj : (expF I A y' (bI I j)).toInt = (expF I A y (bI I j)).toInt + (amtF I A i j y).toInt := by
    have := ex _ bj4
    rw [if_neg (Ne.symm hne), if_pos rfl] at this
    omega
  have exo : ∀ b, b < 4 → b ≠ bI I i → b ≠ bI I j → (expF I A y' b).toInt = (expF I A y b).toInt := fun b hb h1 h2 => by
    have := ex b hb
    rw [if_neg h1, if_neg h2] at this
    omega
  have pe := (exc_pos hx bi4).mp c3
  have ve := exc_val hx bi4 c3
  -- no new excess
  have E : ∀ b, b < 4 → 0 < (excF I A y' b).toInt → 0 < (excF I A y b).toInt := by
    intro b hb w
    obtain ⟨w1, w2⟩ := (exc_pos hx' hb).mp w
    refine (exc_pos hx hb).mpr ⟨w1, ?_⟩
    by_cases e1 : b = bI I i
    · rw [e1] at w2 ⊢; omega
    · by_cases e2 : b = bI I j
      · rw [e2] at w1 w2
        have := rm_val hx bj4 w1 c4
        omega
      · rw [exo b hb e1 e2] at w2; exact w2
  have Ej : ¬ 0 < (excF I A y' (bI I j)).toInt := by
    intro w
    obtain ⟨w1, w2⟩ := (exc_pos hx' bj4).mp w
    have := rm_val hx bj4 w1 c4
    omega
  -- no new room
  have R : ∀ b, b < 4 → 0 < (rmF I A y' b).toInt → 0 < (rmF I A y b).toInt := by
    intro b hb w
    by_cases e2 : b = bI I j
    · rw [e2]; exact c4
    · rcases (rm_pos hx' hb).mp w with w | w
      · exact (rm_pos hx hb).mpr (Or.inl w)
      · by_cases e1 : b = bI I i
        · rw [e1] at w; omega
        · rw [exo b hb e1 e2] at w
          exact (rm_pos hx hb).mpr (Or.inr w)
  have P : ∀ k, k < A → (0 < (y' k).toInt ∧ 0 < (excF I A y' (bI I k)).toInt) → (0 < (y k).toInt ∧ 0 < (excF I A y (bI I k)).toInt) := by
    intro k hk w
    have bk := (ha k hk).2.2.2
    refine ⟨?_, E _ bk w.2⟩
    by_cases e2 : k = j
    · rw [e2] at w; exact absurd w.2 Ej
    · by_cases e1 : k = i
      · rw [e1]; exact c1
      · rw [mo k e1 e2] at w; exact w.1
  have l1 := sm_le (f := fun b => ind (0 < (excF I A y' b).toInt)) (g := fun b => ind (0 < (excF I A y b).toInt)) 4 (fun b hb => ind_le (E b hb))
  have l2 := sm_le (f := fun k => ind (0 < (y' k).toInt ∧ 0 < (excF I A y' (bI I k)).toInt)) (g := fun k => ind (0 < (y k).toInt ∧ 0 < (excF I A y (bI I k)).toInt)) A (fun k hk => ind_le (P k hk))
  have l3 := sm_le (f := fun b => ind (0 < (rmF I A y' b).toInt)) (g := fun b => ind (0 < (rmF I A y b).toInt)) 4 (fun b hb => ind_le (R b hb))
  unfold phi
  rcases c9 with c9 | c9 | c9
  · have s := sm_lt (f := fun k => ind (0 < (y' k).toInt ∧ 0 < (excF I A y' (bI I k)).toInt)) (g := fun k => ind (0 < (y k).toInt ∧ 0 < (excF I A y (bI I k)).toInt)) (i := i) A (fun k hk => ind_le (P k hk)) hi (by
      show ind (0 < (y' i).toInt ∧ 0 < (excF I A y' (bI I i)).toInt) < ind (0 < (y i).toInt ∧ 0 < (excF I A y (bI I i)).toInt)
      rw [ind_0 (fun w => by omega), ind_1 ⟨c1, c3⟩]
      omega)
    omega
  · have s := sm_lt (f := fun b => ind (0 < (excF I A y' b).toInt)) (g := fun b => ind (0 < (excF I A y b).toInt)) (i := bI I i) 4 (fun b hb => ind_le (E b hb)) bi4 (by
      show ind (0 < (excF I A y' (bI I i)).toInt) < ind (0 < (excF I A y (bI I i)).toInt)
      rw [ind_0 (fun w => by have := ((exc_pos hx' bi4).mp w).2; omega), ind_1 c3]
      omega)
    omega
  · have nfin : ¬ I 14 (bI I j) = -1 := by
      intro w
      have e2 : (4000000000000000000 : Int64).toInt = 4000000000000000000 := by decide
      have := (rm_end (A := A) (y := y) w).2
      rw [this, e2] at c9
      have := bdX_hi h hA hi
      omega
    have vr := rm_val hx bj4 nfin c4
    have s := sm_lt (f := fun b => ind (0 < (rmF I A y' b).toInt)) (g := fun b => ind (0 < (rmF I A y b).toInt)) (i := bI I j) 4 (fun b hb => ind_le (R b hb)) bj4 (by
      show ind (0 < (rmF I A y' (bI I j)).toInt) < ind (0 < (rmF I A y (bI I j)).toInt)
      rw [ind_0 (fun w => by
        rcases (rm_pos hx' bj4).mp w with w | w
        · exact nfin w
        · omega), ind_1 c4]
      omega)
    omega
theorem ease_ends (hA : A ≤ 10) (hL : L ≤ 6) (ha : acOk A I) (hX0 : 0 ≤ X) (hX : X ≤ 900000000000) : ∀ (f : Nat) (y : Nat → Int64), bR A L I X y → phi I A y ≤ f → easeEnds I A f y ∧ bR A L I X (easeF I A f y) := by
  intro f
  induction f with
  | zero =>
    intro y h hf
    refine ⟨?_, h⟩
    show nextE I A y = none
    cases hn : nextE I A y with
    | none => rfl
    | some y' =>
      have := phi_lt hA ha (by omega) (by omega) (bR_bd hL h) hn
      have := (phi_rng (I := I) (y := y') hA).1
      omega
  | succ f ih =>
    intro y h hf
    refine ⟨fun y' hn => ?_, ?_⟩
    · have := phi_lt hA ha (by omega) (by omega) (bR_bd hL h) hn
      exact (ih y' (ease_step hA hL ha hX0 hX h hn) (by omega)).1
    · unfold easeF
      cases hn : nextE I A y with
      | none => exact h
      | some y' =>
        have := phi_lt hA ha (by omega) (by omega) (bR_bd hL h) hn
        exact (ih y' (ease_step hA hL ha hX0 hX h hn) (by omega)).2
end EZ
