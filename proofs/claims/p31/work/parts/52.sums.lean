/-! ===== sums of balances, and how large they may be ===== -/
def sm (f : Nat → Int) : Nat → Int
  | 0 => 0
  | n + 1 => sm f n + f n
theorem sm_congr {f g : Nat → Int} : ∀ n, (∀ j, j < n → f j = g j) → sm f n = sm g n
  | 0, _ => rfl
  | n + 1, h => by
    show sm f n + f n = sm g n + g n
    rw [sm_congr n (fun j hj => h j (by omega)), h n (by omega)]
theorem sm_le {f g : Nat → Int} : ∀ n, (∀ j, j < n → f j ≤ g j) → sm f n ≤ sm g n
  | 0, _ => Int.le_refl _
  | n + 1, h => by
    have h1 := sm_le n (fun j hj => h j (by omega))
    have h2 := h n (by omega)
    show sm f n + f n ≤ sm g n + g n
    omega
theorem sm_add {f g : Nat → Int} : ∀ n, sm (fun j => f j + g j) n = sm f n + sm g n
  | 0 => rfl
  | n + 1 => by
    show sm (fun j => f j + g j) n + (f n + g n) = (sm f n + f n) + (sm g n + g n)
    rw [sm_add n]
    omega
theorem sm_const {c : Int} : ∀ n : Nat, sm (fun _ => c) n = n * c
  | 0 => by simp [sm]
  | n + 1 => by
    show sm (fun _ => c) n + c = _
    rw [sm_const n, Int.natCast_add, Int.add_mul]
    omega
theorem sm_nn {f : Nat → Int} (n : Nat) (h : ∀ j, j < n → 0 ≤ f j) : 0 ≤ sm f n := by
  have := sm_le (f := fun _ => 0) (g := f) n h
  rw [sm_const] at this
  omega
theorem sm_at {f : Nat → Int} {i : Nat} : ∀ n, (∀ j, j < n → 0 ≤ f j) → i < n → f i ≤ sm f n
  | 0, _, hi => by omega
  | n + 1, h, hi => by
    show f i ≤ sm f n + f n
    have hn := h n (by omega)
    by_cases e : i = n
    · have := sm_nn n (fun j hj => h j (show j < n + 1 by omega))
      subst e
      omega
    · have := sm_at (f := f) (i := i) n (fun j hj => h j (by omega)) (by omega)
      omega
/-- two sums that differ at one place -/
theorem sm_one {f g : Nat → Int} {i : Nat} : ∀ n, (∀ j, j < n → j ≠ i → f j = g j) → i < n → sm f n = sm g n + (f i - g i)
  | 0, _, hi => by omega
  | n + 1, h, hi => by
    show sm f n + f n = sm g n + g n + (f i - g i)
    by_cases e : i = n
    · rw [sm_congr n (fun j hj => h j (by omega) (by omega)), e]
      omega
    · rw [sm_one n (fun j hj hne => h j (by omega) hne) (by omega), h n (by omega) (by omega)]
      omega
theorem sm_two {f g : Nat → Int} {i j : Nat} (n : Nat) (hij : i ≠ j) (h : ∀ m, m < n → m ≠ i → m ≠ j → f m = g m) (hi : i < n) (hj : j < n) : sm f n = sm g n + (f i - g i) + (f j - g j) := by
  have h1 := sm_one (f := f) (g := fun m => if m = i then f i else g m) (i := j) n (fun m hm hne => by
    show f m = if m = i then f i else g m
    split
    · rename_i e; rw [e]
    · rename_i e; exact h m hm e hne) hj
  have h2 := sm_one (f := fun m => if m = i then f i else g m) (g := g) (i := i) n (fun m hm hne => if_neg hne) hi
  have e1 : (fun m => if m = i then f i else g m) j = g j := if_neg (Ne.symm hij)
  have e2 : (fun m => if m = i then f i else g m) i = f i := if_pos rfl
  simp only [if_neg (Ne.symm hij)] at h1
  simp only [if_true] at h2
  omega
/-- by how much a balance is below -1000000 -/
def ng (v : Int) : Int := if v < -1000000 then -1000000 - v else 0
theorem ng_nn {v : Int} : 0 ≤ ng v := by unfold ng; split <;> omega
theorem ng_ge {v : Int} : -1000000 - v ≤ ng v := by unfold ng; split <;> omega
theorem ng_mono {v w : Int} (h : v ≤ w) : ng w ≤ ng v := by unfold ng; split <;> split <;> omega
theorem ng_0 {v : Int} (h : -1000000 ≤ v) : ng v = 0 := by unfold ng; split <;> omega
theorem ng_sub {v w : Int} (h : 0 ≤ w) : ng (v - w) ≤ ng v + w := by unfold ng; split <;> split <;> omega
def bS (A : Nat) (y : Nat → Int64) : Int := sm (fun i => (y i).toInt) A
def bN (A : Nat) (y : Nat → Int64) : Int := sm (fun i => ng (y i).toInt) A
/-- all balances together are at most X, those below -1000000 no more than X below it together -/
def bdX (A : Nat) (X : Int) (y : Nat → Int64) : Prop := bS A y ≤ X ∧ bN A y ≤ X
theorem bdX_lo {A : Nat} {X : Int} {y : Nat → Int64} (h : bdX A X y) {i : Nat} (hi : i < A) : -(X + 1000000) ≤ (y i).toInt := by
  have h1 := sm_at (f := fun i => ng (y i).toInt) (i := i) A (fun _ _ => ng_nn) hi
  have h2 := h.2
  unfold bN at h2
  have h3 := ng_ge (v := (y i).toInt)
  omega
theorem bdX_hi {A : Nat} {X : Int} {y : Nat → Int64} (h : bdX A X y) (hA : A ≤ 10) {i : Nat} (hi : i < A) : (y i).toInt ≤ 2 * X + 10000000 := by
  have h1 := sm_at (f := fun i => (y i).toInt + ng (y i).toInt + 1000000) (i := i) A (fun j _ => by have := ng_ge (v := (y j).toInt); omega) hi
  have e1 : sm (fun i => (y i).toInt + ng (y i).toInt + 1000000) A = bS A y + bN A y + A * 1000000 := by
    rw [sm_add (f := fun i => (y i).toInt + ng (y i).toInt) (g := fun _ => 1000000), sm_add (f := fun i => (y i).toInt) (g := fun i => ng (y i).toInt), sm_const]
    rfl
  obtain ⟨h2, h3⟩ := h
  have h4 := ng_nn (v := (y i).toInt)
  omega
/-- a move from one account to another -/
theorem mv_bd {A : Nat} {X : Int} {y : Nat → Int64} (h : bdX A X y) (hA : A ≤ 10) (hX0 : 0 ≤ X) (hX : X ≤ 1000000000000) {i j : Nat} (hi : i < A) (hj : j < A) (hij : i ≠ j) {v : Int64} (hv : 0 ≤ v.toInt) (hlow : v.toInt = 0 ∨ -1000000 ≤ (y i).toInt - v.toInt) :
    bdX A X (movF i j v y) ∧ (movF i j v y i).toInt = (y i).toInt - v.toInt ∧ (movF i j v y j).toInt = (y j).toInt + v.toInt ∧ bS A (movF i j v y) = bS A y ∧ bN A (movF i j v y) ≤ bN A y := by
  have a1 := bdX_lo h hi
  have a2 := bdX_hi h hA hi
  have b1 := bdX_lo h hj
  have b2 := bdX_hi h hA hj
  have ei : movF i j v y i = y i - v := by unfold movF; rw [pk_uLn hij, pk_uLs]
  have ej : movF i j v y j = y j + v := by unfold movF; rw [pk_uLs, pk_uLn (Ne.symm hij)]
  have eo : ∀ m, m ≠ i → m ≠ j → movF i j v y m = y m := fun m h1 h2 => by unfold movF; rw [pk_uLn h2, pk_uLn h1]
  have ti : (movF i j v y i).toInt = (y i).toInt - v.toInt := by rw [ei]; exact i64_sub (by omega) (by omega)
  have tj : (movF i j v y j).toInt = (y j).toInt + v.toInt := by rw [ej]; exact i64_add (by omega) (by omega)
  have s1 := sm_two (f := fun m => (movF i j v y m).toInt) (g := fun m => (y m).toInt) A hij (fun m _ h1 h2 => by show (movF i j v y m).toInt = _; rw [eo m h1 h2]) hi hj
  have s2 := sm_two (f := fun m => ng (movF i j v y m).toInt) (g := fun m => ng (y m).toInt) A hij (fun m _ h1 h2 => by show ng (movF i j v y m).toInt = _; rw [eo m h1 h2]) hi hj
  simp only [ti, tj] at s1 s2
  have n1 : ng ((y i).toInt - v.toInt) ≤ ng (y i).toInt := by
    rcases hlow with e | e
    · rw [e]; simp
    · rw [ng_0 e]; exact ng_nn
  have n2 : ng ((y j).toInt + v.toInt) ≤ ng (y j).toInt := ng_mono (by omega)
  have e1 : bS A (movF i j v y) = bS A y := by unfold bS; omega
  have e2 : bN A (movF i j v y) ≤ bN A y := by unfold bN; omega
  obtain ⟨h1, h2⟩ := h
  exact ⟨⟨by omega, by omega⟩, ti, tj, e1, e2⟩
/-- targets and floors -/
def tgOk (A : Nat) (I : Nat → Nat → Int32) : Prop := ∀ i, i < A → -1000000 ≤ (I 7 i).toInt ∧ (I 7 i).toInt ≤ 1000000 ∧ -1000000 ≤ (I 8 i).toInt ∧ (I 8 i).toInt ≤ 1000000
theorem surp_int {A : Nat} {I : Nat → Nat → Int32} (ht : tgOk A I) {i : Nat} (hi : i < A) {v : Int64} (h1 : -4611686018427387904 ≤ v.toInt) (h2 : v.toInt ≤ 4611686018427387904) : surpF I i v = 0 ∨ ((surpF I i v).toInt = v.toInt - (I 7 i).toInt ∧ surpF I i v = v - (I 7 i).toInt64) := by
  obtain ⟨t1, t2, -, -⟩ := ht i hi
  unfold surpF
  split
  · exact Or.inl rfl
  · refine Or.inr ⟨?_, rfl⟩
    have e : (I 7 i).toInt64.toInt = (I 7 i).toInt := Int32.toInt_toInt64 _
    rw [i64_sub (by omega) (by omega), e]
section SB
variable {A L F : Nat} {I : Nat → Nat → Int32} {X : Int} {y : Nat → Int64}
theorem upS_bd (hp : parOk A I) (ht : tgOk A I) (hA : A ≤ 10) (hX0 : 0 ≤ X) (hX : X ≤ 1000000000000) (h : bdX A X y) {k : Nat} (hk : k < A) : bdX A X (upS I k y) ∧ bS A (upS I k y) = bS A y ∧ bN A (upS I k y) ≤ bN A y := by
  unfold upS
  split
  · rename_i c
    obtain ⟨ep, lp⟩ := pI_lt hp hA hk c.1
    have a1 := bdX_lo h hk
    have a2 := bdX_hi h hA hk
    obtain ⟨t1, t2, -, -⟩ := ht k hk
    have s0 := Int64.lt_iff_toInt_lt.mp c.2
    rw [i64_0] at s0
    have s1 : (surpF I k (y k)).toInt = (y k).toInt - (I 7 k).toInt := by
      rcases surp_int ht hk (v := y k) (by omega) (by omega) with e | e
      · rw [e, i64_0] at s0; omega
      · exact e.1
    have m := mv_bd h hA hX0 hX hk (show pI I k < A by omega) (by omega) (v := surpF I k (y k)) (by omega) (Or.inr (by omega))
    exact ⟨m.1, m.2.2.2.1, m.2.2.2.2⟩
  · exact ⟨h, rfl, Int.le_refl _⟩
theorem dnS_bd (hp : parOk A I) (ht : tgOk A I) (hA : A ≤ 10) (hX0 : 0 ≤ X) (hX : X ≤ 1000000000000) (h : bdX A X y) {k : Nat} (hk : k < A) : bdX A X (dnS I k y) ∧ bS A (dnS I k y) = bS A y ∧ bN A (dnS I k y) ≤ bN A y := by
  unfold dnS
  split
  · rename_i c
    obtain ⟨ep, lp⟩ := pI_lt hp hA hk c.1
    have lpA : pI I k < A := by omega
    have a1 := bdX_lo h hk
    have a2 := bdX_hi h hA hk
    have b1 := bdX_lo h lpA
    have b2 := bdX_hi h hA lpA
    obtain ⟨t1, t2, -, -⟩ := ht k hk
    obtain ⟨-, -, t3, t4⟩ := ht _ lpA
    have s0 := Int64.lt_iff_toInt_lt.mp c.2
    rw [i64_0] at s0
    have s1 : (surpF I k (y k)).toInt = (y k).toInt - (I 7 k).toInt := by
      rcases surp_int ht hk (v := y k) (by omega) (by omega) with e | e
      · rw [e, i64_0] at s0; omega
      · exact e.1
    have sn : (-(surpF I k (y k))).toInt = -((y k).toInt - (I 7 k).toInt) := by rw [i64_neg (by omega), s1]
    have e8 : (I 8 (pI I k)).toInt64.toInt = (I 8 (pI I k)).toInt := Int32.toInt_toInt64 _
    have r1 : (y (pI I k) - (I 8 (pI I k)).toInt64).toInt = (y (pI I k)).toInt - (I 8 (pI I k)).toInt := by rw [i64_sub (by omega) (by omega), e8]
    have g : (gotF I k y).toInt = 0 ∨ (0 ≤ (gotF I k y).toInt ∧ (gotF I k y).toInt ≤ (y (pI I k)).toInt - (I 8 (pI I k)).toInt) := by
      unfold gotF
      split
      · rename_i d
        have d := Int64.lt_iff_toInt_lt.mp d
        rw [i64_0, r1] at d
        split
        · rename_i e
          have e := Int64.le_iff_toInt_le.mp e
          rw [sn, r1] at e
          right
          rw [sn]
          omega
        · right
          rw [r1]
          omega
      · exact Or.inl i64_0
    have m := mv_bd h hA hX0 hX lpA hk (by omega) (v := gotF I k y) (by omega) (by omega)
    exact ⟨m.1, m.2.2.2.1, m.2.2.2.2⟩
  · exact ⟨h, rfl, Int.le_refl _⟩
theorem itd_bd {f : Nat → (Nat → Int64) → Nat → Int64} {R : (Nat → Int64) → Prop} : ∀ (n : Nat) (y : Nat → Int64), (∀ k y', k < n → R y' → R (f k y')) → R y → R (itd f n y)
  | 0, _, _, h => h
  | n + 1, y, hs, h => itd_bd n (f n y) (fun k y' hk => hs k y' (by omega)) (hs n y (by omega) h)
theorem itr_bd {σ : Type} {f : Nat → σ → σ} {R : σ → Prop} : ∀ (n : Nat) (y : σ), (∀ k y', k < n → R y' → R (f k y')) → R y → R (itr f n y)
  | 0, _, _, h => h
  | n + 1, y, hs, h => hs n _ (by omega) (itr_bd n y (fun k y' hk => hs k y' (by omega)) h)
/-- the two forms of a step of the second pass are one -/
theorem dn_eq (hp : parOk A I) (ht : tgOk A I) (hA : A ≤ 10) (hX0 : 0 ≤ X) (hX : X ≤ 1000000000000) (h : bdX A X y) {k : Nat} (hk : k < A) : dnS I k y = dnC I k y := by
  have a1 := bdX_lo h hk
  have a2 := bdX_hi h hA hk
  unfold dnC
  by_cases c : I 3 k = -1
  · rw [if_pos c]
    unfold dnS
    rw [if_neg (fun e => e.1 c)]
  · obtain ⟨ep, lp⟩ := pI_lt hp hA hk c
    have lpA : pI I k < A := by omega
    have hne : pI I k ≠ k := by omega
    rw [if_neg c]
    obtain ⟨t1, t2, -, -⟩ := ht k hk
    have bnd : -4611686018427387904 ≤ (surpF I k (y k)).toInt := by
      rcases surp_int ht hk (v := y k) (by omega) (by omega) with e | e
      · rw [e, i64_0]; omega
      · omega
    by_cases s : surpF I k (y k) < 0
    · have s0 := Int64.lt_iff_toInt_lt.mp s
      rw [i64_0] at s0
      have hpos : (0 : Int64) < -(surpF I k (y k)) := by
        rw [Int64.lt_iff_toInt_lt, i64_neg (by omega), i64_0]
        omega
      have eg : ptF I k (y k) (y (pI I k)) = gotF I k y := by
        unfold ptF gotF
        rw [if_pos hpos]
        by_cases r : (0 : Int64) < y (pI I k) - (I 8 (pI I k)).toInt64
        · rw [if_pos r, if_pos r]
          by_cases w : -(surpF I k (y k)) ≤ y (pI I k) - (I 8 (pI I k)).toInt64
          · rw [if_pos w, if_neg (Int64.not_lt.mpr w)]
          · rw [if_neg w, if_pos (Int64.not_le.mp w)]
        · rw [if_neg r, if_neg r, if_pos hpos]
      rw [eg]
      unfold dnS
      rw [if_pos ⟨c, s⟩]
      unfold movF
      rw [pk_uLn (Ne.symm hne), updL_comm hne]
    · have e0 : ¬ (0 : Int64) < -(surpF I k (y k)) := by
        rw [Int64.lt_iff_toInt_lt, i64_neg (by omega), i64_0]
        have := Int64.le_iff_toInt_le.mp (Int64.not_lt.mp s)
        rw [i64_0] at this
        omega
      have eg : ptF I k (y k) (y (pI I k)) = 0 := by
        unfold ptF
        rw [if_neg e0]
        by_cases r : (0 : Int64) < y (pI I k) - (I 8 (pI I k)).toInt64
        · rw [if_pos r, if_neg (Int64.not_lt.mpr (Int64.le_of_lt r))]
        · rw [if_neg r, if_neg (by decide)]
      rw [eg, Int64.add_zero, Int64.sub_zero, updL_same, updL_same]
      unfold dnS
      rw [if_neg (fun e => s e.2)]
theorem itr_congr {σ : Type} {f g : Nat → σ → σ} {R : σ → Prop} : ∀ (n : Nat) (y : σ), R y → (∀ k y', k < n → R y' → R (f k y') ∧ f k y' = g k y') → itr f n y = itr g n y ∧ R (itr f n y)
  | 0, _, h, _ => ⟨rfl, h⟩
  | n + 1, y, h, hs => by
    obtain ⟨e, r⟩ := itr_congr n y h (fun k y' hk => hs k y' (by omega))
    obtain ⟨r2, e2⟩ := hs n _ (by omega) r
    refine ⟨?_, r2⟩
    show f n (itr f n y) = g n (itr g n y)
    rw [e2, e]
theorem sweep_bd (hp : parOk A I) (ht : tgOk A I) (hA : A ≤ 10) (hX0 : 0 ≤ X) (hX : X ≤ 1000000000000) (h : bdX A X y) : sweepF I A y = itr (dnC I) A (itd (upS I) A y) ∧ bdX A X (sweepF I A y) ∧ bS A (sweepF I A y) = bS A y ∧ bN A (sweepF I A y) ≤ bN A y := by
  have h1 := itd_bd (f := upS I) (R := fun y' => bdX A X y' ∧ bS A y' = bS A y ∧ bN A y' ≤ bN A y) A y (fun k y' hk hr => by
    have := upS_bd hp ht hA hX0 hX hr.1 hk
    exact ⟨this.1, this.2.1.trans hr.2.1, Int.le_trans this.2.2 hr.2.2⟩) ⟨h, rfl, Int.le_refl _⟩
  have h2 := itr_congr (f := dnS I) (g := dnC I) (R := fun y' => bdX A X y' ∧ bS A y' = bS A y ∧ bN A y' ≤ bN A y) A _ h1 (fun k y' hk hr => by
    have := dnS_bd hp ht hA hX0 hX hr.1 hk
    exact ⟨⟨this.1, this.2.1.trans hr.2.1, Int.le_trans this.2.2 hr.2.2⟩, dn_eq hp ht hA hX0 hX hr.1 hk⟩)
  exact ⟨h2.1, h2.2⟩
end SB
