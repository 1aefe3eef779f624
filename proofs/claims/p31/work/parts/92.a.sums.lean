/-! ===== sums of longs (they wrap) ===== -/
def s64 (f : Nat → Int64) : Nat → Int64
  | 0 => 0
  | n + 1 => s64 f n + f n
theorem s64_congr {f g : Nat → Int64} : ∀ n, (∀ j, j < n → f j = g j) → s64 f n = s64 g n
  | 0, _ => rfl
  | n + 1, h => by
    show s64 f n + f n = s64 g n + g n
    rw [s64_congr n (fun j hj => h j (by omega)), h n (by omega)]
theorem s64_0 {f : Nat → Int64} : ∀ n, (∀ j, j < n → f j = 0) → s64 f n = 0
  | 0, _ => rfl
  | n + 1, h => by
    show s64 f n + f n = 0
    rw [s64_0 n (fun j hj => h j (by omega)), h n (by omega)]
    rfl
theorem add4 (a b c d : Int64) : a + b + (c + d) = (a + c) + (b + d) := by grind
theorem s64_add {f g : Nat → Int64} : ∀ n, s64 (fun j => f j + g j) n = s64 f n + s64 g n
  | 0 => rfl
  | n + 1 => by
    show s64 (fun j => f j + g j) n + (f n + g n) = (s64 f n + f n) + (s64 g n + g n)
    rw [s64_add n]
    exact add4 _ _ _ _
theorem s64_sub {f g : Nat → Int64} : ∀ n, s64 (fun j => f j - g j) n = s64 f n - s64 g n
  | 0 => (Int64.sub_zero 0).symm
  | n + 1 => by
    show s64 (fun j => f j - g j) n + (f n - g n) = (s64 f n + f n) - (s64 g n + g n)
    rw [s64_sub n]
    grind
/-- two sums that differ at one place -/
theorem s64_one {f g : Nat → Int64} {i : Nat} : ∀ n, (∀ j, j < n → j ≠ i → f j = g j) → i < n → s64 f n = s64 g n + (f i - g i)
  | 0, _, hi => by omega
  | n + 1, h, hi => by
    show s64 f n + f n = s64 g n + g n + (f i - g i)
    by_cases e : i = n
    · rw [s64_congr n (fun j hj => h j (by omega) (by omega)), e]
      grind
    · rw [s64_one n (fun j hj hne => h j (by omega) hne) (by omega), h n (by omega) (by omega)]
      grind
/-- a sum in which only one place counts -/
theorem s64_at {f : Nat → Int64} {i n : Nat} (h : ∀ j, j < n → j ≠ i → f j = 0) (hi : i < n) : s64 f n = f i := by
  rw [s64_one (g := fun _ => 0) n h hi, s64_0 n (fun _ _ => rfl)]
  grind
theorem s64_swap {f : Nat → Nat → Int64} {m : Nat} : ∀ n, s64 (fun k => s64 (fun j => f k j) m) n = s64 (fun j => s64 (fun k => f k j) n) m
  | 0 => (s64_0 m (fun _ _ => rfl)).symm
  | n + 1 => by
    show s64 (fun k => s64 (fun j => f k j) m) n + s64 (fun j => f n j) m = _
    rw [s64_swap n, ← s64_add m]
    rfl
theorem s64_itr {f : Nat → Int64} {s : Int64} : ∀ n, itr (fun k s => s + f k) n s = s + s64 f n
  | 0 => (Int64.add_zero s).symm
  | n + 1 => by
    show itr (fun k s => s + f k) n s + f n = s + (s64 f n + f n)
    rw [s64_itr n, Int64.add_assoc]
/-- what the accounts of a pool have together of a row -/
def ps (A : Nat) (I : Nat → Nat → Int32) (p : Nat) (y : Nat → Int64) : Int64 := s64 (fun i => if tI I i = p then y i else 0) A
section PS
variable {A L F p : Nat} {I : Nat → Nat → Int32} {y y' : Nat → Int64}
theorem ps_congr (h : ∀ i, i < A → y' i = y i) : ps A I p y' = ps A I p y := s64_congr A (fun i hi => by rw [h i hi])
theorem ps_upd {i : Nat} {v : Int64} (hi : i < A) : ps A I p (vp_updL y i v) = ps A I p y + (if tI I i = p then v - y i else 0) := by
  unfold ps
  rw [s64_one (i := i) (f := fun j => if tI I j = p then vp_updL y i v j else 0) (g := fun j => if tI I j = p then y j else 0) A (fun j _ hne => by rw [pk_uLn hne]) hi]
  congr 1
  by_cases h : tI I i = p
  · rw [if_pos h, if_pos h, if_pos h, pk_uLs]
  · rw [if_neg h, if_neg h, if_neg h]
    rfl
theorem ps_far {i : Nat} {v : Int64} (hi : A ≤ i) : ps A I p (vp_updL y i v) = ps A I p y := ps_congr (fun j hj => pk_uLn (by omega))
/-- a move within a pool -/
theorem ps_mov {i j : Nat} {v : Int64} (hi : i < A) (hj : j < A) (h : tI I i = tI I j) : ps A I p (movF i j v y) = ps A I p y := by
  unfold movF
  rw [ps_upd hj, ps_upd hi, h]
  by_cases e : tI I j = p
  · rw [if_pos e, if_pos e]
    grind
  · rw [if_neg e, if_neg e]
    grind
end PS
