/-! ===== the reference splits ===== -/
theorem L_pred {x : Int64} (h : ¬ x ≤ 0) : (x - 1).toNatClampNeg + 1 = x.toNatClampNeg := by
  have h1 : 0 < x.toInt := by have := Int64.not_le.mp h; rw [Int64.lt_iff_toInt_lt] at this; exact this
  have h2 := Int64.toInt_lt x
  have e : (x - 1).toInt = x.toInt - 1 := by
    rw [Int64.toInt_sub]
    show Int.bmod (x.toInt - 1) (2 ^ 64) = _
    rw [Int.bmod_eq_of_le] <;> omega
  show ((x - 1).toInt).toNat + 1 = x.toInt.toNat
  rw [e]; omega
theorem L_clamp0 {x : Int64} (h : x ≤ 0) : x.toNatClampNeg = 0 := by
  have h1 : x.toInt ≤ 0 := by rw [Int64.le_iff_toInt_le] at h; exact h
  show x.toInt.toNat = 0
  omega
theorem updL2 {f : Nat → Int64} {k : Nat} {a b : Int64} : vp_updL (vp_updL f k a) k b = vp_updL f k b := by
  funext j
  unfold vp_updL
  by_cases h : j = k
  · simp [h]
  · simp [h]
def wS (I : Nat → Nat → Int32) (y : Nat → Int64) (p wo k : Nat) (s : Int64) : Int64 := s + (if I 4 k = nI p then y (wo + k) else 0)
def wF (I : Nat → Nat → Int32) (A : Nat) (y : Nat → Int64) (p wo : Nat) : Int64 := itr (wS I y p wo) A 0
def shS (I : Nat → Nat → Int32) (p : Nat) (amt : Int64) (wo : Nat) (sg : Int32) (all : Int64) (k : Nat) (s : (Nat → Int64) × (Nat → Int64) × Int64) : (Nat → Int64) × (Nat → Int64) × Int64 :=
  if I 4 k = nI p then (getsF k (sg.toInt64 * (amt * s.1 (wo + k) / all)) s.1, vp_updL s.2.1 k (amt * s.1 (wo + k) - amt * s.1 (wo + k) / all * all), s.2.2 - amt * s.1 (wo + k) / all) else (s.1, vp_updL s.2.1 k (-1), s.2.2)
def mostF (l : Nat → Int64) (A : Nat) : Nat := itr (fun k o => if l o < l (k + 1) then k + 1 else o) (A - 1) 0
def cenF (A : Nat) (sg : Int32) : Nat → (Nat → Int64) × (Nat → Int64) → (Nat → Int64) × (Nat → Int64)
  | 0, s => s
  | c + 1, s => cenF A sg c (getsF (mostF s.2 A) sg.toInt64 s.1, vp_updL s.2 (mostF s.2 A) (-1))
def splF (I : Nat → Nat → Int32) (A p : Nat) (amt : Int64) (wo : Nat) (sg : Int32) (s : (Nat → Int64) × (Nat → Int64)) : (Nat → Int64) × (Nat → Int64) :=
  if wF I A s.1 p wo = 0 then s else cenF A sg (itr (shS I p amt wo sg (wF I A s.1 p wo)) A (s.1, s.2, amt)).2.2.toNatClampNeg ((itr (shS I p amt wo sg (wF I A s.1 p wo)) A (s.1, s.2, amt)).1, (itr (shS I p amt wo sg (wF I A s.1 p wo)) A (s.1, s.2, amt)).2.1)
theorem mostF_lt {l : Nat → Int64} {A : Nat} (hA : 0 < A) : mostF l A < A := by
  have : ∀ m, itr (fun k o => if l o < l (k + 1) then k + 1 else o) m 0 ≤ m := by
    intro m
    induction m with
    | zero => exact Nat.le_refl _
    | succ m ih =>
      show (if l (itr _ m 0) < l (m + 1) then m + 1 else itr _ m 0) ≤ m + 1
      split
      · exact Nat.le_refl _
      · exact Nat.le_trans ih (Nat.le_succ m)
  have := this (A - 1)
  unfold mostF
  omega
/-- the reference's longs and what is left, changed -/
def uJ (J : Nat → Nat → Int64) (s : (Nat → Int64) × (Nat → Int64)) : Nat → Nat → Int64 := upR (upR J 1 s.1) 21 s.2
theorem uJ_1 {J : Nat → Nat → Int64} {s : (Nat → Int64) × (Nat → Int64)} : uJ J s 1 = s.1 := by simp [uJ, upR]
theorem uJ_21 {J : Nat → Nat → Int64} {s : (Nat → Int64) × (Nat → Int64)} : uJ J s 21 = s.2 := by simp [uJ, upR]
theorem uJ_u1 {J : Nat → Nat → Int64} {s : (Nat → Int64) × (Nat → Int64)} {y : Nat → Int64} : upR (uJ J s) 1 y = uJ J (y, s.2) := by
  funext j
  by_cases h : j = 1
  · subst h; simp [uJ, upR]
  · by_cases h2 : j = 21
    · subst h2; simp [uJ, upR]
    · simp [uJ, upR, h, h2]
theorem uJ_u21 {J : Nat → Nat → Int64} {s : (Nat → Int64) × (Nat → Int64)} {y : Nat → Int64} : upR (uJ J s) 21 y = uJ J (s.1, y) := by
  funext j
  by_cases h2 : j = 21
  · subst h2; simp [uJ, upR]
  · simp [uJ, upR, h2]
theorem uJ_id {J : Nat → Nat → Int64} : uJ J (J 1, J 21) = J := by
  funext j
  by_cases h2 : j = 21
  · subst h2; simp [uJ, upR]
  · by_cases h : j = 1
    · subst h; simp [uJ, upR]
    · simp [uJ, upR, h, h2]
theorem uJ_u {J : Nat → Nat → Int64} {s t : (Nat → Int64) × (Nat → Int64)} : uJ (uJ J s) t = uJ J t := by
  rw [show uJ (uJ J s) t = upR (upR (uJ J s) 1 t.1) 21 t.2 from rfl, uJ_u1, uJ_u21]
section M9
variable {ad nm : Nat → Nat} {n : Nat → Int32} {I : Nat → Nat → Int32} {J : Nat → Nat → Int64} {μ0 : jM} {z : Nat × Nat} {A Ln : Nat}
end M9
