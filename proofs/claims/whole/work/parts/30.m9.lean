/-! ===== the reference splits ===== -/
theorem L_pred {x : Int64} (h : ¬ x ≤ 0) : (x - 1).toNatClampNeg + 1 = x.toNatClampNeg := by
  have h1 : 0 < x.toInt := by have := Int64.not_le.mp h; rw [Int64.lt_iff_toInt_lt] at this; exact this
  have h2 := Int64.toInt_lt x
  have e : (x - 1).toInt = x.toInt - 1 := by
    rw [Int64.toInt_sub]
    show Int.bmod (x.toInt - 1) (2 ^ 64) = _
    rw [Int.bmod_eq_of_le] <;> omega
  show ((x - 1).toInt).toNat + 1 = x.toInt.toNat
  rw [e]; omega
theorem L_clamp0 {x : Int64} (h : x ≤ 0) : x.toNatClampNeg = 0 := by
  have h1 : x.toInt ≤ 0 := by rw [Int64.le_iff_toInt_le] at h; exact h
  show x.toInt.toNat = 0
  omega
theorem updL2 {f : Nat → Int64} {k : Nat} {a b : Int64} : vp_updL (vp_updL f k a) k b = vp_updL f k b := by
  funext j
  unfold vp_updL
  by_cases h : j = k
  · simp [h]
  · simp [h]
def wS (I : Nat → Nat → Int32) (y : Nat → Int64) (p wo k : Nat) (s : Int64) : Int64 := s + (if I 4 k = nI p then y (wo + k) else 0)
def wF (I : Nat → Nat → Int32) (A : Nat) (y : Nat → Int64) (p wo : Nat) : Int64 := itr (wS I y p wo) A 0
def shS (I : Nat → Nat → Int32) (p : Nat) (amt : Int64) (wo : Nat) (sg : Int32) (all : Int64) (k : Nat) (s : (Nat → Int64) × (Nat → Int64) × Int64) : (Nat → Int64) × (Nat → Int64) × Int64 :=
  if I 4 k = nI p then (getsF k (sg.toInt64 * (amt * s.1 (wo + k) / all)) s.1, vp_updL s.2.1 k (amt * s.1 (wo + k) - amt * s.1 (wo + k) / all * all), s.2.2 - amt * s.1 (wo + k) / all) else (s.1, vp_updL s.2.1 k (-1), s.2.2)
def mostF (l : Nat → Int64) (A : Nat) : Nat := itr (fun k o => if l o < l (k + 1) then k + 1 else o) (A - 1) 0
def cenF (A : Nat) (sg : Int32) : Nat → (Nat → Int64) × (Nat → Int64) → (Nat → Int64) × (Nat → Int64)
  | 0, s => s
  | c + 1, s => cenF A sg c (getsF (mostF s.2 A) sg.toInt64 s.1, vp_updL s.2 (mostF s.2 A) (-1))
def splF (I : Nat → Nat → Int32) (A p : Nat) (amt : Int64) (wo : Nat) (sg : Int32) (s : (Nat → Int64) × (Nat → Int64)) : (Nat → Int64) × (Nat → Int64) :=
  if wF I A s.1 p wo = 0 then s else cenF A sg (itr (shS I p amt wo sg (wF I A s.1 p wo)) A (s.1, s.2, amt)).2.2.toNatClampNeg ((itr (shS I p amt wo sg (wF I A s.1 p wo)) A (s.1, s.2, amt)).1, (itr (shS I p amt wo sg (wF I A s.1 p wo)) A (s.1, s.2, amt)).2.1)
theorem mostF_lt {l : Nat → Int64} {A : Nat} (hA : 0 < A) : mostF l A < A := by
  have : ∀ m, itr (fun k o => if l o < l (k + 1) then k + 1 else o) m 0 ≤ m := by
    intro m
    induction m with
    | zero => exact Nat.le_refl _
    | succ m ih =>
      show (if l (itr _ m 0) < l (m + 1) then m + 1 else itr _ m 0) ≤ m + 1
      split
      · exact Nat.le_refl _
      · exact Nat.le_trans ih (Nat.le_succ m)
  have := this (A - 1)
  unfold mostF
  omega
/-- the reference's longs and what is left, changed -/
def uJ (J : Nat → Nat → Int64) (s : (Nat → Int64) × (Nat → Int64)) : Nat → Nat → Int64 := upR (upR J 1 s.1) 21 s.2
theorem uJ_1 {J : Nat → Nat → Int64} {s : (Nat → Int64) × (Nat → Int64)} : uJ J s 1 = s.1 := by simp [uJ, upR]
theorem uJ_21 {J : Nat → Nat → Int64} {s : (Nat → Int64) × (Nat → Int64)} : uJ J s 21 = s.2 := by simp [uJ, upR]
theorem uJ_u1 {J : Nat → Nat → Int64} {s : (Nat → Int64) × (Nat → Int64)} {y : Nat → Int64} : upR (uJ J s) 1 y = uJ J (y, s.2) := by
  funext j
  by_cases h : j = 1
  · subst h; simp [uJ, upR]
  · by_cases h2 : j = 21
    · subst h2; simp [uJ, upR]
    · simp [uJ, upR, h, h2]
theorem uJ_u21 {J : Nat → Nat → Int64} {s : (Nat → Int64) × (Nat → Int64)} {y : Nat → Int64} : upR (uJ J s) 21 y = uJ J (s.1, y) := by
  funext j
  by_cases h2 : j = 21
  · subst h2; simp [uJ, upR]
  · simp [uJ, upR, h2]
theorem uJ_id {J : Nat → Nat → Int64} : uJ J (J 1, J 21) = J := by
  funext j
  by_cases h2 : j = 21
  · subst h2; simp [uJ, upR]
  · by_cases h : j = 1
    · subst h; simp [uJ, upR]
    · simp [uJ, upR, h, h2]
theorem uJ_u {J : Nat → Nat → Int64} {s t : (Nat → Int64) × (Nat → Int64)} : uJ (uJ J s) t = uJ J t := by
  rw [show uJ (uJ J s) t = upR (upR (uJ J s) 1 t.1) 21 t.2 from rfl, uJ_u1, uJ_u21]
section M9
variable {ad nm : Nat → Nat} {n : Nat → Int32} {I : Nat → Nat → Int32} {J : Nat → Nat → Int64} {μ0 : jM} {z : Nat × Nat} {A Ln : Nat}
theorem mJ1 (h : mOk ad nm) {s : (Nat → Int64) × (Nat → Int64)} {i : Nat} {x : Int32} (hi : i < 109) (hx : x = nI i) : jaj (mM ad nm n I (uJ J s) μ0) (some (ad 1)) x = some (s.1 i) := by
  rw [mJ h (k := 1) (Or.inl rfl) (show i < mlen 1 from hi) hx, uJ_1]
theorem mJ21 (h : mOk ad nm) {s : (Nat → Int64) × (Nat → Int64)} {i : Nat} {x : Int32} (hi : i < 10) (hx : x = nI i) : jaj (mM ad nm n I (uJ J s) μ0) (some (ad 21)) x = some (s.2 i) := by
  rw [mJ h (k := 21) (Or.inr (Or.inr rfl)) (show i < mlen 21 from hi) hx, uJ_21]
theorem msJ1 (h : mOk ad nm) {s : (Nat → Int64) × (Nat → Int64)} {i : Nat} {x : Int32} {v : Int64} (hi : i < 109) (hx : x = nI i) : jsj (mM ad nm n I (uJ J s) μ0) (some (ad 1)) x v = some (mM ad nm n I (uJ J (vp_updL s.1 i v, s.2)) μ0) := by
  rw [msJ h (k := 1) (Or.inl rfl) (show i < mlen 1 from hi) hx, uJ_1, uJ_u1]
theorem msJ21 (h : mOk ad nm) {s : (Nat → Int64) × (Nat → Int64)} {i : Nat} {x : Int32} {v : Int64} (hi : i < 10) (hx : x = nI i) : jsj (mM ad nm n I (uJ J s) μ0) (some (ad 21)) x v = some (mM ad nm n I (uJ J (s.1, vp_updL s.2 i v)) μ0) := by
  rw [msJ h (k := 21) (Or.inr (Or.inr rfl)) (show i < mlen 21 from hi) hx, uJ_21, uJ_u21]
theorem m_split (h : mOk ad nm) (hA : n 0 = nI A) (hA10 : A ≤ 10) {x x4 sg : Int32} {p wo : Nat} {amt : Int64} {s : (Nat → Int64) × (Nat → Int64)} (hx : x = nI p) (hx4 : x4 = nI wo) (hwo : wo ≤ 40) {Q : Unit → jM → Prop} (q : Q () (mM ad nm n I (uJ J (splF I A p amt wo sg s)) μ0)) : wX10_split z (ad 0) x amt x4 sg (mM ad nm n I (uJ J s) μ0) Q := by
  unfold wX10_split wX10_split_0
  subst hx hx4
  simp only [Option.some.injEq, Value.int.injEq, Value.long.injEq, jrf_inj, jrf_ref, jrf_null, exists_eq_left, exists_eq_left', exists_eq_right, forall_eq, forall_eq', and_true, true_and, not_true_eq_false, not_false_eq_true, false_and, and_false, true_implies, implies_true, false_implies]
  -- the cents
  have cents : 0 < A → ∀ c v s, v.toNatClampNeg = c → Q () (mM ad nm n I (uJ J (cenF A sg c s)) μ0) → ∃ f, wX10_split_159 z (ad 0) Q f sg v (mM ad nm n I (uJ J s) μ0) := by
    intro hA0 c
    induction c with
    | zero =>
      intro v s hv q0
      refine ⟨1, ?_⟩
      show wX10_split_159_b z (ad 0) Q (wX10_split_159 z (ad 0) Q 0) sg v _
      unfold wX10_split_159_b
      refine ⟨fun _ => q0, fun d => ?_⟩
      have := L_pred d
      omega
    | succ c ih =>
      intro v s hv q0
      have hv2 : ¬ v ≤ 0 := fun d => by rw [L_clamp0 d] at hv; cases hv
      have e1 := L_pred hv2
      obtain ⟨f, w⟩ := ih (v - 1) _ (by omega) q0
      refine ⟨f + 1, ?_⟩
      show wX10_split_159_b z (ad 0) Q (wX10_split_159 z (ad 0) Q f) sg v _
      unfold wX10_split_159_b
      simp only [Option.some.injEq, Value.int.injEq, Value.long.injEq, jrf_inj, jrf_ref, jrf_null, exists_eq_left, exists_eq_left', exists_eq_right, forall_eq, forall_eq', and_true, true_and, not_true_eq_false, not_false_eq_true, false_and, and_false, true_implies, implies_true, false_implies]
      refine ⟨fun d => absurd d hv2, fun _ => ?_⟩
      have lt := mostF_lt (l := s.2) hA0
      refine jfor (fun f2 k o => wX10_split_172 z (ad 0) (wX10_split_159 z (ad 0) Q f) Q f2 sg v (nI o) (nI (k + 1)) (mM ad nm n I (uJ J s) μ0)) (A - 1) (fun k o => if s.2 o < s.2 (k + 1) then k + 1 else o) 0 ?_ ?_
      · intro f2 k hk hw
        have ho : itr (fun k o => if s.2 o < s.2 (k + 1) then k + 1 else o) k 0 < 10 := by have := mostF_lt (l := s.2) (A := k + 1) (by omega); unfold mostF at this; rw [Nat.add_sub_cancel] at this; omega
        generalize itr (fun k o => if s.2 o < s.2 (k + 1) then k + 1 else o) k 0 = o at hw ho ⊢
        show wX10_split_172_b z (ad 0) (wX10_split_159 z (ad 0) Q f) Q (wX10_split_172 z (ad 0) (wX10_split_159 z (ad 0) Q f) Q f2) sg v (nI o) (nI (k + 1)) _
        unfold wX10_split_172_b
        have e0 : nI (k + 1) + 1 = nI (k + 1 + 1) := nI_1 (k + 1)
        simp only [mg0 h, mg23 h, mJ21 h (show k + 1 < 10 by omega) rfl, mJ21 h ho rfl, e0, Option.some.injEq, Value.int.injEq, Value.long.injEq, jrf_inj, jrf_ref, jrf_null, exists_eq_left, exists_eq_left', exists_eq_right, forall_eq, forall_eq', and_true, true_and, not_true_eq_false, not_false_eq_true, false_and, and_false, true_implies, implies_true, false_implies]
        refine ⟨fun c => absurd (hA ▸ c) (nI_ge (show k + 1 < A by omega) (by omega)), fun _ => ⟨fun c => ?_, fun c => ?_⟩⟩
        · rw [if_neg (Int64.not_lt.mpr c)] at hw; exact hw
        · rw [if_pos (Int64.not_le.mp c)] at hw; exact hw
      · show wX10_split_172_b z (ad 0) (wX10_split_159 z (ad 0) Q f) Q (wX10_split_172 z (ad 0) (wX10_split_159 z (ad 0) Q f) Q 0) sg v (nI (mostF s.2 A)) (nI (A - 1 + 1)) _
        unfold wX10_split_172_b
        rw [show A - 1 + 1 = A from by omega]
        simp only [mg0 h, Option.some.injEq, Value.int.injEq, Value.long.injEq, jrf_inj, jrf_ref, jrf_null, exists_eq_left, exists_eq_left', exists_eq_right, forall_eq, forall_eq', and_true, true_and, not_true_eq_false, not_false_eq_true, false_and, and_false, true_implies, implies_true, false_implies]
        refine ⟨fun _ => ⟨mhere h, m_gets h rfl (by omega) ?_⟩, fun c => absurd (show n 0 ≤ nI A by rw [hA]; exact Int32.le_refl _) c⟩
        rw [uJ_u1, uJ_1]
        simp only [mg23 h, msJ21 h (show mostF s.2 A < 10 by omega) rfl, Option.some.injEq, Value.int.injEq, Value.long.injEq, jrf_inj, jrf_ref, jrf_null, exists_eq_left, exists_eq_left', exists_eq_right, forall_eq, forall_eq', and_true, true_and, not_true_eq_false, not_false_eq_true, false_and, and_false, true_implies, implies_true, false_implies]
        exact w
  refine jfor (fun f k v => wX10_split_6 z (ad 0) Q f (nI p) amt (nI wo) sg v (nI k) (mM ad nm n I (uJ J s) μ0)) A (wS I s.1 p wo) 0 ?_ ?_
  · intro f k hk hw
    generalize itr (wS I s.1 p wo) k 0 = v at hw ⊢
    show wX10_split_6_b z (ad 0) Q (wX10_split_6 z (ad 0) Q f) (nI p) amt (nI wo) sg v (nI k) _
    unfold wX10_split_6_b
    have e0 : nI k + 1 = nI (k + 1) := nI_1 k
    have e1 : nI wo + nI k = nI (wo + k) := nI_add wo k
    simp only [mg0 h, mg3 h, mg6 h, mJ1 h (show wo + k < 109 by omega) e1, mI h (k := 4) (by omega) (by omega) (show k < mlen 4 by show k < 10; omega) rfl, e0, Option.some.injEq, Value.int.injEq, Value.long.injEq, jrf_inj, jrf_ref, jrf_null, exists_eq_left, exists_eq_left', exists_eq_right, forall_eq, forall_eq', and_true, true_and, not_true_eq_false, not_false_eq_true, false_and, and_false, true_implies, implies_true, false_implies]
    unfold wS at hw
    refine ⟨fun c => absurd (hA ▸ c) (nI_ge hk (by omega)), fun _ => ⟨fun c => ?_, fun c => ?_⟩⟩
    · rw [if_neg c] at hw; exact hw
    · rw [if_pos c] at hw; exact hw
  · show wX10_split_6_b z (ad 0) Q (wX10_split_6 z (ad 0) Q 0) (nI p) amt (nI wo) sg (wF I A s.1 p wo) (nI A) _
    unfold wX10_split_6_b
    simp only [mg0 h, Option.some.injEq, Value.int.injEq, Value.long.injEq, jrf_inj, jrf_ref, jrf_null, exists_eq_left, exists_eq_left', exists_eq_right, forall_eq, forall_eq', and_true, true_and, not_true_eq_false, not_false_eq_true, false_and, and_false, true_implies, implies_true, false_implies]
    unfold splF at q
    have hz : A = 0 → wF I A s.1 p wo = 0 := fun e => by subst e; rfl
    generalize wF I A s.1 p wo = all at q hz ⊢
    refine ⟨fun _ => ⟨fun c => ?_, fun c => by rw [if_pos c] at q; exact q⟩, fun c => absurd (show n 0 ≤ nI A by rw [hA]; exact Int32.le_refl _) c⟩
    rw [if_neg c] at q
    have hA0 : 0 < A := Nat.pos_of_ne_zero (fun e => c (hz e))
    refine jfor (fun f k t => wX10_split_65 z (ad 0) Q f (nI p) amt (nI wo) sg all t.2.2 (nI k) (mM ad nm n I (uJ J (t.1, t.2.1)) μ0)) A (shS I p amt wo sg all) (s.1, s.2, amt) ?_ ?_
    · intro f k hk hw
      generalize itr (shS I p amt wo sg all) k (s.1, s.2, amt) = t at hw ⊢
      show wX10_split_65_b z (ad 0) Q (wX10_split_65 z (ad 0) Q f) (nI p) amt (nI wo) sg all t.2.2 (nI k) _
      unfold wX10_split_65_b
      have e0 : nI k + 1 = nI (k + 1) := nI_1 k
      have e1 : nI wo + nI k = nI (wo + k) := nI_add wo k
      simp only [mg0 h, mg3 h, mg6 h, mg23 h, msJ21 h (show k < 10 by omega) rfl, mJ1 h (show wo + k < 109 by omega) e1, mI h (k := 4) (by omega) (by omega) (show k < mlen 4 by show k < 10; omega) rfl, e0, Option.some.injEq, Value.int.injEq, Value.long.injEq, jrf_inj, jrf_ref, jrf_null, exists_eq_left, exists_eq_left', exists_eq_right, forall_eq, forall_eq', and_true, true_and, not_true_eq_false, not_false_eq_true, false_and, and_false, true_implies, implies_true, false_implies]
      unfold shS at hw
      refine ⟨fun c => absurd (hA ▸ c) (nI_ge hk (by omega)), fun _ => ⟨fun c => ?_, fun d => ⟨c, c, mhere h, m_gets h rfl (by omega) ?_⟩⟩⟩
      · rw [if_neg c] at hw; exact hw
      · rw [uJ_u1, uJ_1, updL2]
        rw [if_pos d] at hw
        exact hw
    · show wX10_split_65_b z (ad 0) Q (wX10_split_65 z (ad 0) Q 0) (nI p) amt (nI wo) sg all _ (nI A) _
      unfold wX10_split_65_b
      simp only [mg0 h, Option.some.injEq, Value.int.injEq, Value.long.injEq, jrf_inj, jrf_ref, jrf_null, exists_eq_left, exists_eq_left', exists_eq_right, forall_eq, forall_eq', and_true, true_and, not_true_eq_false, not_false_eq_true, false_and, and_false, true_implies, implies_true, false_implies]
      exact ⟨fun _ => cents hA0 _ _ _ rfl q, fun c => absurd (show n 0 ≤ nI A by rw [hA]; exact Int32.le_refl _) c⟩
end M9
