/-! ===== the class's calls that read ===== -/
section AP
variable {z : Nat × Nat} {ad : Nat × Nat → Nat} {nm : Nat → Nat × Nat} {A L F : Nat} {I : Nat → Nat → Int32} {K : Nat → Nat → Int64} {k : Nat → Nat → Int32} {μ0 : jM} {y : Nat → Int64} {X : Int}
theorem ixn_of {x : Int32} {n : Nat} (hn : n < 2 ^ 31) (h0 : ¬ x < 0) (h1 : x < nI n) : ∃ i, i < n ∧ x = nI i := by
  obtain ⟨j, hj, e⟩ := nI_of h0
  subst e
  exact ⟨j, (nI_ltI hj hn).mp h1, rfl⟩
theorem ixn_no {x n : Int32} (h : ¬ x < n) : ¬ (0 ≤ x ∧ x < n) := fun v => h v.2
theorem ixn_no0 {x n : Int32} (h : x < 0) : ¬ (0 ≤ x ∧ x < n) := fun v => absurd h (Int32.not_lt.mpr v.1)
theorem c_accountAt (h : cE ad nm A L F I) {x : Int32} {Q : Option Nat → jM → Prop} {X : String → jM → Prop} (q : ∀ i, i < A → x = nI i → Q (some (ad (7, i))) (cM z ad nm A L F I y K k μ0)) (e : ¬ (0 ≤ x ∧ x < nI A) → X "java/lang/IndexOutOfBoundsException" (cM z ad nm A L F I y K k μ0)) : wX9_accountAt z (ad (0, 0)) x (cM z ad nm A L F I y K k μ0) Q X := by
  have hA := h.2.1
  have hl : clv A I 4 0 := Or.inl ⟨rfl, by decide⟩
  have hn : (clist A L F I 4 0).length = A := List.length_range
  unfold wX9_accountAt wX9_accountAt_0
  refine ⟨fun c => e (ixn_no0 c), fun c => ⟨_, cg0_0 h.1, _, cg1_0 h.1, _, ⟨rfl, c_lh h hl⟩, c_size h hl ?_⟩⟩
  rw [hn]
  refine ⟨fun d => ?_, fun d => e (ixn_no d)⟩
  obtain ⟨i, hi, e⟩ := ixn_of (by omega) c d
  exact ⟨_, cg0_0 h.1, _, cg1_0 h.1, _, ⟨rfl, c_lh h hl⟩, c_get h hl (List.getElem?_range hi) e ⟨cj7 h.1 hi, q i hi e⟩⟩
theorem c_lineAt (h : cE ad nm A L F I) {x : Int32} {Q : Option Nat → jM → Prop} {X : String → jM → Prop} (q : ∀ i, i < L → x = nI i → Q (some (ad (20, i))) (cM z ad nm A L F I y K k μ0)) (e : ¬ (0 ≤ x ∧ x < nI L) → X "java/lang/IndexOutOfBoundsException" (cM z ad nm A L F I y K k μ0)) : wX9_lineAt z (ad (0, 0)) x (cM z ad nm A L F I y K k μ0) Q X := by
  have hL := h.2.2.1
  have hl : clv A I 4 2 := Or.inl ⟨rfl, by decide⟩
  have hn : (clist A L F I 4 2).length = L := List.length_range
  unfold wX9_lineAt wX9_lineAt_0
  refine ⟨fun c => e (ixn_no0 c), fun c => ⟨_, cg0_0 h.1, _, cg1_2 h.1, _, ⟨rfl, c_lh h hl⟩, c_size h hl ?_⟩⟩
  rw [hn]
  refine ⟨fun d => ?_, fun d => e (ixn_no d)⟩
  obtain ⟨i, hi, e⟩ := ixn_of (by omega) c d
  exact ⟨_, cg0_0 h.1, _, cg1_2 h.1, _, ⟨rfl, c_lh h hl⟩, c_get h hl (List.getElem?_range hi) e ⟨cj20 h.1 hi, q i hi e⟩⟩
theorem c_flowAt (h : cE ad nm A L F I) {x : Int32} {Q : Option Nat → jM → Prop} {X : String → jM → Prop} (q : ∀ i, i < F → x = nI i → Q (some (ad (21, i))) (cM z ad nm A L F I y K k μ0)) (e : ¬ (0 ≤ x ∧ x < nI F) → X "java/lang/IndexOutOfBoundsException" (cM z ad nm A L F I y K k μ0)) : wX9_flowAt z (ad (0, 0)) x (cM z ad nm A L F I y K k μ0) Q X := by
  have hF := h.2.2.2.1
  have hl : clv A I 4 3 := Or.inl ⟨rfl, by decide⟩
  have hn : (clist A L F I 4 3).length = F := List.length_range
  unfold wX9_flowAt wX9_flowAt_0
  refine ⟨fun c => e (ixn_no0 c), fun c => ⟨_, cg0_0 h.1, _, cg1_3 h.1, _, ⟨rfl, c_lh h hl⟩, c_size h hl ?_⟩⟩
  rw [hn]
  refine ⟨fun d => ?_, fun d => e (ixn_no d)⟩
  obtain ⟨i, hi, e⟩ := ixn_of (by omega) c d
  exact ⟨_, cg0_0 h.1, _, cg1_3 h.1, _, ⟨rfl, c_lh h hl⟩, c_get h hl (List.getElem?_range hi) e ⟨cj21 h.1 hi, q i hi e⟩⟩
theorem c_bankAt (h : cE ad nm A L F I) {x : Int32} {Q : Option Nat → jM → Prop} {X : String → jM → Prop} (q : ∀ i, i < 4 → x = nI i → Q (some (ad (6, i))) (cM z ad nm A L F I y K k μ0)) (e : ¬ (0 ≤ x ∧ x ≤ 3) → X "java/lang/IllegalArgumentException" (cM z ad nm A L F I y K k μ0)) : wX9_bankAt z (ad (0, 0)) x (cM z ad nm A L F I y K k μ0) Q X := by
  have hl : clv A I 4 4 := Or.inl ⟨rfl, by decide⟩
  have hn : (clist A L F I 4 4).length = 4 := List.length_range
  unfold wX9_bankAt wX9_bankAt_0
  refine ⟨fun c => e (fun v => absurd c (Int32.not_lt.mpr v.1)), fun c => ⟨_, cg0_0 h.1, _, cg1_4 h.1, _, ⟨rfl, c_lh h hl⟩, c_size h hl ?_⟩⟩
  rw [hn]
  refine ⟨fun d => ?_, fun d => e (fun v => ?_)⟩
  · obtain ⟨i, hi, e⟩ := ixn_of (by decide) c d
    exact ⟨_, cg0_0 h.1, _, cg1_4 h.1, _, ⟨rfl, c_lh h hl⟩, c_get h hl (List.getElem?_range hi) e ⟨cj6 h.1 hi, q i hi e⟩⟩
  · obtain ⟨i, hi, e⟩ := nI_of2 (M := 3) (n := 3) rfl c v.2
    subst e
    exact d (nI_lt (by omega) (by decide))
theorem c_within {x a b : Int32} {Q : Unit → jM → Prop} {X : String → jM → Prop} {μ : jM} (q : a ≤ x ∧ x ≤ b → Q () μ) (e : ¬ (a ≤ x ∧ x ≤ b) → X "java/lang/IllegalArgumentException" μ) : wX9_requireWithin z x a b μ Q X := by
  unfold wX9_requireWithin wX9_requireWithin_0
  exact ⟨fun c => e (fun v => absurd c (Int32.not_lt.mpr v.1)), fun c => ⟨fun d => q ⟨Int32.not_lt.mp c, d⟩, fun d => e (fun v => d v.2)⟩⟩
theorem c_amount {x : Int32} {Q : Unit → jM → Prop} {X : String → jM → Prop} {μ : jM} (q : (-1000000 ≤ x ∧ x ≤ 1000000) ∧ ¬ x = 0 → Q () μ) (e : ¬ ((-1000000 ≤ x ∧ x ≤ 1000000) ∧ ¬ x = 0) → X "java/lang/IllegalArgumentException" μ) : wX9_requireAmount z x μ Q X := by
  unfold wX9_requireAmount wX9_requireAmount_0
  exact c_within (fun v => ⟨fun c => q ⟨v, c⟩, fun c => e (fun w => w.2 c)⟩) (fun v => e (fun w => v w.1))
theorem c_top (h : cE ad nm A L F I) {i : Nat} (hi : i < A) {Q : Unit → jM → Prop} {X : String → jM → Prop} (q : I 3 i = -1 → Q () (cM z ad nm A L F I y K k μ0)) (e : ¬ I 3 i = -1 → X "java/lang/IllegalStateException" (cM z ad nm A L F I y K k μ0)) : wX9_requireTop z (some (ad (7, i))) (cM z ad nm A L F I y K k μ0) Q X := by
  unfold wX9_requireTop wX9_requireTop_0
  refine ⟨_, cg7_1 h.1 hi, ?_⟩
  unfold cpar
  by_cases c : I 3 i = -1
  · rw [if_neg (fun v => v.2 c)]
    exact ⟨fun _ => q c, fun v => absurd rfl v⟩
  · rw [if_pos ⟨hi, c⟩]
    exact ⟨fun v => (by cases v), fun _ => e c⟩
theorem c_today (h : cE ad nm A L F I) {Q : Int32 → jM → Prop} (q : Q (y 108).toInt32 (cM z ad nm A L F I y K k μ0)) : wX9_today z (ad (0, 0)) (cM z ad nm A L F I y K k μ0) Q := by
  unfold wX9_today wX9_today_0
  exact ⟨_, cg0_0 h.1, _, cg1_6 h.1, q⟩
theorem c_accounts (h : cE ad nm A L F I) {Q : Int32 → jM → Prop} (q : Q (nI A) (cM z ad nm A L F I y K k μ0)) : wX9_accounts z (ad (0, 0)) (cM z ad nm A L F I y K k μ0) Q := by
  have hl : clv A I 4 0 := Or.inl ⟨rfl, by decide⟩
  have hn : (clist A L F I 4 0).length = A := List.length_range
  unfold wX9_accounts wX9_accounts_0
  refine ⟨_, cg0_0 h.1, _, cg1_0 h.1, _, ⟨rfl, c_lh h hl⟩, c_size h hl ?_⟩
  rw [hn]
  exact q
theorem c_balance (h : cE ad nm A L F I) {x : Int32} {Q : Int64 → jM → Prop} {X : String → jM → Prop} (q : ∀ i, i < A → x = nI i → Q (y i) (cM z ad nm A L F I y K k μ0)) (e : ¬ (0 ≤ x ∧ x < nI A) → X "java/lang/IndexOutOfBoundsException" (cM z ad nm A L F I y K k μ0)) : wX9_balance z (ad (0, 0)) x (cM z ad nm A L F I y K k μ0) Q X := by
  unfold wX9_balance wX9_balance_0
  exact ⟨ch0 h.1, c_accountAt h (fun i hi ei => ⟨_, cg7_8 h.1 hi, q i hi ei⟩) e⟩
theorem c_poolOf (h : cE ad nm A L F I) {x : Int32} {Q : Int32 → jM → Prop} {X : String → jM → Prop} (q : ∀ i, i < A → x = nI i → Q (I 4 i) (cM z ad nm A L F I y K k μ0)) (e : ¬ (0 ≤ x ∧ x < nI A) → X "java/lang/IndexOutOfBoundsException" (cM z ad nm A L F I y K k μ0)) : wX9_poolOf z (ad (0, 0)) x (cM z ad nm A L F I y K k μ0) Q X := by
  unfold wX9_poolOf wX9_poolOf_0
  exact ⟨ch0 h.1, c_accountAt h (fun i hi ei => ⟨_, cg7_2 h.1 hi, _, cg10_0 h.1 (h.2.top i hi), by rw [← (h.2.2.2.2.2.1 i hi).1]; exact q i hi ei⟩) e⟩
theorem c_interestOf (h : cE ad nm A L F I) {x : Int32} {Q : Int64 → jM → Prop} {X : String → jM → Prop} (q : ∀ i, i < A → x = nI i → Q (y (50 + i)) (cM z ad nm A L F I y K k μ0)) (e : ¬ (0 ≤ x ∧ x < nI A) → X "java/lang/IndexOutOfBoundsException" (cM z ad nm A L F I y K k μ0)) : wX9_interestOf z (ad (0, 0)) x (cM z ad nm A L F I y K k μ0) Q X := by
  unfold wX9_interestOf wX9_interestOf_0
  exact ⟨ch0 h.1, c_accountAt h (fun i hi ei => ⟨_, cg7_9 h.1 hi, q i hi ei⟩) e⟩
theorem c_total (h : cE ad nm A L F I) {x : Int32} {Q : Int64 → jM → Prop} {X : String → jM → Prop} (q : ∀ i, i < A → x = nI i → Q (sumF I A y (I 4 i) i) (cM z ad nm A L F I y K k μ0)) (e : ¬ (0 ≤ x ∧ x < nI A) → X "java/lang/IndexOutOfBoundsException" (cM z ad nm A L F I y K k μ0)) : wX9_total z (ad (0, 0)) x (cM z ad nm A L F I y K k μ0) Q X := by
  unfold wX9_total wX9_total_0
  refine ⟨ch0 h.1, c_accountAt h (fun i hi ei => c_sumFrom h 12 i 0 hi rfl (Nat.zero_le _) _ ?_) e⟩
  rw [total_eq h.2 hi]
  exact q i hi ei
theorem c_afterSweep (h : cE ad nm A L F I) (ht : tgOk A I) (hX0 : 0 ≤ X) (hX : X ≤ 900000000000) (hb : bR A L I X y) {x : Int32} {Q : Int64 → jM → Prop} {X : String → jM → Prop} (q : ∀ i, i < A → x = nI i → Q (sweepF I A y i) (cM z ad nm A L F I y K k μ0)) (e : ¬ (0 ≤ x ∧ x < nI A) → X "java/lang/IndexOutOfBoundsException" (cM z ad nm A L F I y K k μ0)) : wX9_afterSweep z (ad (0, 0)) x (cM z ad nm A L F I y K k μ0) Q X := by
  unfold wX9_afterSweep wX9_afterSweep_0
  refine ⟨ch0 h.1, c_accountAt h (fun i hi ei => c_sweptCash h hi ?_) e⟩
  rw [← (sweep_bR h.2.2.2.2.1 ht h.2.1 h.2.2.1 hX0 hX hb).2]
  exact q i hi ei
theorem c_drawn (h : cE ad nm A L F I) {x : Int32} {Q : Int32 → jM → Prop} {X : String → jM → Prop} (q : ∀ i, i < L → x = nI i → Q (y (70 + i)).toInt32 (cM z ad nm A L F I y K k μ0)) (e : ¬ (0 ≤ x ∧ x < nI L) → X "java/lang/IndexOutOfBoundsException" (cM z ad nm A L F I y K k μ0)) : wX9_drawn z (ad (0, 0)) x (cM z ad nm A L F I y K k μ0) Q X := by
  unfold wX9_drawn wX9_drawn_0
  exact ⟨ch0 h.1, c_lineAt h (fun i hi ei => ⟨_, cg20_3 h.1 hi, q i hi ei⟩) e⟩
theorem c_costOf (h : cE ad nm A L F I) {x : Int32} {Q : Int64 → jM → Prop} {X : String → jM → Prop} (q : ∀ i, i < L → x = nI i → Q (y (82 + i)) (cM z ad nm A L F I y K k μ0)) (e : ¬ (0 ≤ x ∧ x < nI L) → X "java/lang/IndexOutOfBoundsException" (cM z ad nm A L F I y K k μ0)) : wX9_costOf z (ad (0, 0)) x (cM z ad nm A L F I y K k μ0) Q X := by
  unfold wX9_costOf wX9_costOf_0
  exact ⟨ch0 h.1, c_lineAt h (fun i hi ei => ⟨_, cg20_4 h.1 hi, q i hi ei⟩) e⟩
theorem c_timesLeft (h : cE ad nm A L F I) {x : Int32} {Q : Int32 → jM → Prop} {X : String → jM → Prop} (q : ∀ i, i < F → x = nI i → Q (leftF I y i) (cM z ad nm A L F I y K k μ0)) (e : ¬ (0 ≤ x ∧ x < nI F) → X "java/lang/IndexOutOfBoundsException" (cM z ad nm A L F I y K k μ0)) : wX9_timesLeft z (ad (0, 0)) x (cM z ad nm A L F I y K k μ0) Q X := by
  unfold wX9_timesLeft wX9_timesLeft_0
  exact ⟨ch0 h.1, c_flowAt h (fun i hi ei => ⟨_, cg21_4 h.1 hi, q i hi ei⟩) e⟩
theorem c_exposure (h : cE ad nm A L F I) {x : Int32} {Q : Int64 → jM → Prop} {X : String → jM → Prop} (q : ∀ i, i < 4 → x = nI i → Q (expF I A y i) (cM z ad nm A L F I y (mK K I y A) k μ0)) (e : ¬ (0 ≤ x ∧ x ≤ 3) → X "java/lang/IllegalArgumentException" (cM z ad nm A L F I y K k μ0)) : wX9_exposure z (ad (0, 0)) x (cM z ad nm A L F I y K k μ0) Q X := by
  unfold wX9_exposure wX9_exposure_0
  exact ⟨ch0 h.1, c_bankAt h (fun i hi ei => ⟨_, cg0_0 h.1, _, ⟨rfl, ch1 h.1⟩, c_measureBanks h ⟨_, cg6_2 h.1 hi, by rw [show mK K I y A 5 i = expF I A y i from if_pos ⟨rfl, hi⟩]; exact q i hi ei⟩⟩) e⟩
theorem c_poolInterest (h : cE ad nm A L F I) (h60 : ∀ p, cisp A I p → y (60 + p) = K 4 (2 * p) - K 4 (2 * p + 1)) {x : Int32} {Q : Int64 → jM → Prop} {X : String → jM → Prop} (q : ∀ i, i < A → x = nI i → I 3 i = -1 → Q (y (60 + i)) (cM z ad nm A L F I y K k μ0)) (e : ¬ (0 ≤ x ∧ x < nI A) → X "java/lang/IndexOutOfBoundsException" (cM z ad nm A L F I y K k μ0)) (e2 : ∀ i, i < A → x = nI i → ¬ I 3 i = -1 → X "java/lang/IllegalStateException" (cM z ad nm A L F I y K k μ0)) : wX9_poolInterest z (ad (0, 0)) x (cM z ad nm A L F I y K k μ0) Q X := by
  unfold wX9_poolInterest wX9_poolInterest_0
  refine ⟨ch0 h.1, c_accountAt h (fun i hi ei => c_top h hi (fun t => ?_) (fun t => e2 i hi ei t)) e⟩
  have ht : tI I i = i := by
    rcases h.2.2.2.2.2.2.1 i hi with v | v
    · exact v.2
    · exact absurd t v.1
  have hp : cisp A I i := ⟨hi, t⟩
  have c1 : cisp A I (2 * i / 2) := by rw [show 2 * i / 2 = i by omega]; exact hp
  have c2 : cisp A I ((2 * i + 1) / 2) := by rw [show (2 * i + 1) / 2 = i by omega]; exact hp
  have g := cg7_2 (z := z) (zz := y) (K := K) (k := k) (μ0 := μ0) h.1 hi
  rw [ht] at g
  refine ⟨_, g, _, cg10_1 h.1 hp, _, cg15_3 h.1 c1, _, g, _, cg10_2 h.1 hp, _, cg15_3 h.1 c2, ?_⟩
  rw [← h60 i hp]
  exact q i hi ei t
theorem c_book (h : cE ad nm A L F I) {x x2 : Int32} {Q : Int64 → jM → Prop} {X : String → jM → Prop} (q : ∀ i, i < A → x = nI i → (-1000000 ≤ x2 ∧ x2 ≤ 1000000) ∧ ¬ x2 = 0 → Q (y i + x2.toInt64) (cM z ad nm A L F I (vp_updL y i (y i + x2.toInt64)) K k μ0)) (e : ¬ (0 ≤ x ∧ x < nI A) → X "java/lang/IndexOutOfBoundsException" (cM z ad nm A L F I y K k μ0)) (e2 : 0 ≤ x ∧ x < nI A → ¬ ((-1000000 ≤ x2 ∧ x2 ≤ 1000000) ∧ ¬ x2 = 0) → X "java/lang/IllegalArgumentException" (cM z ad nm A L F I y K k μ0)) : wX9_book z (ad (0, 0)) x x2 (cM z ad nm A L F I y K k μ0) Q X := by
  have hA := h.2.1
  unfold wX9_book wX9_book_0
  refine ⟨ch0 h.1, c_accountAt h (fun i hi ei => c_amount (fun v => ⟨_, cg7_8 h.1 hi, _, cw7_8 h hi, _, cg7_8 h.1 hi, ?_⟩) (fun v => e2 (by rw [ei]; exact ⟨nI_pos' (by omega), nI_lt hi (by omega)⟩) v)) e⟩
  have w := q i hi ei v
  rw [pk_uLs]
  exact w
theorem c_firstSettling (h : cE ad nm A L F I) {x : Int32} {d : Nat} (hx : x = nI d) (hd : d < 2 ^ 31) {Q : Int32 → jM → Prop} (q : Q (oI (stlF I (451 - d) d)) (cM z ad nm A L F I y K k μ0)) : wX2_firstSettlingFrom z (ad (2, 0)) x (cM z ad nm A L F I y K k μ0) Q := by
  unfold wX2_firstSettlingFrom wX2_firstSettlingFrom_0
  subst hx
  have all : ∀ f d, 451 - d = f → d < 2 ^ 31 → Q (oI (stlF I f d)) (cM z ad nm A L F I y K k μ0) → ∃ c, wX2_firstSettlingFrom_2 z (ad (2, 0)) Q c (nI d) (cM z ad nm A L F I y K k μ0) := by
    intro f
    induction f with
    | zero =>
      intro d hf hd q
      refine ⟨1, ?_⟩
      show wX2_firstSettlingFrom_2_b z (ad (2, 0)) Q (wX2_firstSettlingFrom_2 z (ad (2, 0)) Q 0) _ _
      unfold wX2_firstSettlingFrom_2_b
      have hlt : (450 : Int32) < nI d := nI_lt (a := 450) (by omega) hd
      exact ⟨fun _ => q, fun c => absurd hlt c⟩
    | succ f ih =>
      intro d hf hd q
      have hle : ¬ (450 : Int32) < nI d := nI_nlt (a := 450) (by omega) (by omega)
      have e0 : nI d + 1 = nI (d + 1) := nI_1 d
      unfold stlF at q
      cases hs : stF I d with
      | true =>
        rw [hs, if_pos rfl] at q
        refine ⟨1, ?_⟩
        show wX2_firstSettlingFrom_2_b z (ad (2, 0)) Q (wX2_firstSettlingFrom_2 z (ad (2, 0)) Q 0) _ _
        unfold wX2_firstSettlingFrom_2_b
        refine ⟨fun c => absurd c hle, fun _ => ⟨ch2 h.1, c_settles h rfl (Or.inl (by omega)) ?_⟩⟩
        rw [hs]
        exact ⟨fun c => absurd c (by decide), fun _ => q⟩
      | false =>
        rw [hs, if_neg (by decide)] at q
        obtain ⟨c, hc⟩ := ih (d + 1) (by omega) (by omega) q
        refine ⟨c + 1, ?_⟩
        show wX2_firstSettlingFrom_2_b z (ad (2, 0)) Q (wX2_firstSettlingFrom_2 z (ad (2, 0)) Q c) _ _
        unfold wX2_firstSettlingFrom_2_b
        refine ⟨fun c => absurd c hle, fun _ => ⟨ch2 h.1, c_settles h rfl (Or.inl (by omega)) ?_⟩⟩
        rw [hs]
        refine ⟨fun _ => ?_, fun c => absurd rfl c⟩
        intro v ev
        rw [ev, e0]
        exact hc
  exact all _ d rfl hd q
theorem c_settlementDay (h : cE ad nm A L F I) {x : Int32} {Q : Int32 → jM → Prop} {X : String → jM → Prop} (q : ∀ d, d ≤ 450 → x = nI d → Q (oI (stlF I (451 - d) d)) (cM z ad nm A L F I y K k μ0)) (e : ¬ (0 ≤ x ∧ x ≤ 450) → X "java/lang/IllegalArgumentException" (cM z ad nm A L F I y K k μ0)) : wX9_settlementDay z (ad (0, 0)) x (cM z ad nm A L F I y K k μ0) Q X := by
  unfold wX9_settlementDay wX9_settlementDay_0
  refine c_within (fun v => ?_) e
  obtain ⟨d, hd, ed⟩ := nI_of2 (M := 450) (n := 450) rfl (Int32.not_lt.mpr v.1) v.2
  exact ⟨_, cg0_0 h.1, _, cg1_5 h.1, _, ⟨rfl, ch2 h.1⟩, c_firstSettling h ed (by omega) (q d hd ed)⟩
end AP
