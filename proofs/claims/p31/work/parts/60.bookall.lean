/-! ===== booking interest, all pools and lines ===== -/
theorem sub_sub_add (a b c d : Int64) : (a - b) + (c - d) = (a + c) - (b + d) := by
  rw [Int64.sub_eq_add_neg a b, Int64.sub_eq_add_neg c d, Int64.sub_eq_add_neg (a + c), Int64.neg_add, Int64.sub_eq_add_neg (-b) d, Int64.add_assoc a (-b), ← Int64.add_assoc (-b) c (-d), Int64.add_comm (-b) c, Int64.add_assoc c (-b) (-d), ← Int64.add_assoc a c]
def bkC (y : Nat → Int64) (n : Nat) : Int := sm (fun p => (y (10 + p)).toInt / 3600000) n
def bkDb (y : Nat → Int64) (n : Nat) : Int := sm (fun p => (y (20 + p)).toInt / 3600000) n
def bkE (y : Nat → Int64) (n : Nat) : Int := sm (fun l => (y (76 + l)).toInt / 3600000) n
/-- how the class and the reference stand when the pools below n are booked -/
def bkQ (A : Nat) (I : Nat → Nat → Int32) (y0 : Nat → Int64) (K0 : Nat → Nat → Int64) (n : Nat) (tc : (Nat → Int64) × (Nat → Nat → Int64)) (tr : (Nat → Int64) × (Nat → Int64)) : Prop :=
  (∀ m, m < 30 ∨ (50 ≤ m ∧ m < 60) ∨ 70 ≤ m → tc.1 m = tr.1 m) ∧ (∀ m, (30 ≤ m ∧ m < 50) ∨ 70 ≤ m → tr.1 m = y0 m) ∧
  (∀ x, x < 10 → ((x < A ∧ tI I x < n) → tc.1 (30 + x) = 0 ∧ tc.1 (40 + x) = 0) ∧ (¬ (x < A ∧ tI I x < n) → tc.1 (30 + x) = y0 (30 + x) ∧ tc.1 (40 + x) = y0 (40 + x))) ∧
  (∀ p, cisp A I p → tr.1 (60 + p) = tc.2 4 (2 * p) - tc.2 4 (2 * p + 1)) ∧
  (∀ p, p < 10 → (¬ (p < n ∧ I 3 p = -1) → tr.1 (10 + p) = y0 (10 + p) ∧ tr.1 (20 + p) = y0 (20 + p)) ∧ ((p < n ∧ I 3 p = -1) → tr.1 (10 + p) = y0 (10 + p) - y0 (10 + p) / 3600000 * 3600000 ∧ tr.1 (20 + p) = y0 (20 + p) - y0 (20 + p) / 3600000 * 3600000)) ∧
  (∀ a b, a ≠ 4 → a < 100 ∨ 300 ≤ a → tc.2 a b = K0 a b) ∧ bS A tr.1 ≤ bS A y0 + bkC y0 n ∧ bN A tr.1 ≤ bN A y0 + bkDb y0 n
section BA
variable {A L F : Nat} {I : Nat → Nat → Int32} {y0 l0 : Nat → Int64} {K0 : Nat → Nat → Int64} {X : Int}
theorem bkC_rng (hs : smOk A y0) : ∀ n, n ≤ A → 0 ≤ bkC y0 n ∧ bkC y0 n ≤ n * 40000000 ∧ 0 ≤ bkDb y0 n ∧ bkDb y0 n ≤ n * 40000000 := by
  intro n hn
  have h1 := sm_nn (f := fun p => (y0 (10 + p)).toInt / 3600000) n (fun p hp => by have := (hs p (by omega)).1; show 0 ≤ (y0 (10 + p)).toInt / 3600000; omega)
  have h2 := sm_le (f := fun p => (y0 (10 + p)).toInt / 3600000) (g := fun _ => 40000000) n (fun p hp => by have := (hs p (by omega)).1; show (y0 (10 + p)).toInt / 3600000 ≤ 40000000; omega)
  have h3 := sm_nn (f := fun p => (y0 (20 + p)).toInt / 3600000) n (fun p hp => by have := (hs p (by omega)).2; show 0 ≤ (y0 (20 + p)).toInt / 3600000; omega)
  have h4 := sm_le (f := fun p => (y0 (20 + p)).toInt / 3600000) (g := fun _ => 40000000) n (fun p hp => by have := (hs p (by omega)).2; show (y0 (20 + p)).toInt / 3600000 ≤ 40000000; omega)
  rw [sm_const] at h2 h4
  exact ⟨h1, h2, h3, h4⟩
theorem bS_congr {y y' : Nat → Int64} (e : ∀ i, i < A → y' i = y i) : bS A y' = bS A y ∧ bN A y' = bN A y :=
  ⟨sm_congr A (fun i hi => by show (y' i).toInt = (y i).toInt; rw [e i hi]), sm_congr A (fun i hi => by show ng (y' i).toInt = ng (y i).toInt; rw [e i hi])⟩
theorem bkQ_step (hn : cEn A L F I) (hX0 : 0 ≤ X) (hX : X ≤ 500000000000) (hb : bdX A X y0) (hs : smOk A y0) (hw : wgOk A y0) {k : Nat} (hk : k < A) {tc : (Nat → Int64) × (Nat → Nat → Int64)} {tr : (Nat → Int64) × (Nat → Int64)} (h : bkQ A I y0 K0 k tc tr) :
    bkQ A I y0 K0 (k + 1) (if I 3 k = -1 then bkPl A I k tc else tc) (bkS I A k tr) := by
  have hA := hn.1
  have ha : acOk A I := hn.2.2.2.2.1
  obtain ⟨yc, K⟩ := tc
  obtain ⟨yr, lr⟩ := tr
  obtain ⟨h1, h2, h3, h4, h5, h7, h8, h9⟩ := h
  have h1 : ∀ m, m < 30 ∨ (50 ≤ m ∧ m < 60) ∨ 70 ≤ m → yc m = yr m := h1
  have h2 : ∀ m, (30 ≤ m ∧ m < 50) ∨ 70 ≤ m → yr m = y0 m := h2
  have h3 : ∀ x, x < 10 → ((x < A ∧ tI I x < k) → yc (30 + x) = 0 ∧ yc (40 + x) = 0) ∧ (¬ (x < A ∧ tI I x < k) → yc (30 + x) = y0 (30 + x) ∧ yc (40 + x) = y0 (40 + x)) := h3
  have h4 : ∀ p, cisp A I p → yr (60 + p) = K 4 (2 * p) - K 4 (2 * p + 1) := h4
  have h5 : ∀ p, p < 10 → (¬ (p < k ∧ I 3 p = -1) → yr (10 + p) = y0 (10 + p) ∧ yr (20 + p) = y0 (20 + p)) ∧ ((p < k ∧ I 3 p = -1) → yr (10 + p) = y0 (10 + p) - y0 (10 + p) / 3600000 * 3600000 ∧ yr (20 + p) = y0 (20 + p) - y0 (20 + p) / 3600000 * 3600000) := h5
  have h7 : ∀ a b, a ≠ 4 → a < 100 ∨ 300 ≤ a → K a b = K0 a b := h7
  have h8 : bS A yr ≤ bS A y0 + bkC y0 k := h8
  have h9 : bN A yr ≤ bN A y0 + bkDb y0 k := h9
  have cr1 : bkC y0 (k + 1) = bkC y0 k + (y0 (10 + k)).toInt / 3600000 := rfl
  have cr2 : bkDb y0 (k + 1) = bkDb y0 k + (y0 (20 + k)).toInt / 3600000 := rfl
  have rng := bkC_rng hs k (by omega)
  obtain ⟨⟨s1, s2⟩, s3, s4⟩ := hs k hk
  have q1n : 0 ≤ (y0 (10 + k)).toInt / 3600000 := by omega
  have q2n : 0 ≤ (y0 (20 + k)).toInt / 3600000 := by omega
  unfold bkS
  by_cases c : I 3 k = -1
  · rw [if_pos c, if_pos c]
    have e20 : (2 * k) / 2 = k := by omega
    have e21 : (2 * k + 1) / 2 = k := by omega
    have z0 : sz1 (2 * k) = 10 + k := by rw [sz1_0 (by omega), e20]
    have z1 : sz1 (2 * k + 1) = 20 + k := by rw [sz1_1 (by omega), e21]
    have w0 : ∀ x, sw1 (2 * k) x = 30 + x := fun x => sw1_0 (by omega)
    have w1 : ∀ x, sw1 (2 * k + 1) x = 40 + x := fun x => sw1_1 (by omega)
    have v10 : yr (10 + k) = y0 (10 + k) := ((h5 k (by omega)).1 (by omega)).1
    have v20 : yr (20 + k) = y0 (20 + k) := ((h5 k (by omega)).1 (by omega)).2
    have wts : ∀ x, x < A → tI I x = k → yc (30 + x) = y0 (30 + x) ∧ yc (40 + x) = y0 (40 + x) := fun x hx ht => (h3 x (by omega)).2 (by omega)
    show bkQ A I y0 K0 (k + 1) (bkSide A I (2 * k + 1) (bkSide A I (2 * k) (yc, K))) (bkW k (yr (10 + k) / 3600000) (yr (20 + k) / 3600000) (splF I A k (yr (20 + k) / 3600000) 40 (-1) (splF I A k (yr (10 + k) / 3600000) 30 1 (yr, lr))).1, (splF I A k (yr (20 + k) / 3600000) 40 (-1) (splF I A k (yr (10 + k) / 3600000) 30 1 (yr, lr))).2)
    rw [v10, v20]
    have S1 := side_eq (A := A) (I := I) (y := yr) (l := lr) ha hA (p := k) (s := 2 * k) (wo := 30) hk e20 w0 (by omega) (by omega) (yc := yc) (K := K) (fun m hm => h1 m (by omega)) (fun x hx ht => by rw [w0, (wts x hx ht).1, h2 (30 + x) (by omega)]) (fun x hx ht => by rw [h2 (30 + x) (by omega)]; exact (hw x hx).1) (S := y0 (10 + k)) (by rw [z0, h1 (10 + k) (by omega), v10]) s1 s2
    rw [sg_0, z0] at S1
    obtain ⟨a1, a2, a3, a4, a5, a6, a7, g, g1, g2⟩ := S1
    have X1 : bdX A (X + 400000000) yr := ⟨by have := hb.1; omega, by have := hb.2; omega⟩
    have B1 := (share_bd (sgI := 1) hA (Or.inl rfl) g1 (by omega) (by omega) (by omega) X1 g2).1 rfl
    generalize splF I A k (y0 (10 + k) / 3600000) 30 1 (yr, lr) = q1 at a1 a5 g2 B1 ⊢
    generalize bkSide A I (2 * k) (yc, K) = t1 at a1 a2 a3 a4 a6 a7 ⊢
    obtain ⟨y1, l1⟩ := q1
    obtain ⟨yc1, K1⟩ := t1
    simp only at a1 a2 a3 a4 a5 a6 a7 g2 B1
    have t40 : ∀ x, x < A → tI I x = k → yc1 (40 + x) = y0 (40 + x) := fun x hx ht => by
      rw [a4 (40 + x) (by omega) (by omega) (by omega) (fun x' hx' _ => by rw [w0]; omega)]
      exact (wts x hx ht).2
    have r40 : ∀ x, x < A → y1 (40 + x) = y0 (40 + x) := fun x hx => by
      rw [a5 (40 + x) (by omega) (by omega)]
      exact h2 (40 + x) (by omega)
    have S2 := side_eq (A := A) (I := I) (y := y1) (l := l1) ha hA (p := k) (s := 2 * k + 1) (wo := 40) hk e21 w1 (by omega) (by omega) (yc := yc1) (K := K1) (fun m hm => a1 m hm) (fun x hx ht => by rw [w1, t40 x hx ht, r40 x hx]) (fun x hx ht => by rw [r40 x hx]; exact (hw x hx).2) (S := y0 (20 + k)) (by
      rw [z1, a4 (20 + k) (by omega) (by omega) (by omega) (fun x hx _ => by rw [w0]; omega), h1 (20 + k) (by omega), v20]) s3 s4
    rw [sg_1, z1] at S2
    obtain ⟨b1, b2, b3, b4, b5, b6, b7, g', g1', g2'⟩ := S2
    have X2 : bdX A (X + 400000000 + 40000000) y1 := ⟨by have := hb.1; omega, by have := hb.2; omega⟩
    have B2 := (share_bd (sgI := -1) hA (Or.inr rfl) g1' (by omega) (by omega) (by omega) X2 g2').2 rfl
    generalize splF I A k (y0 (20 + k) / 3600000) 40 (-1) (y1, l1) = q2 at b1 b5 g2' B2 ⊢
    generalize bkSide A I (2 * k + 1) (yc1, K1) = t2 at b1 b2 b3 b4 b6 b7 ⊢
    obtain ⟨y2, l2⟩ := q2
    obtain ⟨yc2, K2⟩ := t2
    simp only at b1 b2 b3 b4 b5 b6 b7 g2' B2
    have bw : ∀ m, m ≠ 10 + k → m ≠ 20 + k → m ≠ 60 + k → bkW k (y0 (10 + k) / 3600000) (y0 (20 + k) / 3600000) y2 m = y2 m := fun m m1 m2 m3 => by
      unfold bkW
      rw [pk_uLn m3, pk_uLn m2, pk_uLn m1]
    have y2o : ∀ m, 10 ≤ m → m < 50 ∨ 60 ≤ m → y2 m = yr m := fun m m1 m2 => (b5 m m1 m2).trans (a5 m m1 m2)
    have yc2o : ∀ m, 10 ≤ m → m < 50 ∨ 60 ≤ m → m ≠ 10 + k → m ≠ 20 + k → (∀ x, x < A → tI I x = k → m ≠ 30 + x ∧ m ≠ 40 + x) → yc2 m = yc m := fun m m1 m2 m3 m4 m5 => by
      rw [b4 m m1 m2 m4 (fun x hx ht => by rw [w1]; exact (m5 x hx ht).2), a4 m m1 m2 m3 (fun x hx ht => by rw [w0]; exact (m5 x hx ht).1)]
    have bw10 : bkW k (y0 (10 + k) / 3600000) (y0 (20 + k) / 3600000) y2 (10 + k) = y0 (10 + k) - y0 (10 + k) / 3600000 * 3600000 := by
      unfold bkW
      rw [pk_uLn (by omega), pk_uLn (by omega), pk_uLs, y2o (10 + k) (by omega) (by omega), v10]
    have bw20 : bkW k (y0 (10 + k) / 3600000) (y0 (20 + k) / 3600000) y2 (20 + k) = y0 (20 + k) - y0 (20 + k) / 3600000 * 3600000 := by
      unfold bkW
      rw [pk_uLn (by omega), pk_uLs, y2o (20 + k) (by omega) (by omega), v20]
    refine ⟨fun m hm => ?_, fun m hm => ?_, fun x hx => ?_, fun p hp => ?_, fun p hp => ?_, fun a b hab hr => ?_, ?_, ?_⟩
    · show yc2 m = bkW k _ _ y2 m
      by_cases e1 : m = 10 + k
      · rw [e1, bw10, b4 (10 + k) (by omega) (by omega) (by omega) (fun x hx _ => by rw [w1]; omega)]
        exact a2
      · by_cases e2 : m = 20 + k
        · rw [e2, bw20]
          exact b2
        · rw [bw m e1 e2 (by omega)]
          by_cases e3 : m < 10 ∨ (50 ≤ m ∧ m < 60)
          · exact b1 m e3
          · rw [y2o m (by omega) (by omega), yc2o m (by omega) (by omega) e1 e2 (fun x hx _ => by omega)]
            exact h1 m hm
    · show bkW k _ _ y2 m = y0 m
      rw [bw m (by omega) (by omega) (by omega), y2o m (by omega) (by omega)]
      exact h2 m hm
    · show (_ → yc2 (30 + x) = 0 ∧ yc2 (40 + x) = 0) ∧ (_ → yc2 (30 + x) = _ ∧ yc2 (40 + x) = _)
      by_cases e : x < A ∧ tI I x = k
      · refine ⟨fun _ => ⟨?_, ?_⟩, fun w => absurd ⟨e.1, by omega⟩ w⟩
        · rw [b4 (30 + x) (by omega) (by omega) (by omega) (fun x' hx' _ => by rw [w1]; omega)]
          have := a3 x e.1 e.2
          rw [w0] at this
          exact this
        · have := b3 x e.1 e.2
          rw [w1] at this
          exact this
      · have u1 : yc2 (30 + x) = yc (30 + x) := yc2o _ (by omega) (by omega) (by omega) (by omega) (fun x' hx' ht' => ⟨fun v => e ⟨by omega, by rw [show x = x' by omega]; exact ht'⟩, by omega⟩)
        have u2 : yc2 (40 + x) = yc (40 + x) := yc2o _ (by omega) (by omega) (by omega) (by omega) (fun x' hx' ht' => ⟨by omega, fun v => e ⟨by omega, by rw [show x = x' by omega]; exact ht'⟩⟩)
        rw [u1, u2]
        obtain ⟨o1, o2⟩ := h3 x hx
        exact ⟨fun w => o1 ⟨w.1, by have : tI I x ≠ k := fun v => e ⟨w.1, v⟩; omega⟩, fun w => o2 (fun v => w ⟨v.1, by omega⟩)⟩
    · show bkW k _ _ y2 (60 + p) = K2 4 (2 * p) - K2 4 (2 * p + 1)
      by_cases e : p = k
      · subst e
        have e60 : bkW p (y0 (10 + p) / 3600000) (y0 (20 + p) / 3600000) y2 (60 + p) = y2 (60 + p) + (y0 (10 + p) / 3600000 - y0 (20 + p) / 3600000) := by
          unfold bkW
          exact pk_uLs
        rw [e60, y2o (60 + p) (by omega) (by omega), h4 p hp, b6, b7 4 (2 * p) (by omega) (Or.inl (by omega)), a6, a7 4 (2 * p + 1) (by omega) (Or.inl (by omega))]
        exact sub_sub_add _ _ _ _
      · rw [bw (60 + p) (by omega) (by omega) (by omega), y2o (60 + p) (by omega) (by omega), h4 p hp, b7 4 (2 * p) (by omega) (Or.inl (by omega)), b7 4 (2 * p + 1) (by omega) (Or.inl (by omega)), a7 4 (2 * p) (by omega) (Or.inl (by omega)), a7 4 (2 * p + 1) (by omega) (Or.inl (by omega))]
    · show (_ → bkW k _ _ y2 (10 + p) = _ ∧ bkW k _ _ y2 (20 + p) = _) ∧ (_ → bkW k _ _ y2 (10 + p) = _ ∧ bkW k _ _ y2 (20 + p) = _)
      by_cases e : p = k
      · subst e
        rw [bw10, bw20]
        exact ⟨fun w => absurd ⟨by omega, c⟩ w, fun _ => ⟨rfl, rfl⟩⟩
      · rw [bw (10 + p) (by omega) (by omega) (by omega), bw (20 + p) (by omega) (by omega) (by omega), y2o (10 + p) (by omega) (by omega), y2o (20 + p) (by omega) (by omega)]
        obtain ⟨o1, o2⟩ := h5 p hp
        exact ⟨fun w => o1 (fun v => w ⟨by omega, v.2⟩), fun w => o2 ⟨by omega, w.2⟩⟩
    · show K2 a b = K0 a b
      rw [b7 a b (fun v => hab v.1) hr, a7 a b (fun v => hab v.1) hr]
      exact h7 a b hab hr
    · show bS A (bkW k _ _ y2) ≤ _
      rw [(bS_congr (fun i hi => bw i (by omega) (by omega) (by omega))).1, cr1]
      omega
    · show bN A (bkW k _ _ y2) ≤ _
      rw [(bS_congr (fun i hi => bw i (by omega) (by omega) (by omega))).2, cr2]
      omega
  · rw [if_neg c, if_neg c]
    refine ⟨h1, h2, fun x hx => ?_, h4, fun p hp => ?_, h7, ?_, ?_⟩
    · obtain ⟨o1, o2⟩ := h3 x hx
      have nk : x < A → tI I x ≠ k := fun hxA v => c (by rw [← v]; exact (hn.top x hxA).2)
      exact ⟨fun w => o1 ⟨w.1, by have := nk w.1; omega⟩, fun w => o2 (fun v => w ⟨v.1, by omega⟩)⟩
    · obtain ⟨o1, o2⟩ := h5 p hp
      exact ⟨fun w => o1 (fun v => w ⟨by omega, v.2⟩), fun w => o2 ⟨by have : p ≠ k := fun v => c (by rw [← v]; exact w.2); omega, w.2⟩⟩
    · rw [cr1]; omega
    · rw [cr2]; omega
theorem bkQ_all (hn : cEn A L F I) (hX0 : 0 ≤ X) (hX : X ≤ 500000000000) (hb : bdX A X y0) (hs : smOk A y0) (hw : wgOk A y0) (h60 : ∀ p, cisp A I p → y0 (60 + p) = K0 4 (2 * p) - K0 4 (2 * p + 1)) : bkQ A I y0 K0 A (foldS (bkPl A I) (ctops A I) (y0, K0)) (itr (bkS I A) A (y0, l0)) := by
  have all : ∀ n, n ≤ A → bkQ A I y0 K0 n (itr (fun k t => if I 3 k = -1 then bkPl A I k t else t) n (y0, K0)) (itr (bkS I A) n (y0, l0)) := by
    intro n
    induction n with
    | zero =>
      intro _
      refine ⟨fun m _ => rfl, fun m _ => rfl, fun x hx => ⟨fun w => absurd w.2 (by omega), fun _ => ⟨rfl, rfl⟩⟩, h60, fun p hp => ⟨fun _ => ⟨rfl, rfl⟩, fun w => absurd w.1 (by omega)⟩, fun a b _ _ => rfl, ?_, ?_⟩
      · show bS A y0 ≤ bS A y0 + 0; omega
      · show bN A y0 ≤ bN A y0 + 0; omega
    | succ n ih =>
      intro h
      exact bkQ_step hn hX0 hX hb hs hw (by omega) (ih (by omega))
  have e : foldS (bkPl A I) (ctops A I) (y0, K0) = itr (fun k t => if I 3 k = -1 then bkPl A I k t else t) A (y0, K0) := by
    unfold ctops
    rw [foldS_filter, itr_foldS]
    refine foldS_congr _ _ (fun x _ s => ?_)
    by_cases c : I 3 x = -1
    · rw [if_pos (decide_eq_true c), if_pos c]
    · rw [if_neg (fun v => c (of_decide_eq_true v)), if_neg c]
  rw [e]
  exact all A (Nat.le_refl _)
/-! the weights again 0, the lines' interest -/
theorem wz_at {y : Nat → Int64} : ∀ n, n ≤ 10 → (∀ x, x < n → itr wzS n y (30 + x) = 0 ∧ itr wzS n y (40 + x) = 0) ∧ ∀ m, (∀ x, x < n → m ≠ 30 + x ∧ m ≠ 40 + x) → itr wzS n y m = y m := by
  intro n
  induction n with
  | zero => intro _; exact ⟨fun x hx => by omega, fun m _ => rfl⟩
  | succ n ih =>
    intro hn
    obtain ⟨i1, i2⟩ := ih (by omega)
    show (∀ x, x < n + 1 → wzS n (itr wzS n y) (30 + x) = 0 ∧ wzS n (itr wzS n y) (40 + x) = 0) ∧ ∀ m, _ → wzS n (itr wzS n y) m = y m
    unfold wzS
    refine ⟨fun x hx => ?_, fun m hm => ?_⟩
    · by_cases e : x = n
      · rw [e, pk_uLn (show 30 + n ≠ 40 + n by omega), pk_uLs, pk_uLs]
        exact ⟨rfl, rfl⟩
      · rw [pk_uLn (show 30 + x ≠ 40 + n by omega), pk_uLn (show 30 + x ≠ 30 + n by omega), pk_uLn (show 40 + x ≠ 40 + n by omega), pk_uLn (show 40 + x ≠ 30 + n by omega)]
        exact i1 x (by omega)
    · have := hm n (by omega)
      rw [pk_uLn this.2, pk_uLn this.1]
      exact i2 m (fun x hx => hm x (by omega))
theorem lc_eq (hA : A ≤ 10) (hl : lnOk2 A L I) {a b : Nat → Int64} (h : ∀ m, m < 60 ∨ 70 ≤ m → a m = b m) : ∀ n, n ≤ L → ∀ m, m < 60 ∨ 70 ≤ m → itr (lcS I) n a m = itr (lcS I) n b m := by
  intro n
  induction n with
  | zero => intro _; exact h
  | succ n ih =>
    intro hn m hm
    have ih := ih (by omega)
    show lcS I n (itr (lcS I) n a) m = lcS I n (itr (lcS I) n b) m
    generalize itr (lcS I) n a = a' at ih ⊢
    generalize itr (lcS I) n b = b' at ih ⊢
    have lp := (hl n (by omega)).2.1
    unfold lcS lcW
    rw [ih (76 + n) (by omega), ih (82 + n) (by omega), ih (pL I n) (by omega)]
    unfold vp_updL
    split
    · rfl
    split
    · rfl
    split
    · rfl
    · exact ih m hm
/-- what the lines' interest changes -/
theorem lc_at (hA : A ≤ 10) (hL : L ≤ 6) (hl : lnOk2 A L I) {y : Nat → Int64} (hX0 : 0 ≤ X) (hX : X ≤ 600000000000) (hb : bdX A X y) (hq : ∀ l, l < L → 0 ≤ (y (76 + l)).toInt ∧ (y (76 + l)).toInt ≤ 360000000000) : ∀ n, n ≤ L →
    (∀ l, l < n → 0 ≤ (itr (lcS I) n y (76 + l)).toInt ∧ (itr (lcS I) n y (76 + l)).toInt < 3600000) ∧ (∀ l, n ≤ l → l < 6 → itr (lcS I) n y (76 + l) = y (76 + l)) ∧ (∀ m, 10 ≤ m → m < 76 ∨ 88 ≤ m → itr (lcS I) n y m = y m) ∧ bS A (itr (lcS I) n y) ≤ bS A y ∧ bN A (itr (lcS I) n y) ≤ bN A y + bkE y n ∧ 0 ≤ bkE y n ∧ bkE y n ≤ n * 100000 ∧ (∀ l, n ≤ l → l < 6 → itr (lcS I) n y (82 + l) = y (82 + l)) := by
  intro n
  induction n with
  | zero => intro _; exact ⟨fun l hl => by omega, fun l _ _ => rfl, fun m _ _ => rfl, Int.le_refl _, by show bN A y ≤ bN A y + 0; omega, Int.le_refl _, by simp [bkE, sm], fun l _ _ => rfl⟩
  | succ n ih =>
    intro hn
    obtain ⟨i1, i2, i3, i4, i5, i6, i7, i8⟩ := ih (by omega)
    have lp := (hl n (by omega)).2.1
    have ce : bkE y (n + 1) = bkE y n + (y (76 + n)).toInt / 3600000 := rfl
    obtain ⟨q1, q2⟩ := hq n (by omega)
    show (∀ l, l < n + 1 → 0 ≤ (lcS I n (itr (lcS I) n y) (76 + l)).toInt ∧ (lcS I n (itr (lcS I) n y) (76 + l)).toInt < 3600000) ∧ (∀ l, n + 1 ≤ l → l < 6 → lcS I n (itr (lcS I) n y) (76 + l) = y (76 + l)) ∧ (∀ m, 10 ≤ m → m < 76 ∨ 88 ≤ m → lcS I n (itr (lcS I) n y) m = y m) ∧ bS A (lcS I n (itr (lcS I) n y)) ≤ bS A y ∧ bN A (lcS I n (itr (lcS I) n y)) ≤ bN A y + bkE y (n + 1) ∧ 0 ≤ bkE y (n + 1) ∧ bkE y (n + 1) ≤ ((n + 1 : Nat) : Int) * 100000 ∧ (∀ l, n + 1 ≤ l → l < 6 → lcS I n (itr (lcS I) n y) (82 + l) = y (82 + l))
    generalize itr (lcS I) n y = t at i1 i2 i3 i4 i5 i8 ⊢
    have v76 := i2 n (by omega) (by omega)
    have tb : bdX A (X + 1000000) t := ⟨by have := hb.1; omega, by have := hb.2; omega⟩
    have lo := bdX_lo tb lp
    have hi := bdX_hi tb hA lp
    have dv := div_year q1
    have cn : (lN ((y (76 + n)).toInt.toNat / 3600000)).toInt = (y (76 + n)).toInt / 3600000 := by
      rw [lN_nat (by omega)]
      omega
    have ev : (t (pL I n) - lN ((y (76 + n)).toInt.toNat / 3600000)).toInt = (t (pL I n)).toInt - (y (76 + n)).toInt / 3600000 := by
      rw [i64_sub (by omega) (by omega), cn]
    have lt : lcS I n t = vp_updL (vp_updL (vp_updL t (76 + n) (lN ((y (76 + n)).toInt.toNat % 3600000))) (82 + n) (t (82 + n) + lN ((y (76 + n)).toInt.toNat / 3600000))) (pL I n) (t (pL I n) - lN ((y (76 + n)).toInt.toNat / 3600000)) := by
      unfold lcS lcW
      rw [v76, rem_year q1, dv]
    rw [lt]
    have at1 := sm_one (f := fun i => (vp_updL (vp_updL (vp_updL t (76 + n) (lN ((y (76 + n)).toInt.toNat % 3600000))) (82 + n) (t (82 + n) + lN ((y (76 + n)).toInt.toNat / 3600000))) (pL I n) (t (pL I n) - lN ((y (76 + n)).toInt.toNat / 3600000)) i).toInt) (g := fun i => (t i).toInt) (i := pL I n) A (fun j hj hne => by
      show (vp_updL _ _ _ j).toInt = _
      rw [pk_uLn hne, pk_uLn (by omega), pk_uLn (by omega)]) lp
    have at2 := sm_one (f := fun i => ng (vp_updL (vp_updL (vp_updL t (76 + n) (lN ((y (76 + n)).toInt.toNat % 3600000))) (82 + n) (t (82 + n) + lN ((y (76 + n)).toInt.toNat / 3600000))) (pL I n) (t (pL I n) - lN ((y (76 + n)).toInt.toNat / 3600000)) i).toInt) (g := fun i => ng (t i).toInt) (i := pL I n) A (fun j hj hne => by
      show ng (vp_updL _ _ _ j).toInt = _
      rw [pk_uLn hne, pk_uLn (by omega), pk_uLn (by omega)]) lp
    simp only [pk_uLs] at at1 at2
    rw [ev] at at1 at2
    have ns := ng_sub (v := (t (pL I n)).toInt) (w := (y (76 + n)).toInt / 3600000) (by omega)
    refine ⟨fun l hl2 => ?_, fun l h1 h2 => ?_, fun m h1 h2 => ?_, ?_, ?_, by omega, ?_, fun l h1 h2 => ?_⟩
    · rw [pk_uLn (by omega), pk_uLn (by omega)]
      by_cases e : l = n
      · rw [e, pk_uLs, lN_nat (by omega)]
        omega
      · rw [pk_uLn (by omega)]
        exact i1 l (by omega)
    · rw [pk_uLn (by omega), pk_uLn (by omega), pk_uLn (by omega)]
      exact i2 l (by omega) h2
    · rw [pk_uLn (by omega), pk_uLn (by omega), pk_uLn (by omega)]
      exact i3 m h1 h2
    · unfold bS at i4 ⊢; omega
    · unfold bN at i5 ⊢; omega
    · rw [ce, Int.natCast_add, Int.add_mul]
      omega
    · rw [pk_uLn (by omega), pk_uLn (by omega), pk_uLn (by omega)]
      exact i8 l (by omega) h2
end BA
