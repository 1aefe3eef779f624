/-! ===== a pool made ===== -/
section PL
variable {z : Nat × Nat} {C : Nat × Nat → Option jE} {ad : Nat × Nat → Nat} {nm : Nat → Nat × Nat} {μ0 : jM} {x : Nat × Nat} {a : Nat}
def ln0 (z : Nat × Nat) : jE := .inr (2, [.int 0, .ref z.1, .int 0])
/-- a list made, and put into a field -/
theorem g_mkl (h : gOk C ad nm) {ci f : Nat} {fs : List Value} (hx : C x = some (.inr (ci, fs))) (ha : ad x = a) (hf : f < fs.length) {xa : Nat × Nat} (hxa : C xa = none) (h100 : xa ≠ (100, 0)) {R : jM → Prop} (w : ∀ C' ad' nm' q1, gOk C' ad' nm' → nxt nm μ0 nm' μ0 → ad' xa = q1 → (∀ w, w ≠ xa → ad' w = ad w) → C' x = some (.inr (ci, fs.set f (va_rf (some q1)))) → C' xa = some (ln0 z) → (∀ w, w ≠ x → w ≠ xa → C' w = C w) → R (gM C' nm' μ0)) : ∀ q1, gM C nm μ0 q1 = none → wJx4a65c_init_da8c8 z q1 (va_up (gM C nm μ0) q1 (some (.inr (2, jfJx4a65c)))) (fun _ μ3 => ∃ μ4 : jM, jp μ3 (some a) ci f (va_rf (some q1)) = some μ4 ∧ R μ4) := by
  intro q1 hq
  have ne : x ≠ xa := fun v => by rw [v, hxa] at hx; cases hx
  refine g_list h hq hxa h100 (fun g2 g3 => ?_)
  refine g_wr g2 (by rw [upC_no ne]; exact hx) (by rw [upA_no ne]; exact ha) hf (fun C' k1 k2 k3 => w C' _ _ q1 k1 g3 upA_at (fun w hw => upA_no hw) k2 ?_ (fun w w1 w2 => ?_))
  · rw [k3 xa (Ne.symm ne)]; exact upC_at
  · rw [k3 w w1]; exact upC_no w2
theorem g_pool (h : gOk C ad nm) {p : Nat} (h10 : C (10, p) = none) (h11 : C (11, p) = none) (h13 : C (13, p) = none) (hs : ∀ q s, 15 ≤ q → q ≤ 19 → s / 2 = p → C (q, s) = none) {q5 : Nat} (hq : gM C nm μ0 q5 = none) {n0 r1 r2 : Int32} {Q : Unit → jM → Prop}
    (w : ∀ C' ad' nm', gOk C' ad' nm' → nxt nm μ0 nm' μ0 → ad' (10, p) = q5 → (∀ w : Nat × Nat, w ≠ (10, p) → w ≠ (11, p) → w ≠ (13, p) → (15 ≤ w.1 → w.1 ≤ 19 → w.2 / 2 ≠ p) → ad' w = ad w) → C' (10, p) = some (.inr (9, [.int n0, .ref (ad' (15, 2 * p)), .ref (ad' (15, 2 * p + 1)), .ref (ad' (11, p)), .ref (ad' (13, p))])) → C' (11, p) = some (ln0 z) → C' (13, p) = some (ln0 z) →
      (∀ s, s / 2 = p → C' (15, s) = some (.inr (10, [.int (if s % 2 = 0 then r1 else r2), .int (sgS s), .long 0, .long 0, .ref (ad' (16, s)), .ref (ad' (17, s)), .ref (ad' (18, s)), .long 0, .long 0, .ref (ad' (19, s))])) ∧ C' (16, s) = some zr ∧ C' (17, s) = some zr ∧ C' (18, s) = some zr ∧ C' (19, s) = some zr) →
      (∀ w : Nat × Nat, w ≠ (10, p) → w ≠ (11, p) → w ≠ (13, p) → (15 ≤ w.1 → w.1 ≤ 19 → w.2 / 2 ≠ p) → C' w = C w) → Q () (gM C' nm' μ0)) : wX6_init z q5 n0 r1 r2 (va_up (gM C nm μ0) q5 (some (.inr (9, jfX6)))) Q := by
  have dd : ∀ {a c a' c' : Nat}, a ≠ a' → ((a, c) : Nat × Nat) ≠ (a', c') := fun g v => g (Prod.mk.inj v).1
  have d2 : ∀ {a c c' : Nat}, c ≠ c' → ((a, c) : Nat × Nat) ≠ (a, c') := fun g v => g (Prod.mk.inj v).2
  obtain ⟨g1, g2, g3⟩ := g_new (e := (.inr (9, jfX6) : jE)) h hq h10 (dd (by decide))
  rw [g1]
  have a10 : upA ad (10, p) q5 (10, p) = q5 := upA_at
  have ax : ∀ w, w ≠ (10, p) → upA ad (10, p) q5 w = ad w := fun w hw => upA_no hw
  have o1 : upC C (10, p) (.inr (9, jfX6)) (10, p) = some (.inr (9, [.int 0, .null, .null, .null, .null])) := upC_at
  have n1 : ∀ w, w ≠ (10, p) → upC C (10, p) (.inr (9, jfX6)) w = C w := fun w hw => upC_no hw
  generalize upC C (10, p) (.inr (9, jfX6)) = C1 at g2 o1 n1 ⊢
  generalize upA ad (10, p) q5 = ad1 at g2 a10 ax
  generalize upN nm q5 (10, p) = nm1 at g2 g3 ⊢
  unfold wX6_init wX6_init_0
  refine g_mkl g2 o1 a10 (show 3 < 5 by decide) ((n1 _ (dd (by decide))).trans h11) (dd (by decide)) (fun C2 ad2 nm2 q1 k1 k2 k3 k4 k5 k6 k7 => ?_)
  refine g_mkl k1 k5 ((k4 _ (dd (by decide))).trans a10) (show 4 < 5 by decide) ((k7 _ (dd (by decide)) (dd (by decide))).trans ((n1 _ (dd (by decide))).trans h13)) (dd (by decide)) (fun C3 ad3 nm3 q3 m1 m2 m3 m4 m5 m6 m7 => ?_)
  have a3 : ad3 (10, p) = q5 := (m4 _ (dd (by decide))).trans ((k4 _ (dd (by decide))).trans a10)
  refine g_wr m1 m5 a3 (show 0 < 5 by decide) (fun C4 s1 s2 s3 => ?_)
  have e4 : ∀ w, w ≠ (10, p) → w ≠ (11, p) → w ≠ (13, p) → C4 w = C w := fun w w1 w2 w3 => (s3 w w1).trans ((m7 w w1 w3).trans ((k7 w w1 w2).trans (n1 w w1)))
  have b3 : ∀ w, w ≠ (10, p) → w ≠ (11, p) → w ≠ (13, p) → ad3 w = ad w := fun w w1 w2 w3 => (m4 w w3).trans ((k4 w w2).trans (ax w w1))
  have a311 : ad3 (11, p) = q1 := (m4 _ (dd (by decide))).trans k3
  have c411 : C4 (11, p) = some (ln0 z) := (s3 _ (dd (by decide))).trans ((m7 _ (dd (by decide)) (dd (by decide))).trans k6)
  have c413 : C4 (13, p) = some (ln0 z) := (s3 _ (dd (by decide))).trans m6
  have s2 : C4 (10, p) = some (.inr (9, [.int n0, .null, .null, .ref q1, .ref q3])) := s2
  have nx4 := nxt_tr g3 (nxt_tr k2 m2)
  have no : ∀ q s, 15 ≤ q → q ≤ 19 → s / 2 = p → C4 (q, s) = none := fun q s q1 q2 e => (e4 _ (dd (by omega)) (dd (by omega)) (dd (by omega))).trans (hs q s q1 q2 e)
  clear m5 m6 m7 k5 k6 k7 o1 n1 g2 k1 m1 g1 s3
  intro q10 hq10
  refine g_side s1 (no _ _ (by decide) (by decide) (by omega)) (no _ _ (by decide) (by decide) (by omega)) (no _ _ (by decide) (by decide) (by omega)) (no _ _ (by decide) (by decide) (by omega)) (no _ _ (by decide) (by decide) (by omega)) (s := 2 * p) hq10 (fun C5 ad5 nm5 t1 t2 t3 t4 t5 t6 t7 t8 t9 t10 => ?_)
  have a5 : ad5 (10, p) = q5 := (t4 _ (dd (by decide)) (dd (by decide)) (dd (by decide)) (dd (by decide)) (dd (by decide))).trans a3
  refine g_wr t1 ((t10 _ (dd (by decide)) (dd (by decide)) (dd (by decide)) (dd (by decide)) (dd (by decide))).trans s2) a5 (show 1 < 5 by decide) (fun C6 u1 u2 u3 => ?_)
  intro q14 hq14
  have no6 : ∀ q, 15 ≤ q → q ≤ 19 → C6 (q, 2 * p + 1) = none := fun q q1 q2 => (u3 _ (dd (by omega))).trans ((t10 _ (fun v => by have := (Prod.mk.inj v).2; omega) (fun v => by have := (Prod.mk.inj v).2; omega) (fun v => by have := (Prod.mk.inj v).2; omega) (fun v => by have := (Prod.mk.inj v).2; omega) (fun v => by have := (Prod.mk.inj v).2; omega)).trans (no q _ q1 q2 (by omega)))
  refine g_side u1 (no6 _ (by decide) (by decide)) (no6 _ (by decide) (by decide)) (no6 _ (by decide) (by decide)) (no6 _ (by decide) (by decide)) (no6 _ (by decide) (by decide)) hq14 (fun C7 ad7 nm7 v1 v2 v3 v4 v5 v6 v7 v8 v9 v10 => ?_)
  have a7 : ad7 (10, p) = q5 := (v4 _ (dd (by decide)) (dd (by decide)) (dd (by decide)) (dd (by decide)) (dd (by decide))).trans a5
  refine g_wr v1 ((v10 _ (dd (by decide)) (dd (by decide)) (dd (by decide)) (dd (by decide)) (dd (by decide))).trans u2) a7 (show 2 < 5 by decide) (fun C8 x1 x2 x3 => ?_)
  have dx : ∀ {q q' : Nat}, ((q, 2 * p) : Nat × Nat) ≠ (q', 2 * p + 1) := fun v => by have := (Prod.mk.inj v).2; omega
  have f7 : ∀ q, 15 ≤ q → C8 (q, 2 * p) = C5 (q, 2 * p) := fun q h => (x3 _ (dd (by omega))).trans ((v10 _ dx dx dx dx dx).trans (u3 _ (dd (by omega))))
  have f8 : ∀ q, 15 ≤ q → C8 (q, 2 * p + 1) = C7 (q, 2 * p + 1) := fun q h => x3 _ (dd (by omega))
  have f9 : ∀ q, ad7 (q, 2 * p) = ad5 (q, 2 * p) := fun q => v4 _ dx dx dx dx dx
  refine w C8 ad7 nm7 x1 (nxt_tr nx4 (nxt_tr t2 v2)) a7 (fun w w1 w2 w3 w4 => ?_) ?_ ?_ ?_ (fun s e => ?_) (fun w w1 w2 w3 w4 => ?_)
  · obtain ⟨wq, wj⟩ := w
    have w4 : 15 ≤ wq → wq ≤ 19 → wj / 2 ≠ p := w4
    have k : ∀ {a b : Nat}, 15 ≤ a → a ≤ 19 → b / 2 = p → ((wq, wj) : Nat × Nat) ≠ (a, b) := fun h1 h2 h3 v => by
      have e1 := (Prod.mk.inj v).1
      have e2 := (Prod.mk.inj v).2
      subst e1
      subst e2
      exact w4 h1 h2 h3
    exact (v4 _ (k (by decide) (by decide) (by omega)) (k (by decide) (by decide) (by omega)) (k (by decide) (by decide) (by omega)) (k (by decide) (by decide) (by omega)) (k (by decide) (by decide) (by omega))).trans ((t4 _ (k (by decide) (by decide) (by omega)) (k (by decide) (by decide) (by omega)) (k (by decide) (by decide) (by omega)) (k (by decide) (by decide) (by omega)) (k (by decide) (by decide) (by omega))).trans (b3 _ w1 w2 w3))
  · rw [x2, f9, t3, v3, v4 (11, p) (dd (by decide)) (dd (by decide)) (dd (by decide)) (dd (by decide)) (dd (by decide)), v4 (13, p) (dd (by decide)) (dd (by decide)) (dd (by decide)) (dd (by decide)) (dd (by decide)), t4 (11, p) (dd (by decide)) (dd (by decide)) (dd (by decide)) (dd (by decide)) (dd (by decide)), t4 (13, p) (dd (by decide)) (dd (by decide)) (dd (by decide)) (dd (by decide)) (dd (by decide)), a311, m3]
    rfl
  · exact (x3 _ (dd (by decide))).trans ((v10 _ (dd (by decide)) (dd (by decide)) (dd (by decide)) (dd (by decide)) (dd (by decide))).trans ((u3 _ (dd (by decide))).trans ((t10 _ (dd (by decide)) (dd (by decide)) (dd (by decide)) (dd (by decide)) (dd (by decide))).trans c411)))
  · exact (x3 _ (dd (by decide))).trans ((v10 _ (dd (by decide)) (dd (by decide)) (dd (by decide)) (dd (by decide)) (dd (by decide))).trans ((u3 _ (dd (by decide))).trans ((t10 _ (dd (by decide)) (dd (by decide)) (dd (by decide)) (dd (by decide)) (dd (by decide))).trans c413)))
  · rcases Nat.mod_two_eq_zero_or_one s with m | m
    · have es : s = 2 * p := by omega
      subst es
      rw [f7 _ (by decide), f7 _ (by decide), f7 _ (by decide), f7 _ (by decide), f7 _ (by decide), f9, f9, f9, f9, if_pos m]
      unfold sgS
      rw [if_pos m]
      exact ⟨t5, t6, t7, t8, t9⟩
    · have es : s = 2 * p + 1 := by omega
      subst es
      rw [f8 _ (by decide), f8 _ (by decide), f8 _ (by decide), f8 _ (by decide), f8 _ (by decide), if_neg (by omega)]
      unfold sgS
      rw [if_neg (by omega)]
      exact ⟨v5, v6, v7, v8, v9⟩
  · obtain ⟨wq, wj⟩ := w
    have w4 : 15 ≤ wq → wq ≤ 19 → wj / 2 ≠ p := w4
    have k : ∀ {a b : Nat}, 15 ≤ a → a ≤ 19 → b / 2 = p → ((wq, wj) : Nat × Nat) ≠ (a, b) := fun h1 h2 h3 v => by
      have e1 := (Prod.mk.inj v).1
      have e2 := (Prod.mk.inj v).2
      subst e1
      subst e2
      exact w4 h1 h2 h3
    exact (x3 _ w1).trans ((v10 _ (k (by decide) (by decide) (by omega)) (k (by decide) (by decide) (by omega)) (k (by decide) (by decide) (by omega)) (k (by decide) (by decide) (by omega)) (k (by decide) (by decide) (by omega))).trans ((u3 _ w1).trans ((t10 _ (k (by decide) (by decide) (by omega)) (k (by decide) (by decide) (by omega)) (k (by decide) (by decide) (by omega)) (k (by decide) (by decide) (by omega)) (k (by decide) (by decide) (by omega))).trans (e4 _ w1 w2 w3))))
end PL
