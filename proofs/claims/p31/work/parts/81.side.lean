/-! ===== a side of a pool made ===== -/
section SD
variable {z : Nat × Nat} {C : Nat × Nat → Option jE} {ad : Nat × Nat → Nat} {nm : Nat → Nat × Nat} {μ0 : jM} {x : Nat × Nat} {a : Nat}
/-- a field written -/
theorem g_wr (h : gOk C ad nm) {ci f : Nat} {fs : List Value} (hx : C x = some (.inr (ci, fs))) (ha : ad x = a) (hf : f < fs.length) {v : Value} {R : jM → Prop} (w : ∀ C', gOk C' ad nm → C' x = some (.inr (ci, fs.set f v)) → (∀ w, w ≠ x → C' w = C w) → R (gM C' nm μ0)) : ∃ μ2 : jM, jp (gM C nm μ0) (some a) ci f v = some μ2 ∧ R μ2 := by
  rw [← ha]
  exact ⟨_, g_jp h hx hf, w _ (g_putOk h hx) upC_at (fun w hw => upC_no hw)⟩
/-- a cell made, and put into a field -/
theorem g_mk (h : gOk C ad nm) {ci f : Nat} {fs : List Value} (hx : C x = some (.inr (ci, fs))) (ha : ad x = a) (hf : f < fs.length) {xa : Nat × Nat} {e : jE} (hxa : C xa = none) (h100 : xa ≠ (100, 0)) {R : jM → Prop} (w : ∀ C' ad' nm' q1, gOk C' ad' nm' → nxt nm μ0 nm' μ0 → ad' xa = q1 → (∀ w, w ≠ xa → ad' w = ad w) → C' x = some (.inr (ci, fs.set f (va_rf (some q1)))) → C' xa = some e → (∀ w, w ≠ x → w ≠ xa → C' w = C w) → R (gM C' nm' μ0)) : ∀ q1, gM C nm μ0 q1 = none → ∃ μ2 : jM, jp (va_up (gM C nm μ0) q1 (some e)) (some a) ci f (va_rf (some q1)) = some μ2 ∧ R μ2 := by
  intro q1 hq
  obtain ⟨g1, g2, g3⟩ := g_new (e := e) h hq hxa h100
  have ne : x ≠ xa := fun v => by rw [v, hxa] at hx; cases hx
  rw [g1]
  refine g_wr g2 (by rw [upC_no ne]; exact hx) (by rw [upA_no ne]; exact ha) hf (fun C' k1 k2 k3 => w C' _ _ q1 k1 g3 upA_at (fun w hw => upA_no hw) k2 ?_ (fun w w1 w2 => ?_))
  · rw [k3 xa (Ne.symm ne)]; exact upC_at
  · rw [k3 w w1]; exact upC_no w2
def zr : jE := .inl (1, 10, .inr (.inl (fun _ => 0)))
theorem g_side (h : gOk C ad nm) {s : Nat} (h15 : C (15, s) = none) (h16 : C (16, s) = none) (h17 : C (17, s) = none) (h18 : C (18, s) = none) (h19 : C (19, s) = none) {q10 : Nat} (hq : gM C nm μ0 q10 = none) {r sg : Int32} {Q : Unit → jM → Prop}
    (w : ∀ C' ad' nm', gOk C' ad' nm' → nxt nm μ0 nm' μ0 → ad' (15, s) = q10 → (∀ w, w ≠ (15, s) → w ≠ (16, s) → w ≠ (17, s) → w ≠ (18, s) → w ≠ (19, s) → ad' w = ad w) → C' (15, s) = some (.inr (10, [.int r, .int sg, .long 0, .long 0, .ref (ad' (16, s)), .ref (ad' (17, s)), .ref (ad' (18, s)), .long 0, .long 0, .ref (ad' (19, s))])) → C' (16, s) = some zr → C' (17, s) = some zr → C' (18, s) = some zr → C' (19, s) = some zr → (∀ w, w ≠ (15, s) → w ≠ (16, s) → w ≠ (17, s) → w ≠ (18, s) → w ≠ (19, s) → C' w = C w) → Q () (gM C' nm' μ0)) : wX7_init z q10 r sg (va_up (gM C nm μ0) q10 (some (.inr (10, jfX7)))) Q := by
  have dd : ∀ {a c a' c' : Nat}, a ≠ a' → ((a, c) : Nat × Nat) ≠ (a', c') := fun g v => g (Prod.mk.inj v).1
  obtain ⟨g1, g2, g3⟩ := g_new (e := (.inr (10, jfX7) : jE)) h hq h15 (dd (by decide))
  rw [g1]
  have a15 : upA ad (15, s) q10 (15, s) = q10 := upA_at
  have ax : ∀ w, w ≠ (15, s) → upA ad (15, s) q10 w = ad w := fun w hw => upA_no hw
  have o1 : upC C (15, s) (.inr (10, jfX7)) (15, s) = some (.inr (10, [.int 0, .int 0, .long 0, .long 0, .null, .null, .null, .long 0, .long 0, .null])) := upC_at
  have n1 : ∀ w, w ≠ (15, s) → upC C (15, s) (.inr (10, jfX7)) w = C w := fun w hw => upC_no hw
  generalize upC C (15, s) (.inr (10, jfX7)) = C1 at g2 o1 n1 ⊢
  generalize upA ad (15, s) q10 = ad1 at g2 a15 ax
  generalize upN nm q10 (15, s) = nm1 at g2 g3 ⊢
  unfold wX7_init wX7_init_0
  refine g_mk g2 o1 a15 (show 4 < 10 by decide) ((n1 _ (dd (by decide))).trans h16) (dd (by decide)) (fun C2 ad2 nm2 q1 k1 k2 k3 k4 k5 k6 k7 => ?_)
  refine g_mk k1 k5 ((k4 _ (dd (by decide))).trans a15) (show 5 < 10 by decide) ((k7 _ (dd (by decide)) (dd (by decide))).trans ((n1 _ (dd (by decide))).trans h17)) (dd (by decide)) (fun C3 ad3 nm3 q3 m1 m2 m3 m4 m5 m6 m7 => ?_)
  refine g_mk m1 m5 ((m4 _ (dd (by decide))).trans ((k4 _ (dd (by decide))).trans a15)) (show 6 < 10 by decide) ((m7 _ (dd (by decide)) (dd (by decide))).trans ((k7 _ (dd (by decide)) (dd (by decide))).trans ((n1 _ (dd (by decide))).trans h18))) (dd (by decide)) (fun C4 ad4 nm4 q5 p1 p2 p3 p4 p5 p6 p7 => ?_)
  refine g_mk p1 p5 ((p4 _ (dd (by decide))).trans ((m4 _ (dd (by decide))).trans ((k4 _ (dd (by decide))).trans a15))) (show 9 < 10 by decide) ((p7 _ (dd (by decide)) (dd (by decide))).trans ((m7 _ (dd (by decide)) (dd (by decide))).trans ((k7 _ (dd (by decide)) (dd (by decide))).trans ((n1 _ (dd (by decide))).trans h19)))) (dd (by decide)) (fun C5 ad5 nm5 q7 r1 r2 r3 r4 r5 r6 r7 => ?_)
  have a5 : ad5 (15, s) = q10 := (r4 _ (dd (by decide))).trans ((p4 _ (dd (by decide))).trans ((m4 _ (dd (by decide))).trans ((k4 _ (dd (by decide))).trans a15)))
  refine g_wr r1 r5 a5 (show 0 < 10 by decide) (fun C6 s1 s2 s3 => ?_)
  refine g_wr s1 s2 a5 (show 1 < 10 by decide) (fun C7 t1 t2 t3 => ?_)
  have b16 : ad5 (16, s) = q1 := (r4 _ (dd (by decide))).trans ((p4 _ (dd (by decide))).trans ((m4 _ (dd (by decide))).trans k3))
  have b17 : ad5 (17, s) = q3 := (r4 _ (dd (by decide))).trans ((p4 _ (dd (by decide))).trans m3)
  have b18 : ad5 (18, s) = q5 := (r4 _ (dd (by decide))).trans p3
  refine w C7 ad5 nm5 t1 (nxt_tr g3 (nxt_tr k2 (nxt_tr m2 (nxt_tr p2 r2)))) a5 (fun w w1 w2 w3 w4 w5 => (r4 w w5).trans ((p4 w w4).trans ((m4 w w3).trans ((k4 w w2).trans (ax w w1))))) ?_ ?_ ?_ ?_ ?_ (fun w w1 w2 w3 w4 w5 => (t3 w w1).trans ((s3 w w1).trans ((r7 w w1 w5).trans ((p7 w w1 w4).trans ((m7 w w1 w3).trans ((k7 w w1 w2).trans (n1 w w1)))))))
  · rw [t2, b16, b17, b18, r3]
    rfl
  · exact (t3 _ (dd (by decide))).trans ((s3 _ (dd (by decide))).trans ((r7 _ (dd (by decide)) (dd (by decide))).trans ((p7 _ (dd (by decide)) (dd (by decide))).trans ((m7 _ (dd (by decide)) (dd (by decide))).trans k6))))
  · exact (t3 _ (dd (by decide))).trans ((s3 _ (dd (by decide))).trans ((r7 _ (dd (by decide)) (dd (by decide))).trans ((p7 _ (dd (by decide)) (dd (by decide))).trans m6)))
  · exact (t3 _ (dd (by decide))).trans ((s3 _ (dd (by decide))).trans ((r7 _ (dd (by decide)) (dd (by decide))).trans p6))
  · exact (t3 _ (dd (by decide))).trans ((s3 _ (dd (by decide))).trans r6)
end SD
