/-! ===== the class made new ===== -/
/-- the desk's fields with t lists made -/
def df (ad : Nat × Nat → Nat) (t f : Nat) : Value := if f < 5 then (if f < t then .ref (ad (4, f)) else .null) else if f = 5 then .null else .int 0
def dfs (ad : Nat × Nat → Nat) (t : Nat) : List Value := (List.range 8).map (df ad t)
def dC (z : Nat × Nat) (ad : Nat × Nat → Nat) (t : Nat) (x : Nat × Nat) : Option jE := if x = (0, 0) then some (.inr (11, jfX9)) else if x = (1, 0) then some (.inr (6, dfs ad t)) else if x.1 = 4 ∧ x.2 < t then some (ln0 z) else none
section CI
variable {z : Nat × Nat} {C : Nat × Nat → Option jE} {ad : Nat × Nat → Nat} {nm : Nat → Nat × Nat} {μ0 : jM} {t a : Nat}
theorem dC_0 : dC z ad t (0, 0) = some (.inr (11, jfX9)) := rfl
theorem dC_1 : dC z ad t (1, 0) = some (.inr (6, dfs ad t)) := rfl
theorem dC_4 {j : Nat} : dC z ad t (4, j) = if j < t then some (ln0 z) else none := by
  unfold dC
  rw [if_neg (fun v => absurd (Prod.mk.inj v).1 (by decide)), if_neg (fun v => absurd (Prod.mk.inj v).1 (by decide))]
  by_cases h : j < t
  · rw [if_pos ⟨rfl, h⟩, if_pos h]
  · rw [if_neg (fun v => h v.2), if_neg h]
theorem dC_no {x : Nat × Nat} (h0 : x ≠ (0, 0)) (h1 : x ≠ (1, 0)) (h4 : x.1 ≠ 4) : dC z ad t x = none := by
  unfold dC
  rw [if_neg h0, if_neg h1, if_neg (fun v => h4 v.1)]
theorem d_step (h : gOk (dC z ad t) ad nm) (ht : t < 5) (ha : ad (1, 0) = a) {f : Nat} (hf : f = t) {R : jM → Prop} (w : ∀ ad' nm', gOk (dC z ad' (t + 1)) ad' nm' → nxt nm μ0 nm' μ0 → ad' (1, 0) = a → ad' (0, 0) = ad (0, 0) → R (gM (dC z ad' (t + 1)) nm' μ0)) : ∀ q1, gM (dC z ad t) nm μ0 q1 = none → wJx4a65c_init_da8c8 z q1 (va_up (gM (dC z ad t) nm μ0) q1 (some (.inr (2, jfJx4a65c)))) (fun _ μ3 => ∃ μ4 : jM, jp μ3 (some a) 6 f (va_rf (some q1)) = some μ4 ∧ R μ4) := by
  have dd : ∀ {a c a' c' : Nat}, a ≠ a' → ((a, c) : Nat × Nat) ≠ (a', c') := fun g v => g (Prod.mk.inj v).1
  refine g_mkl h dC_1 ha (show f < (dfs ad t).length by unfold dfs; rw [List.length_map, List.length_range]; omega) (xa := (4, t)) (by rw [dC_4, if_neg (by omega)]) (dd (by decide)) (fun C' ad' nm' q1 k1 k2 k3 k4 k5 k6 k7 => ?_)
  have eC : C' = dC z ad' (t + 1) := by
    funext x
    by_cases x1 : x = (1, 0)
    · rw [x1, k5, dC_1]
      have : (dfs ad t).set f (va_rf (some q1)) = dfs ad' (t + 1) := by
        subst hf
        refine set_mapr ?_ (fun g hg => ?_)
        · unfold df
          rw [if_pos (by omega), if_pos (by omega), k3]
          rfl
        · unfold df
          by_cases c : g < 5
          · rw [if_pos c, if_pos c]
            by_cases c2 : g < f
            · rw [if_pos c2, if_pos (by omega), k4 _ (fun v => by have := (Prod.mk.inj v).2; omega)]
            · rw [if_neg c2, if_neg (by omega)]
          · rw [if_neg c, if_neg c]
      rw [this]
    · by_cases x4 : x = (4, t)
      · rw [x4, k6, dC_4, if_pos (by omega)]
      · rw [k7 x x1 x4]
        obtain ⟨q, j⟩ := x
        by_cases q4 : q = 4
        · subst q4
          rw [dC_4, dC_4]
          by_cases c : j < t
          · rw [if_pos c, if_pos (by omega)]
          · rw [if_neg c, if_neg (fun v => x4 (by rw [show j = t by omega]))]
        · by_cases x0 : ((q, j) : Nat × Nat) = (0, 0)
          · rw [x0, dC_0, dC_0]
          · rw [dC_no x0 x1 q4, dC_no x0 x1 q4]
  rw [eC] at k1 ⊢
  exact w ad' nm' k1 k2 ((k4 _ (dd (by decide))).trans ha) (k4 _ (dd (by decide)))
/-- the banks of the beginning -/
def bk0 (j : Nat) : jE := .inr (4, [.int (nI j), .int (-1), .long 0])
theorem g_banks {fs : List Value} {b : Nat} {Q : Unit → jM → Prop} : ∀ (t i : Nat) (C : Nat × Nat → Option jE) (ad : Nat × Nat → Nat) (nm : Nat → Nat × Nat) (μ0 : jM), i + t = 4 → gOk C ad nm → nm z.1 = (100, 0) → μ0 z.1 = some jZ0 → C (1, 0) = some (.inr (6, fs)) → fs[4]? = some (.ref (ad (4, 4))) → ad (1, 0) = b → hasL z C ad 4 4 (nI i) (List.range i) 6 → (∀ j, j < i → C (6, j) = some (bk0 j)) → (∀ j, i ≤ j → C (6, j) = none) →
    (∀ C' ad' nm' μ0', gOk C' ad' nm' → nxt nm μ0 nm' μ0' → (∀ x : Nat × Nat, x ≠ (5, 4) → x.1 ≠ 6 → ad' x = ad x) → hasL z C' ad' 4 4 4 (List.range 4) 6 → (∀ j, j < 4 → C' (6, j) = some (bk0 j)) → (∀ j, 4 ≤ j → C' (6, j) = none) → (∀ x : Nat × Nat, x ≠ (4, 4) → x ≠ (5, 4) → x.1 ≠ 6 → C' x = C x) → Q () (gM C' nm' μ0')) → wX3_init_72 z b Q (t + 1) (nI i) (gM C nm μ0) := by
  have dd : ∀ {a c a' c' : Nat}, a ≠ a' → ((a, c) : Nat × Nat) ≠ (a', c') := fun g v => g (Prod.mk.inj v).1
  have d2 : ∀ {a c c' : Nat}, c ≠ c' → ((a, c) : Nat × Nat) ≠ (a, c') := fun g v => g (Prod.mk.inj v).2
  intro t
  induction t with
  | zero =>
    intro i C ad nm μ0 hi h hzn hz0 h1 f1 hb hL hB hN w
    have hi : i = 4 := hi
    subst hi
    show wX3_init_72_b z b Q (wX3_init_72 z b Q 0) (nI 4) (gM C nm μ0)
    exact ⟨fun _ => w C ad nm μ0 h nxt_refl (fun _ _ _ => rfl) hL hB hN (fun _ _ _ _ => rfl), fun c => absurd (by decide) c⟩
  | succ t ih =>
    intro i C ad nm μ0 hi h hzn hz0 h1 f1 hb hL hB hN w
    show wX3_init_72_b z b Q (wX3_init_72 z b Q (t + 1)) (nI i) (gM C nm μ0)
    refine ⟨fun c => absurd c (nI_ge (b := 4) (by omega) (by decide)), fun _ => ?_⟩
    have gp := g_jg (μ0 := μ0) h h1 4
    rw [hb] at gp
    refine ⟨some (ad (4, 4)), gp.trans f1, fun q2 hq2 => ?_⟩
    obtain ⟨g1, g2, g3⟩ := g_new (e := (.inr (4, jfX1) : jE)) h hq2 (hN i (Nat.le_refl i)) (dd (by decide))
    rw [g1]
    have aq : upA ad (6, i) q2 (6, i) = q2 := upA_at
    have ax : ∀ w, w ≠ (6, i) → upA ad (6, i) q2 w = ad w := fun w hw => upA_no hw
    have o1 : upC C (6, i) (.inr (4, jfX1)) (6, i) = some (.inr (4, [.int 0, .int 0, .long 0])) := upC_at
    have n1 : ∀ w, w ≠ (6, i) → upC C (6, i) (.inr (4, jfX1)) w = C w := fun w hw => upC_no hw
    generalize upC C (6, i) (.inr (4, jfX1)) = C0 at g2 o1 n1 ⊢
    generalize upA ad (6, i) q2 = ad1 at g2 aq ax
    generalize upN nm q2 (6, i) = nm1 at g2 g3 ⊢
    unfold wX1_init wX1_init_0
    refine g_wr g2 o1 aq (show 1 < 3 by decide) (fun C1 s1 s2 s3 => ?_)
    refine g_wr s1 s2 aq (show 0 < 3 by decide) (fun C2 t1 t2 t3 => ?_)
    have c6 : C2 (6, i) = some (bk0 i) := t2
    have cx : ∀ w, w ≠ (6, i) → C2 w = C w := fun w hw => (t3 w hw).trans ((s3 w hw).trans (n1 w hw))
    clear s1 s2 s3 t2 t3 n1 o1 g1 hq2 g2
    obtain ⟨zn1, z01⟩ := z_nxt g3 hzn hz0
    have hL2 : hasL z C2 ad1 4 4 (nI i) (List.range i) 6 := has_tr hL (cx _ (dd (by decide))) (cx _ (dd (by decide))) (ax _ (dd (by decide))) (fun x hx => ax _ (d2 (by have := List.mem_range.mp hx; omega)))
    have h44 := g_here (μ0 := μ0) t1 hL2.1
    rw [ax (4, 4) (dd (by decide))] at h44
    refine ⟨_, ⟨rfl, h44⟩, ?_⟩
    refine g_app t1 zn1 z01 hL2 (by rw [List.length_range]; omega) (by decide) (by decide) (fun x hx => ⟨_, _, (cx _ (d2 (by have := List.mem_range.mp hx; omega))).trans (hB x (List.mem_range.mp hx))⟩) (ax _ (dd (by decide))) aq ⟨_, _, c6⟩ (fun C4 ad4 nm4 μ4 k1 k2 k3 k4 k5 => ?_)
    obtain ⟨zn4, z04⟩ := z_nxt k2 zn1 z01
    intro v8 e8
    rw [e8, nI_1]
    have f4 : ad4 (4, 4) = ad (4, 4) := (k3 _ (dd (by decide))).trans (ax _ (dd (by decide)))
    refine ih (i + 1) C4 ad4 nm4 μ4 (by omega) k1 zn4 z04 ((k5 _ (dd (by decide)) (dd (by decide))).trans ((cx _ (dd (by decide))).trans h1)) (by rw [f4]; exact f1) ((k3 _ (dd (by decide))).trans ((ax _ (dd (by decide))).trans hb)) ?_ (fun j hj => ?_) (fun j hj => ?_) (fun C' ad' nm' μ0' j1 j2 j3 j4 j5 j6 j7 => ?_)
    · rw [← nI_1, List.range_succ]
      exact k4
    · rw [k5 _ (dd (by decide)) (dd (by decide))]
      by_cases e : j = i
      · rw [e]; exact c6
      · rw [cx _ (d2 e)]; exact hB j (by omega)
    · rw [k5 _ (dd (by decide)) (dd (by decide)), cx _ (d2 (by omega))]
      exact hN j (by omega)
    · refine w C' ad' nm' μ0' j1 (nxt_tr g3 (nxt_tr k2 j2)) (fun x x1 x2 => ?_) j4 j5 j6 (fun x x1 x2 x3 => ?_)
      · exact (j3 x x1 x2).trans ((k3 x x1).trans (ax x (fun v => x2 (by rw [v]))))
      · exact (j7 x x1 x2 x3).trans ((k5 x x1 x2).trans (cx x (fun v => x3 (by rw [v]))))
/-- scratch at the beginning -/
def k00 : Nat → Nat → Int32 := fun a b => if a = 14 ∧ b = 4 then 4 else 0
theorem cEn_00 : cEn 0 0 0 I00 := ⟨by omega, by omega, by omega, fun i hi => by omega, fun i hi => by omega, fun i hi => by omega, fun i hi => by omega, fun i hi => by omega, fun i hi => by omega⟩
theorem c_init {μ : jM} {q1 : Nat} (hq : μ q1 = none) (hz0 : μ z.1 = some jZ0) {Q : Unit → jM → Prop} (w : ∀ ad nm μ0, cE ad nm 0 0 0 I00 → ad (0, 0) = q1 → (∀ a, μ a ≠ none → nm a = (100, 0) ∧ μ0 a = μ a) → Q () (cM z ad nm 0 0 0 I00 (fun _ => 0) (fun _ _ => 0) k00 μ0)) : wX9_init z q1 (va_up μ q1 (some (.inr (11, jfX9)))) Q := by
  have dd : ∀ {a c a' c' : Nat}, a ≠ a' → ((a, c) : Nat × Nat) ≠ (a', c') := fun g v => g (Prod.mk.inj v).1
  have h0 : gOk (fun _ => none) (fun _ => 0) (fun _ => (100, 0)) := ⟨fun x e v => (by cases v), fun a => Or.inl rfl, rfl⟩
  have e0 : gM (fun _ => none) (fun _ => (100, 0)) μ = μ := rfl
  have u0 : nxt (fun _ => (100, 0)) μ (fun _ => (100, 0)) μ := nxt_refl
  obtain ⟨g1, g2, g3⟩ := g_new (e := (.inr (11, jfX9) : jE)) (x := (0, 0)) h0 (by rw [e0]; exact hq) rfl (dd (by decide))
  have a00 : upA (fun _ => 0) (0, 0) q1 (0, 0) = q1 := upA_at
  have x10 : upC (fun _ => none) (0, 0) (.inr (11, jfX9)) (1, 0) = none := upC_no (dd (by decide))
  have ec : upC (fun _ => none) (0, 0) (.inr (11, jfX9)) = fun x => if x = (0, 0) then some (.inr (11, jfX9)) else none := rfl
  rw [e0] at g1
  rw [g1]
  generalize upA (fun _ => 0) (0, 0) q1 = ad1 at g2 a00
  generalize upN (fun _ => (100, 0)) q1 (0, 0) = nm1 at g2 g3 ⊢
  unfold wX9_init wX9_init_0
  intro q2 hq2
  obtain ⟨m1, m2, m3⟩ := g_new (e := (.inr (6, jfX3) : jE)) g2 hq2 x10 (dd (by decide))
  rw [m1]
  have a10 : upA ad1 (1, 0) q2 (1, 0) = q2 := upA_at
  have a0 : upA ad1 (1, 0) q2 (0, 0) = q1 := (upA_no (dd (by decide))).trans a00
  generalize upA ad1 (1, 0) q2 = ad2 at m2 a10 a0
  have eC : upC (upC (fun _ => none) (0, 0) (.inr (11, jfX9))) (1, 0) (.inr (6, jfX3)) = dC z ad2 0 := by
    funext x
    rw [ec]
    unfold dC upC
    by_cases x1 : x = (1, 0)
    · rw [if_pos x1, if_neg (fun v => absurd (v.symm.trans x1) (dd (by decide))), if_pos x1]
      rfl
    · rw [if_neg x1, if_neg x1]
      by_cases x0 : x = (0, 0)
      · rw [if_pos x0]; exact if_pos x0
      · rw [if_neg x0, if_neg (fun v => absurd v.2 (by omega))]; exact if_neg x0
  rw [eC] at m2 ⊢
  have u1 := nxt_tr g3 m3
  generalize upN nm1 q2 (1, 0) = nm2 at m2 u1 ⊢
  clear g1 g2 g3 m1 m3 eC ec x10 a00 hq2 h0 e0 u0
  unfold wX3_init wX3_init_0
  refine d_step m2 (by decide) a10 rfl (fun ad3 nm3 h3 n3 b3 c3 => ?_)
  refine d_step h3 (by decide) b3 rfl (fun ad4 nm4 h4 n4 b4 c4 => ?_)
  refine d_step h4 (by decide) b4 rfl (fun ad5 nm5 h5 n5 b5 c5 => ?_)
  refine d_step h5 (by decide) b5 rfl (fun ad6 nm6 h6 n6 b6 c6 => ?_)
  refine d_step h6 (by decide) b6 rfl (fun ad7 nm7 h7 n7 b7 c7 => ?_)
  have u7 := nxt_tr u1 (nxt_tr n3 (nxt_tr n4 (nxt_tr n5 (nxt_tr n6 n7))))
  have a7 : ad7 (0, 0) = q1 := c7.trans (c6.trans (c5.trans (c4.trans (c3.trans a0))))
  clear u1 n3 n4 n5 n6 n7 c3 c4 c5 c6 c7 a0 b3 b4 b5 b6 h3 h4 h5 h6 m2 a10
  intro q21 hq21
  have x20 : dC z ad7 5 (2, 0) = none := dC_no (dd (by decide)) (dd (by decide)) (show (2 : Nat) ≠ 4 by decide)
  have x30 : dC z ad7 5 (3, 0) = none := dC_no (dd (by decide)) (dd (by decide)) (show (3 : Nat) ≠ 4 by decide)
  obtain ⟨p1, p2, p3⟩ := g_new (e := (.inr (5, jfX2) : jE)) h7 hq21 x20 (dd (by decide))
  have p1 : va_up (gM (dC z ad7 (4 + 1)) nm7 μ) q21 (some (.inr (5, jfX2))) = gM (upC (dC z ad7 5) (2, 0) (.inr (5, jfX2))) (upN nm7 q21 (2, 0)) μ := p1
  rw [p1]
  have a20 : upA ad7 (2, 0) q21 (2, 0) = q21 := upA_at
  have ax : ∀ w, w ≠ (2, 0) → upA ad7 (2, 0) q21 w = ad7 w := fun w hw => upA_no hw
  have o2 : upC (dC z ad7 5) (2, 0) (.inr (5, jfX2)) (2, 0) = some (.inr (5, [.null])) := upC_at
  have nx : ∀ w, w ≠ (2, 0) → upC (dC z ad7 5) (2, 0) (.inr (5, jfX2)) w = dC z ad7 5 w := fun w hw => upC_no hw
  have p2 : gOk (upC (dC z ad7 5) (2, 0) (.inr (5, jfX2))) (upA ad7 (2, 0) q21) (upN nm7 q21 (2, 0)) := p2
  generalize upC (dC z ad7 5) (2, 0) (.inr (5, jfX2)) = C1 at p2 o2 nx ⊢
  generalize upA ad7 (2, 0) q21 = ad8 at p2 a20 ax
  have u8 := nxt_tr u7 p3
  generalize upN nm7 q21 (2, 0) = nm8 at p2 u8 ⊢
  clear p1 p3 u7 hq21
  unfold wX2_init wX2_init_0
  refine g_mk p2 o2 a20 (show 0 < 1 by decide) (xa := (3, 0)) ((nx _ (dd (by decide))).trans x30) (dd (by decide)) (fun C2 ad9 nm9 q1' k1 k2 k3 k4 k5 k6 k7 => ?_)
  have d1 : C2 (1, 0) = some (.inr (6, dfs ad7 5)) := (k7 _ (dd (by decide)) (dd (by decide))).trans (nx _ (dd (by decide)))
  have b9 : ad9 (1, 0) = q2 := (k4 _ (dd (by decide))).trans ((ax _ (dd (by decide))).trans b7)
  have y9 : ∀ w, w ≠ (2, 0) → w ≠ (3, 0) → ad9 w = ad7 w := fun w w2 w3 => (k4 w w3).trans (ax w w2)
  refine g_wr k1 d1 b9 (show 5 < (dfs ad7 5).length by unfold dfs; rw [List.length_map, List.length_range]; omega) (fun C3 l1 l2 l3 => ?_)
  have u9 := nxt_tr u8 k2
  have a92 : ad9 (2, 0) = q21 := (k4 _ (dd (by decide))).trans a20
  have l2 : C3 (1, 0) = some (.inr (6, [.ref (ad9 (4, 0)), .ref (ad9 (4, 1)), .ref (ad9 (4, 2)), .ref (ad9 (4, 3)), .ref (ad9 (4, 4)), .ref (ad9 (2, 0)), .int 0, .int 0])) := by
    rw [l2, y9 (4, 0) (dd (by decide)) (dd (by decide)), y9 (4, 1) (dd (by decide)) (dd (by decide)), y9 (4, 2) (dd (by decide)) (dd (by decide)), y9 (4, 3) (dd (by decide)) (dd (by decide)), y9 (4, 4) (dd (by decide)) (dd (by decide)), a92]
    rfl
  have k5 : C2 (2, 0) = some (.inr (5, [.ref (ad9 (3, 0))])) := by rw [k5, k3]; rfl
  have e3 : ∀ w, w ≠ (1, 0) → w ≠ (2, 0) → w ≠ (3, 0) → C3 w = dC z ad7 5 w := fun w w1 w2 w3 => (l3 w w1).trans ((k7 w w2 w3).trans (nx w w2))
  have c20 : C3 (2, 0) = some (.inr (5, [.ref (ad9 (3, 0))])) := (l3 _ (dd (by decide))).trans k5
  have c30 : C3 (3, 0) = some (.inl (2, 451, .inl (fun _ => 0))) := (l3 _ (dd (by decide))).trans k6
  clear k1 k2 k3 k4 k5 k6 k7 d1 p2 o2 nx u8 l3 h7 x20 x30
  intro v25 e25
  refine ⟨5, Nat.le_refl 5, ?_⟩
  change wX3_init_72 z q2 (fun _ μ3 => ∃ μ4 : jM, jp μ3 (some q1) 11 0 (va_rf (some q2)) = some μ4 ∧ Q () μ4) 5 v25 (gM C3 nm9 μ)
  rw [e25, ← nI_0]
  obtain ⟨zn, z0⟩ := z_nxt u9 rfl hz0
  have c4 : ∀ j, j < 5 → C3 (4, j) = some (ln0 z) := fun j hj => by
    rw [e3 _ (dd (by decide)) (dd (by decide)) (dd (by decide)), dC_4, if_pos hj]
  have cn : ∀ w : Nat × Nat, w ≠ (0, 0) → w ≠ (1, 0) → w ≠ (2, 0) → w ≠ (3, 0) → w.1 ≠ 4 → C3 w = none := fun w w0 w1 w2 w3 w4 => by
    rw [e3 w w1 w2 w3, dC_no w0 w1 w4]
  have c00 : C3 (0, 0) = some (.inr (11, jfX9)) := e3 _ (dd (by decide)) (dd (by decide)) (dd (by decide))
  have c45 : ∀ j, ¬ j < 5 → C3 (4, j) = none := fun j hj => by
    rw [e3 _ (dd (by decide)) (dd (by decide)) (dd (by decide)), dC_4, if_neg hj]
  have hL : hasL z C3 ad9 4 4 (nI 0) (List.range 0) 6 := ⟨c4 4 (by decide), fun v => absurd rfl v, fun _ => cn _ (dd (by decide)) (dd (by decide)) (dd (by decide)) (dd (by decide)) (show (5 : Nat) ≠ 4 by decide)⟩
  refine g_banks 4 0 C3 ad9 nm9 μ (by decide) l1 zn z0 l2 rfl b9 hL (fun j hj => absurd hj (by omega)) (fun j _ => cn _ (dd (by decide)) (dd (by decide)) (dd (by decide)) (dd (by decide)) (show (6 : Nat) ≠ 4 by decide)) (fun C' ad' nm' μ0' j1 j2 j3 j4 j5 j6 j7 => ?_)
  have aa : ∀ {q j : Nat}, q ≠ 5 → q ≠ 6 → ad' (q, j) = ad9 (q, j) := fun h5 h6 => j3 _ (dd h5) h6
  have w00 : C' (0, 0) = some (.inr (11, jfX9)) := (j7 _ (dd (by decide)) (dd (by decide)) (show (0 : Nat) ≠ 6 by decide)).trans c00
  have a00 : ad' (0, 0) = q1 := (aa (by decide) (by decide)).trans ((y9 _ (dd (by decide)) (dd (by decide))).trans a7)
  refine g_wr j1 w00 a00 (show 0 < 1 by decide) (fun C4 r1 r2 r3 => ?_)
  have a10 : ad' (1, 0) = q2 := (aa (by decide) (by decide)).trans b9
  have e7 : ∀ w : Nat × Nat, w ≠ (0, 0) → w ≠ (4, 4) → w ≠ (5, 4) → w.1 ≠ 6 → C4 w = C3 w := fun w w0 w1 w2 w3 => (r3 w w0).trans (j7 w w1 w2 w3)
  have eC : C4 = cC z ad' 0 0 0 I00 (fun _ => 0) (fun _ _ => 0) k00 := by
    funext x
    obtain ⟨q, j⟩ := x
    by_cases hq : 22 ≤ q
    · rw [cC_big hq, e7 _ (dd (by omega)) (dd (by omega)) (dd (by omega)) (show q ≠ 6 by omega)]
      exact cn _ (dd (by omega)) (dd (by omega)) (dd (by omega)) (dd (by omega)) (show q ≠ 4 by omega)
    by_cases h7 : 7 ≤ q
    · rw [e7 _ (dd (by omega)) (dd (by omega)) (dd (by omega)) (show q ≠ 6 by omega), cn _ (dd (by omega)) (dd (by omega)) (dd (by omega)) (dd (by omega)) (show q ≠ 4 by omega)]
      have nt : ∀ p, ¬ cisp 0 I00 p := fun p v => absurd v.1 (by omega)
      have : q = 7 ∨ q = 8 ∨ q = 9 ∨ q = 10 ∨ q = 11 ∨ q = 12 ∨ q = 13 ∨ q = 14 ∨ q = 15 ∨ q = 16 ∨ q = 17 ∨ q = 18 ∨ q = 19 ∨ q = 20 ∨ q = 21 := by omega
      rcases this with rfl | rfl | rfl | rfl | rfl | rfl | rfl | rfl | rfl | rfl | rfl | rfl | rfl | rfl | rfl
      · rfl
      · rfl
      · rfl
      · rfl
      · rfl
      · rfl
      · rfl
      · rfl
      · rfl
      · rfl
      · rfl
      · rfl
      · rfl
      · rfl
      · rfl
    have N44 : hasL z (cC z ad' 0 0 0 I00 (fun _ => 0) (fun _ _ => 0) k00) ad' 4 4 4 (List.range 4) 6 := ls_has (show clv 0 I00 4 4 from Or.inl ⟨rfl, by decide⟩)
    have H44 : hasL z C4 ad' 4 4 4 (List.range 4) 6 := has_tr j4 (r3 _ (dd (by decide))) (r3 _ (dd (by decide))) rfl (fun _ _ => rfl)
    have : q = 0 ∨ q = 1 ∨ q = 2 ∨ q = 3 ∨ q = 4 ∨ q = 5 ∨ q = 6 := by omega
    rcases this with rfl | rfl | rfl | rfl | rfl | rfl | rfl
    · by_cases j0 : j = 0
      · rw [j0, r2, ← a10]
        rfl
      · rw [e7 _ (fun v => j0 (Prod.mk.inj v).2) (dd (by decide)) (dd (by decide)) (show (0 : Nat) ≠ 6 by decide), cn _ (fun v => j0 (Prod.mk.inj v).2) (dd (by decide)) (dd (by decide)) (dd (by decide)) (show (0 : Nat) ≠ 4 by decide)]
        exact (if_neg j0).symm
    · rw [e7 _ (dd (by decide)) (dd (by decide)) (dd (by decide)) (show (1 : Nat) ≠ 6 by decide)]
      by_cases j0 : j = 0
      · rw [j0, l2, ← aa (q := 4) (j := 0) (by decide) (by decide), ← aa (q := 4) (j := 1) (by decide) (by decide), ← aa (q := 4) (j := 2) (by decide) (by decide), ← aa (q := 4) (j := 3) (by decide) (by decide), ← aa (q := 4) (j := 4) (by decide) (by decide), ← aa (q := 2) (j := 0) (by decide) (by decide)]
        rfl
      · rw [cn _ (dd (by decide)) (fun v => j0 (Prod.mk.inj v).2) (dd (by decide)) (dd (by decide)) (show (1 : Nat) ≠ 4 by decide)]
        exact (if_neg j0).symm
    · rw [e7 _ (dd (by decide)) (dd (by decide)) (dd (by decide)) (show (2 : Nat) ≠ 6 by decide)]
      by_cases j0 : j = 0
      · rw [j0, c20, ← aa (q := 3) (j := 0) (by decide) (by decide)]
        rfl
      · rw [cn _ (dd (by decide)) (dd (by decide)) (fun v => j0 (Prod.mk.inj v).2) (dd (by decide)) (show (2 : Nat) ≠ 4 by decide)]
        exact (if_neg j0).symm
    · rw [e7 _ (dd (by decide)) (dd (by decide)) (dd (by decide)) (show (3 : Nat) ≠ 6 by decide)]
      by_cases j0 : j = 0
      · rw [j0, c30]
        rfl
      · rw [cn _ (dd (by decide)) (dd (by decide)) (dd (by decide)) (fun v => j0 (Prod.mk.inj v).2) (show (3 : Nat) ≠ 4 by decide)]
        exact (if_neg j0).symm
    · by_cases j4' : j = 4
      · rw [j4']; exact (has_eq H44 N44).1
      · rw [e7 _ (dd (by decide)) (fun v => j4' (Prod.mk.inj v).2) (dd (by decide)) (show (4 : Nat) ≠ 6 by decide)]
        by_cases j5 : j < 5
        · rw [c4 j j5]
          have : j = 0 ∨ j = 1 ∨ j = 2 ∨ j = 3 := by omega
          rcases this with rfl | rfl | rfl | rfl <;> rfl
        · rw [c45 j j5]
          exact (if_neg j5).symm
    · by_cases j4' : j = 4
      · rw [j4']; exact (has_eq H44 N44).2
      · rw [e7 _ (dd (by decide)) (dd (by decide)) (fun v => j4' (Prod.mk.inj v).2) (show (5 : Nat) ≠ 6 by decide), cn _ (dd (by decide)) (dd (by decide)) (dd (by decide)) (dd (by decide)) (show (5 : Nat) ≠ 4 by decide)]
        refine (if_neg (fun v : j < 5 ∧ clist 0 0 0 I00 4 j ≠ [] => v.2 ?_)).symm
        have : j = 0 ∨ j = 1 ∨ j = 2 ∨ j = 3 := by omega
        rcases this with rfl | rfl | rfl | rfl <;> rfl
    · rw [r3 _ (dd (by decide))]
      by_cases h4 : j < 4
      · rw [j5 j h4]
        show some (bk0 j) = (if j < 4 then _ else none)
        rw [if_pos h4]
        unfold bk0 cf6
        have : I00 14 j = -1 := by
          show (if j < 4 then (-1 : Int32) else 0) = -1
          exact if_pos h4
        rw [this]
      · rw [j6 j (by omega)]
        exact (if_neg h4).symm
  rw [eC] at r1 ⊢
  rw [← cM_gM]
  refine w ad' nm' μ0' ⟨cOk_gOk.mpr r1, cEn_00⟩ a00 (fun a ha => ?_)
  exact (nxt_tr u9 j2) a rfl ha
end CI
