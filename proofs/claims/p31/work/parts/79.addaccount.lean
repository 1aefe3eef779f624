/-! ===== an account more, the class's side ===== -/
section AC
variable {z : Nat × Nat} {ad : Nat × Nat → Nat} {nm : Nat → Nat × Nat} {A L F : Nat} {I I' : Nat → Nat → Int32} {K : Nat → Nat → Int64} {k : Nat → Nat → Int32} {μ0 : jM} {y : Nat → Int64}
theorem upC_comm {C : Nat × Nat → Option jE} {x w : Nat × Nat} {e e' : jE} (h : x ≠ w) : upC (upC C x e) w e' = upC (upC C w e') x e := by
  funext v
  unfold upC
  by_cases h1 : v = w
  · rw [if_pos h1, if_neg (fun g => h (g.symm.trans h1)), if_pos h1]
  · rw [if_neg h1]
    by_cases h2 : v = x
    · rw [if_pos h2, if_pos h2]
    · rw [if_neg h2, if_neg h2, if_neg h1]
theorem cEn_A (hn : cEn A L F I) (hA : A < 10) (a : aI A I I') (h3 : I' 3 A = -1 ∨ ∃ i, i < A ∧ I' 3 A = nI i ∧ I' 4 A = I 4 i) (h4 : I' 3 A = -1 → I' 4 A = nI A) (h5 : ∃ B, B < 4 ∧ I' 5 A = nI B) (h6 : I 6 A = 0) : cEn (A + 1) L F I' := by
  obtain ⟨-, b, c, d, e, f, g, h, j⟩ := hn
  have r3 : ∀ {k}, k ≠ A → I' 3 k = I 3 k := fun hk => a.1 3 _ hk
  have tE : ∀ {k}, k ≠ A → tI I' k = tI I k := fun hk => by unfold tI; rw [a.1 4 _ hk]
  have pE : ∀ {k}, k ≠ A → pI I' k = pI I k := fun hk => by unfold pI; rw [r3 hk]
  have bE : ∀ {k}, k ≠ A → bI I' k = bI I k := fun hk => by unfold bI; rw [a.1 5 _ hk]
  have r6 : I' 6 = I 6 := a.2 6 (by decide) (by decide) (by decide) (by decide) (by decide)
  have r11 : I' 11 = I 11 := a.2 11 (by decide) (by decide) (by decide) (by decide) (by decide)
  have r15 : I' 15 = I 15 := a.2 15 (by decide) (by decide) (by decide) (by decide) (by decide)
  refine ⟨by omega, b, c, ?_, ?_, ?_, ?_, ?_, ?_⟩
  · intro k hk
    by_cases e : k = A
    · rcases h3 with v | ⟨i, hi, v, -⟩
      · exact Or.inl (by rw [e]; exact v)
      · exact Or.inr ⟨i, by omega, by rw [e]; exact v⟩
    · rw [r3 e]; exact d k (by omega)
  · intro k hk
    by_cases e2 : k = A
    · obtain ⟨B, hB, v5⟩ := h5
      have eb : bI I' A = B := by unfold bI; rw [v5]; exact nI_clamp (by omega)
      rw [e2, eb]
      rcases h3 with v | ⟨i, hi, v, v4⟩
      · have et : tI I' A = A := by unfold tI; rw [h4 v]; exact nI_clamp (by omega)
        rw [et]
        exact ⟨h4 v, Nat.le_refl _, v5, hB⟩
      · obtain ⟨t1, t2, -⟩ := e i hi
        have et : tI I' A = tI I i := by unfold tI; rw [v4]
        rw [et, v4]
        exact ⟨t1, by omega, v5, hB⟩
    · rw [tE e2, bE e2, a.1 4 _ e2, a.1 5 _ e2]; exact e k (by omega)
  · intro k hk
    by_cases e2 : k = A
    · rw [e2]
      rcases h3 with v | ⟨i, hi, v, v4⟩
      · refine Or.inl ⟨v, ?_⟩
        unfold tI; rw [h4 v]; exact nI_clamp (by omega)
      · have hne : ¬ I' 3 A = -1 := fun e => by have := nI_pos (n := i) (by omega); rw [← v, e] at this; exact this (by decide)
        have ep : pI I' A = i := by unfold pI; rw [v]; exact nI_clamp (by omega)
        refine Or.inr ⟨hne, ?_⟩
        rw [ep, tE (show i ≠ A by omega)]
        unfold tI; rw [v4]
    · rw [r3 e2, tE e2]
      rcases f k (by omega) with v | v
      · exact Or.inl v
      · have := (pI_lt d (show A ≤ 10 by omega) (show k < A by omega) v.1).2
        refine Or.inr ⟨v.1, ?_⟩
        rw [pE e2, tE (show pI I k ≠ A by omega)]
        exact v.2
  · intro l hl
    obtain ⟨g1, g2, g3⟩ := g l hl
    rw [pL_r r11, r11, r3 (show pL I l ≠ A by omega)]
    exact ⟨g1, by omega, g3⟩
  · intro l hl
    obtain ⟨g1, g2⟩ := h l hl
    have ef : fA I' l = fA I l := by unfold fA; rw [r15]
    rw [ef, r15]
    exact ⟨g1, by omega⟩
  · intro k hk
    rw [r6]
    by_cases e2 : k = A
    · rw [e2, h6]
      exact ⟨Or.inl rfl, fun _ => rfl⟩
    · rw [r3 e2]; exact j k (by omega)
theorem g_enter {C : Nat × Nat → Option jE} (h : gOk C ad nm) (hzn : nm z.1 = (100, 0)) (hz0 : μ0 z.1 = some jZ0) {p : Nat} {fs1 fs7 fs10 : List Value} (h1 : C (1, 0) = some (.inr (6, fs1))) (f1 : fs1[0]? = some (.ref (ad (4, 0)))) (h7 : C (7, A) = some (.inr (3, fs7))) (f7 : fs7[2]? = some (.ref (ad (10, p)))) (h10 : C (10, p) = some (.inr (9, fs10))) (f10 : fs10[3]? = some (.ref (ad (11, p)))) {m m' : Int32} {l l' : List Nat} (hL : hasL z C ad 4 0 m l 7) (hL' : hasL z C ad 11 p m' l' 7) (hl : l.length ≤ 20) (hl' : l'.length ≤ 20) (hO : ∀ x, x ∈ l → ∃ ci fs, C (7, x) = some (.inr (ci, fs))) (hO' : ∀ x, x ∈ l' → ∃ ci fs, C (7, x) = some (.inr (ci, fs))) {b el : Nat} (hb : ad (1, 0) = b) (hel : ad (7, A) = el) {Q : Unit → jM → Prop}
    (w : ∀ C' ad' nm' μ0', gOk C' ad' nm' → nxt nm μ0 nm' μ0' → (∀ x, x ≠ (5, 0) → x ≠ (12, p) → ad' x = ad x) → hasL z C' ad' 4 0 (m + 1) (l ++ [A]) 7 → hasL z C' ad' 11 p (m' + 1) (l' ++ [A]) 7 → (∀ x, x ≠ (4, 0) → x ≠ (5, 0) → x ≠ (11, p) → x ≠ (12, p) → C' x = C x) → Q () (gM C' nm' μ0')) : wX3_enter z b (some el) (gM C nm μ0) Q := by
  have dd : ∀ {a c a' c' : Nat}, a ≠ a' → ((a, c) : Nat × Nat) ≠ (a', c') := fun g v => g (Prod.mk.inj v).1
  unfold wX3_enter wX3_enter_0
  rw [← hb]
  refine ⟨some (ad (4, 0)), (g_jg h h1 0).trans f1, _, ⟨rfl, g_here h hL.1⟩, ?_⟩
  refine g_app h hzn hz0 hL hl (by decide) (by decide) hO rfl hel ⟨_, _, h7⟩ (fun C1 ad1 nm1 μ1 k1 k2 k3 k4 k5 => ?_)
  obtain ⟨zn1, z01⟩ := z_nxt k2 hzn hz0
  have e7 : C1 (7, A) = some (.inr (3, fs7)) := (k5 _ (dd (by decide)) (dd (by decide))).trans h7
  have e10 : C1 (10, p) = some (.inr (9, fs10)) := (k5 _ (dd (by decide)) (dd (by decide))).trans h10
  have a7 : ad1 (7, A) = el := (k3 _ (dd (by decide))).trans hel
  have a10 : ad1 (10, p) = ad (10, p) := k3 _ (dd (by decide))
  have a11 : ad1 (11, p) = ad (11, p) := k3 _ (dd (by decide))
  have hL1 : hasL z C1 ad1 11 p m' l' 7 := has_tr hL' (k5 _ (dd (by decide)) (dd (by decide))) (k5 _ (dd (by decide)) (dd (by decide))) (k3 _ (dd (by decide))) (fun x _ => k3 _ (dd (by decide)))
  rw [← a7]
  refine ⟨some (ad (10, p)), (g_jg k1 e7 2).trans f7, some (ad (11, p)), ?_, ad (11, p), ⟨rfl, ?_⟩, ?_⟩
  · rw [← a10]
    exact (g_jg k1 e10 3).trans f10
  · rw [← a11]
    exact g_here k1 hL1.1
  · refine g_app k1 zn1 z01 hL1 hl' (by decide) (by decide) (fun x hx => ?_) a11 rfl ⟨_, _, e7⟩ (fun C2 ad2 nm2 μ2 j1 j2 j3 j4 j5 => ?_)
    · obtain ⟨ci, fs, o⟩ := hO' x hx
      exact ⟨ci, fs, (k5 _ (dd (by decide)) (dd (by decide))).trans o⟩
    · refine w C2 ad2 nm2 μ2 j1 (nxt_tr k2 j2) (fun x x1 x2 => (j3 x x2).trans (k3 x x1)) ?_ j4 (fun x x1 x2 x3 x4 => (j5 x x3 x4).trans (k5 x x1 x2))
      exact has_tr k4 (j5 _ (dd (by decide)) (dd (by decide))) (j5 _ (dd (by decide)) (dd (by decide))) (j3 _ (dd (by decide))) (fun x _ => j3 _ (dd (by decide)))
/-- scratch with account A, child of i in pool p -/
def acK (K : Nat → Nat → Int64) (A : Nat) : Nat → Nat → Int64 := fun a b => if (a = 0 ∨ a = 1) ∧ b = A then 0 else K a b
def ack (k : Nat → Nat → Int32) (A i p : Nat) : Nat → Nat → Int32 := fun a b => if a = 14 ∧ b = 0 then k 14 0 + 1 else if a = 18 ∧ b = i then k 18 i + 1 else if a = 18 ∧ b = A then 0 else if a = 21 ∧ b = p then k 21 p + 1 else k a b
theorem c_openAccount (h : cE ad nm A L F I) (hzn : nm z.1 = (100, 0)) (hz0 : μ0 z.1 = some jZ0) (hA : A < 10) (y1 : y A = 0) (y2 : y (50 + A) = 0) (y3 : y (30 + A) = 0) (y4 : y (40 + A) = 0) (i6 : I 6 A = 0) (i7 : I 7 A = 0) (i8 : I 8 A = 0) {i B : Nat} (hi : i < A) (hB : B < 4) {Q : Int32 → jM → Prop}
    (q : ∀ ad' nm' μ0' k', cE ad' nm' (A + 1) L F (addI A (nI i) (I 4 i) (nI B) 0 0 I) → nxt nm μ0 nm' μ0' → ad' (0, 0) = ad (0, 0) → Q (nI A) (cM z ad' nm' (A + 1) L F (addI A (nI i) (I 4 i) (nI B) 0 0 I) y (acK K A) k' μ0')) : wX3_openAccount z (ad (1, 0)) (some (ad (7, i))) (some (ad (6, B))) (cM z ad nm A L F I y K k μ0) Q := by
  have hn := h.2
  have G : gOk (cC z ad A L F I y K k) ad nm := cOk_gOk.mp h.1
  have p := tI I i
  have tp := hn.top i hi
  have hl40 : clv A I 4 0 := Or.inl ⟨rfl, by decide⟩
  have hl8 : clv A I 8 i := Or.inr (Or.inl ⟨rfl, hi⟩)
  have hl11 : clv A I 11 (tI I i) := Or.inr (Or.inr (Or.inl ⟨rfl, tp⟩))
  have n40 : (clist A L F I 4 0).length = A := List.length_range
  unfold wX3_openAccount wX3_openAccount_0
  refine ⟨_, cg1_0 h.1, _, ⟨rfl, c_lh h hl40⟩, c_size h hl40 ?_⟩
  rw [n40, cM_gM]
  intro q5 hq5
  have x7 : cC z ad A L F I y K k (7, A) = none := if_neg (by omega)
  have x8 : cC z ad A L F I y K k (8, A) = none := if_neg (by omega)
  obtain ⟨g1, g2, g3⟩ := g_new (e := (.inr (3, jfX0) : jE)) G hq5 x7 (fun v => absurd (Prod.mk.inj v).1 (by decide))
  rw [g1]
  have c7i : upC (cC z ad A L F I y K k) (7, A) (.inr (3, jfX0)) (7, i) = some (.inr (3, cf7 ad A I y K i)) := by
    rw [upC_no (fun v => by have := (Prod.mk.inj v).2; omega)]
    exact cC7 hi
  have a7i : ad (7, i) = upA ad (7, A) q5 (7, i) := (upA_no (fun v => by have := (Prod.mk.inj v).2; omega)).symm
  have gp := g_jg (μ0 := μ0) g2 c7i 2
  rw [← a7i] at gp
  refine ⟨some (ad (10, tI I i)), gp, ?_⟩
  unfold wX0_init wX0_init_0
  intro q1 hq1
  have x8' : upC (cC z ad A L F I y K k) (7, A) (.inr (3, jfX0)) (8, A) = none := by
    rw [upC_no (fun v => absurd (Prod.mk.inj v).1 (by decide))]
    exact x8
  refine g_list g2 hq1 x8' (fun v => absurd (Prod.mk.inj v).1 (by decide)) (fun g4 g5 => ?_)
  have n78 : ((7, A) : Nat × Nat) ≠ (8, A) := fun v => absurd (Prod.mk.inj v).1 (by decide)
  rw [upC_comm n78] at g4 ⊢
  have hq7 : upA (upA ad (7, A) q5) (8, A) q1 (7, A) = q5 := by rw [upA_no n78, upA_at]
  obtain ⟨p0, g4⟩ := g_fld (v := va_rf (some q1)) (μ0 := μ0) g4 hq7 (show 4 < 12 by decide)
  obtain ⟨p1, g4⟩ := g_fld (v := .int (nI A)) (μ0 := μ0) g4 hq7 (show 0 < 12 by decide)
  obtain ⟨p2, g4⟩ := g_fld (v := va_rf (some (ad (7, i)))) (μ0 := μ0) g4 hq7 (show 1 < 12 by decide)
  obtain ⟨p3, g4⟩ := g_fld (v := va_rf (some (ad (10, tI I i)))) (μ0 := μ0) g4 hq7 (show 2 < 12 by decide)
  obtain ⟨p4, g4⟩ := g_fld (v := va_rf (some (ad (6, B)))) (μ0 := μ0) g4 hq7 (show 3 < 12 by decide)
  refine ⟨_, p0, _, p1, _, p2, _, p3, _, p4, ?_⟩
  clear p0 p1 p2 p3 p4 gp
  change gOk (upC (upC (cC z ad A L F I y K k) (8, A) (.inr (2, [.int 0, .ref z.1, .int 0]))) (7, A) (.inr (3, [.int (nI A), .ref (ad (7, i)), .ref (ad (10, tI I i)), .ref (ad (6, B)), .ref q1, .int 0, .int 0, .int 0, .long 0, .long 0, .long 0, .long 0]))) _ _ at g4
  change ∃ v9 : Option Nat, jg (gM (upC (upC (cC z ad A L F I y K k) (8, A) (.inr (2, [.int 0, .ref z.1, .int 0]))) (7, A) (.inr (3, [.int (nI A), .ref (ad (7, i)), .ref (ad (10, tI I i)), .ref (ad (6, B)), .ref q1, .int 0, .int 0, .int 0, .long 0, .long 0, .long 0, .long 0]))) (upN (upN nm q5 (7, A)) q1 (8, A)) μ0) (some (ad (7, i))) 3 4 = some (va_rf v9) ∧ (∃ b12 : Nat, (v9 = some b12 ∧ ∃ fs, gM (upC (upC (cC z ad A L F I y K k) (8, A) (.inr (2, [.int 0, .ref z.1, .int 0]))) (7, A) (.inr (3, [.int (nI A), .ref (ad (7, i)), .ref (ad (10, tI I i)), .ref (ad (6, B)), .ref q1, .int 0, .int 0, .int 0, .long 0, .long 0, .long 0, .long 0]))) (upN (upN nm q5 (7, A)) q1 (8, A)) μ0 b12 = some (.inr (2, fs))) ∧ wJx4a65c_add_9ea2d z b12 (some q5) (gM (upC (upC (cC z ad A L F I y K k) (8, A) (.inr (2, [.int 0, .ref z.1, .int 0]))) (7, A) (.inr (3, [.int (nI A), .ref (ad (7, i)), .ref (ad (10, tI I i)), .ref (ad (6, B)), .ref q1, .int 0, .int 0, .int 0, .long 0, .long 0, .long 0, .long 0]))) (upN (upN nm q5 (7, A)) q1 (8, A)) μ0) _)
  generalize hC3 : upC (upC (cC z ad A L F I y K k) (8, A) (.inr (2, [.int 0, .ref z.1, .int 0]))) (7, A) (.inr (3, [.int (nI A), .ref (ad (7, i)), .ref (ad (10, tI I i)), .ref (ad (6, B)), .ref q1, .int 0, .int 0, .int 0, .long 0, .long 0, .long 0, .long 0])) = C3 at g4 ⊢
  have c7 : C3 (7, A) = some (.inr (3, [.int (nI A), .ref (ad (7, i)), .ref (ad (10, tI I i)), .ref (ad (6, B)), .ref q1, .int 0, .int 0, .int 0, .long 0, .long 0, .long 0, .long 0])) := by rw [← hC3]; exact upC_at
  have c8 : C3 (8, A) = some (.inr (2, [.int 0, .ref z.1, .int 0])) := by rw [← hC3, upC_no (Ne.symm n78)]; exact upC_at
  have cx : ∀ w, w ≠ (7, A) → w ≠ (8, A) → C3 w = cC z ad A L F I y K k w := fun w w1 w2 => by rw [← hC3, upC_no w1, upC_no w2]
  have ax : ∀ w, w ≠ (7, A) → w ≠ (8, A) → upA (upA ad (7, A) q5) (8, A) q1 w = ad w := fun w w1 w2 => by rw [upA_no w2, upA_no w1]
  have aq1 : upA (upA ad (7, A) q5) (8, A) q1 (8, A) = q1 := upA_at
  have nx := nxt_tr g3 g5
  generalize upA (upA ad (7, A) q5) (8, A) q1 = ad2 at g4 hq7 ax aq1
  generalize upN (upN nm q5 (7, A)) q1 (8, A) = nm2 at g4 nx ⊢
  clear hC3 g1 g2 g3 g5 c7i a7i hq5 hq1 x8'
  obtain ⟨zn2, -⟩ := z_nxt nx hzn hz0
  have dd : ∀ {a c a' c' : Nat}, a ≠ a' → ((a, c) : Nat × Nat) ≠ (a', c') := fun g v => g (Prod.mk.inj v).1
  have d2 : ∀ {a c c' : Nat}, c ≠ c' → ((a, c) : Nat × Nat) ≠ (a, c') := fun g v => g (Prod.mk.inj v).2
  have c7x : ∀ {x}, x < A → ∃ ci fs, C3 (7, x) = some (.inr (ci, fs)) := fun hx => ⟨_, _, (cx _ (d2 (by omega)) (dd (by decide))).trans (cC7 hx)⟩
  have c7i : C3 (7, i) = some (.inr (3, cf7 ad A I y K i)) := (cx _ (d2 (by omega)) (dd (by decide))).trans (cC7 hi)
  have a7i : ad2 (7, i) = ad (7, i) := ax _ (d2 (by omega)) (dd (by decide))
  have a8i : ad2 (8, i) = ad (8, i) := ax _ (dd (by decide)) (d2 (by omega))
  have hL8 : hasL z C3 ad2 8 i (k 18 i) (ckids A I i) 7 := has_tr (ls_has hl8) (cx _ (dd (by decide)) (d2 (by omega))) (cx _ (dd (by decide)) (dd (by decide))) (ax _ (dd (by decide)) (dd (by decide))) (fun x hx => ax _ (d2 (by have := (mem_kidsF.mp hx).1; omega)) (dd (by decide)))
  have gp := g_jg (μ0 := μ0) g4 c7i 4
  rw [a7i] at gp
  have h8 := g_here (μ0 := μ0) g4 hL8.1
  rw [a8i] at h8
  refine ⟨some (ad (8, i)), gp, _, ⟨rfl, h8⟩, ?_⟩
  have len8 : (ckids A I i).length ≤ 20 := clist_len (q := 8) (j := i) hn
  refine g_app g4 zn2 hz0 hL8 len8 (by decide) (by decide) (fun x hx => c7x (mem_kidsF.mp hx).1) a8i hq7 ⟨_, _, c7⟩ (fun C4 ad4 nm4 μ4 k1 k2 k3 k4 k5 => ?_)
  obtain ⟨zn4, z04⟩ := z_nxt k2 zn2 hz0
  have e1 : C4 (1, 0) = some (.inr (6, cf1 ad y k)) := (k5 _ (dd (by decide)) (dd (by decide))).trans ((cx _ (dd (by decide)) (dd (by decide))).trans cC1)
  have e10 : C4 (10, tI I i) = some (.inr (9, cf10 ad (tI I i))) := (k5 _ (dd (by decide)) (dd (by decide))).trans ((cx _ (dd (by decide)) (dd (by decide))).trans (cC10 tp))
  have e7 : C4 (7, A) = _ := (k5 _ (dd (by decide)) (dd (by decide))).trans c7
  have b4 : ∀ w, w ≠ (7, A) → w ≠ (8, A) → w ≠ (9, i) → ad4 w = ad w := fun w w1 w2 w3 => (k3 w w3).trans (ax w w1 w2)
  have d4 : ∀ w, w ≠ (7, A) → w ≠ (8, A) → w ≠ (8, i) → w ≠ (9, i) → C4 w = cC z ad A L F I y K k w := fun w w1 w2 w3 w4 => (k5 w w3 w4).trans (cx w w1 w2)
  have a1 : ad4 (1, 0) = ad (1, 0) := b4 _ (dd (by decide)) (dd (by decide)) (dd (by decide))
  have hL4 : hasL z C4 ad4 4 0 (k 14 0) (List.range A) 7 := has_tr (ls_has hl40) (d4 _ (dd (by decide)) (dd (by decide)) (dd (by decide)) (dd (by decide))) (d4 _ (dd (by decide)) (dd (by decide)) (dd (by decide)) (dd (by decide))) (b4 _ (dd (by decide)) (dd (by decide)) (dd (by decide))) (fun x hx => b4 _ (d2 (by have := List.mem_range.mp hx; omega)) (dd (by decide)) (dd (by decide)))
  have hL11 : hasL z C4 ad4 11 (tI I i) (k 21 (tI I i)) (cmem A I (tI I i)) 7 := has_tr (ls_has hl11) (d4 _ (dd (by decide)) (dd (by decide)) (dd (by decide)) (dd (by decide))) (d4 _ (dd (by decide)) (dd (by decide)) (dd (by decide)) (dd (by decide))) (b4 _ (dd (by decide)) (dd (by decide)) (dd (by decide))) (fun x hx => b4 _ (d2 (by have := (mem_cmem.mp hx).1; omega)) (dd (by decide)) (dd (by decide)))
  have c47 : ∀ {x}, x < A → ∃ ci fs, C4 (7, x) = some (.inr (ci, fs)) := fun hx => by
    obtain ⟨ci, fs, o⟩ := c7x hx
    exact ⟨ci, fs, (k5 _ (dd (by decide)) (dd (by decide))).trans o⟩
  refine ⟨by rw [← a1]; exact g_here k1 e1, ?_⟩
  have len40 : (List.range A).length ≤ 20 := by rw [List.length_range]; omega
  have len11 : (cmem A I (tI I i)).length ≤ 20 := clist_len (q := 11) (j := tI I i) hn
  refine g_enter k1 zn4 z04 e1 ?_ e7 ?_ e10 ?_ hL4 hL11 len40 len11 (fun x hx => c47 (List.mem_range.mp hx)) (fun x hx => c47 (mem_cmem.mp hx).1) a1 ((k3 _ (dd (by decide))).trans hq7) (fun C6 ad6 nm6 μ6 j1 j2 j3 j4 j5 j6 => ?_)
  · show some (Value.ref (ad (4, 0))) = _
    rw [b4 (4, 0) (dd (by decide)) (dd (by decide)) (dd (by decide))]
  · show some (Value.ref (ad (10, tI I i))) = _
    rw [b4 (10, tI I i) (dd (by decide)) (dd (by decide)) (dd (by decide))]
  · show some (Value.ref (ad (11, tI I i))) = _
    rw [b4 (11, tI I i) (dd (by decide)) (dd (by decide)) (dd (by decide))]
  have aA : aI A I (addI A (nI i) (I 4 i) (nI B) 0 0 I) := aI_add
  obtain ⟨r3, r4, r5, -, -⟩ := addI_at (A := A) (I := I) (pr := nI i) (tp := I 4 i) (bk := nI B) (cr := 0) (db := 0)
  have q' := q ad6 nm6 μ6
  clear q
  generalize addI A (nI i) (I 4 i) (nI B) 0 0 I = I' at aA r3 r4 r5 q'
  have hne : ¬ I' 3 A = -1 := fun e => by have := nI_pos (n := i) (by omega); rw [← r3, e] at this; exact this (by decide)
  have hn' : cEn (A + 1) L F I' := cEn_A hn hA aA (Or.inr ⟨i, hi, r3, r4⟩) (fun e => absurd e hne) ⟨B, hB, r5⟩ i6
  have ep : pI I' A = i := by unfold pI; rw [r3]; exact nI_clamp (by omega)
  have ec : cpar (A + 1) I' A = some i := by unfold cpar; rw [if_pos ⟨by omega, hne⟩, ep]
  have et : tI I' A = tI I i := by unfold tI; rw [r4]
  have eb : bI I' A = B := by unfold bI; rw [r5]; exact nI_clamp (by omega)
  have hp3 : ∀ x, cisp (A + 1) I' x ↔ cisp A I x := fun x => by
    by_cases e : x = A
    · rw [e]; exact ⟨fun v => absurd v.2 hne, fun v => by have := v.1; omega⟩
    · unfold cisp
      rw [aA.1 3 x e]
      exact ⟨fun v => ⟨by have := v.1; omega, v.2⟩, fun v => ⟨by have := v.1; omega, v.2⟩⟩
  have b6 : ∀ w, w ≠ (7, A) → w ≠ (8, A) → w ≠ (9, i) → w ≠ (5, 0) → w ≠ (12, tI I i) → ad6 w = ad w := fun w w1 w2 w3 w4 w5 => (j3 w w4 w5).trans (b4 w w1 w2 w3)
  have d6 : ∀ w, w ≠ (7, A) → w ≠ (8, A) → w ≠ (8, i) → w ≠ (9, i) → w ≠ (4, 0) → w ≠ (5, 0) → w ≠ (11, tI I i) → w ≠ (12, tI I i) → C6 w = cC z ad A L F I y K k w := fun w w1 w2 w3 w4 w5 w6 w7 w8 => (j6 w w5 w6 w7 w8).trans (d4 w w1 w2 w3 w4)
  have a67 : ad6 (7, A) = q5 := (j3 _ (dd (by decide)) (dd (by decide))).trans ((k3 _ (dd (by decide))).trans hq7)
  have a68 : ad6 (8, A) = q1 := (j3 _ (dd (by decide)) (dd (by decide))).trans ((k3 _ (dd (by decide))).trans aq1)
  have kk1 : ack k A i (tI I i) 18 i = k 18 i + 1 := by unfold ack; rw [if_neg (by omega), if_pos ⟨rfl, rfl⟩]
  have kk2 : ack k A i (tI I i) 14 0 = k 14 0 + 1 := by unfold ack; rw [if_pos ⟨rfl, rfl⟩]
  have kk3 : ack k A i (tI I i) 21 (tI I i) = k 21 (tI I i) + 1 := by unfold ack; rw [if_neg (by omega), if_neg (by omega), if_neg (by omega), if_pos ⟨rfl, rfl⟩]
  have kk4 : ack k A i (tI I i) 18 A = 0 := by unfold ack; rw [if_neg (by omega), if_neg (by omega), if_pos ⟨rfl, rfl⟩]
  have l8 : clist (A + 1) L F I' 8 i = ckids A I i ++ [A] := by
    show ckids (A + 1) I' i = _
    rw [kids_A aA, if_pos ec]
  have l4 : clist (A + 1) L F I' 4 0 = List.range A ++ [A] := List.range_succ
  have l11 : clist (A + 1) L F I' 11 (tI I i) = cmem A I (tI I i) ++ [A] := by
    show cmem (A + 1) I' (tI I i) = _
    rw [mem_A aA, if_pos et]
  have l8A : clist (A + 1) L F I' 8 A = [] := by
    show ckids (A + 1) I' A = _
    rw [kids_A aA, kids_no hn, ec, if_neg (fun v => by have := Option.some.inj v; omega)]
    rfl
  have H8 : hasL z C6 ad6 8 i (k 18 i + 1) (ckids A I i ++ [A]) 7 := has_tr k4 (j6 _ (dd (by decide)) (dd (by decide)) (dd (by decide)) (dd (by decide))) (j6 _ (dd (by decide)) (dd (by decide)) (dd (by decide)) (dd (by decide))) (j3 _ (dd (by decide)) (dd (by decide))) (fun x _ => j3 _ (dd (by decide)) (dd (by decide)))
  have N8 : hasL z (cC z ad6 (A + 1) L F I' y (acK K A) (ack k A i (tI I i))) ad6 8 i (k 18 i + 1) (ckids A I i ++ [A]) 7 := by
    have w := ls_has (z := z) (ad := ad6) (L := L) (F := F) (y := y) (K := acK K A) (k := ack k A i (tI I i)) (show clv (A + 1) I' 8 i from Or.inr (Or.inl ⟨rfl, by omega⟩))
    rw [l8, show ack k A i (tI I i) (10 + 8) i = k 18 i + 1 from kk1] at w
    exact w
  have N4 : hasL z (cC z ad6 (A + 1) L F I' y (acK K A) (ack k A i (tI I i))) ad6 4 0 (k 14 0 + 1) (List.range A ++ [A]) 7 := by
    have w := ls_has (z := z) (ad := ad6) (L := L) (F := F) (y := y) (K := acK K A) (k := ack k A i (tI I i)) (show clv (A + 1) I' 4 0 from Or.inl ⟨rfl, by decide⟩)
    rw [l4, show ack k A i (tI I i) (10 + 4) 0 = k 14 0 + 1 from kk2] at w
    exact w
  have N11 : hasL z (cC z ad6 (A + 1) L F I' y (acK K A) (ack k A i (tI I i))) ad6 11 (tI I i) (k 21 (tI I i) + 1) (cmem A I (tI I i) ++ [A]) 7 := by
    have w := ls_has (z := z) (ad := ad6) (L := L) (F := F) (y := y) (K := acK K A) (k := ack k A i (tI I i)) (show clv (A + 1) I' 11 (tI I i) from Or.inr (Or.inr (Or.inl ⟨rfl, (hp3 _).mpr tp⟩)))
    rw [l11, show ack k A i (tI I i) (10 + 11) (tI I i) = k 21 (tI I i) + 1 from kk3] at w
    exact w
  have eC : C6 = cC z ad6 (A + 1) L F I' y (acK K A) (ack k A i (tI I i)) := by
    funext w
    by_cases w3 : w = (8, i)
    · rw [w3]; exact (has_eq H8 N8).1
    by_cases w4 : w = (9, i)
    · rw [w4]; exact (has_eq H8 N8).2
    by_cases w5 : w = (4, 0)
    · rw [w5]; exact (has_eq j4 N4).1
    by_cases w6 : w = (5, 0)
    · rw [w6]; exact (has_eq j4 N4).2
    by_cases w7 : w = (11, tI I i)
    · rw [w7]; exact (has_eq j5 N11).1
    by_cases w8 : w = (12, tI I i)
    · rw [w8]; exact (has_eq j5 N11).2
    by_cases w1 : w = (7, A)
    · rw [w1, j6 _ (dd (by decide)) (dd (by decide)) (dd (by decide)) (dd (by decide)), e7, cC7 (show A < A + 1 by omega)]
      have v1 : acK K A 0 A = 0 := by unfold acK; rw [if_pos ⟨Or.inl rfl, rfl⟩]
      have v2 : acK K A 1 A = 0 := by unfold acK; rw [if_pos ⟨Or.inr rfl, rfl⟩]
      have s6 : I' 6 A = 0 := by rw [aA.2 6 (by decide) (by decide) (by decide) (by decide) (by decide)]; exact i6
      have s7 : I' 7 A = 0 := by rw [aA.2 7 (by decide) (by decide) (by decide) (by decide) (by decide)]; exact i7
      have s8 : I' 8 A = 0 := by rw [aA.2 8 (by decide) (by decide) (by decide) (by decide) (by decide)]; exact i8
      unfold cf7
      rw [ec, et, eb, a68, s6, s7, s8, y1, y2, v1, v2, b6 (10, tI I i) (dd (by decide)) (dd (by decide)) (dd (by decide)) (dd (by decide)) (dd (by decide)), b6 (6, B) (dd (by decide)) (dd (by decide)) (dd (by decide)) (dd (by decide)) (dd (by decide))]
      show _ = some (Sum.inr (3, [Value.int (nI A), va_rf (some (ad6 (7, i))), _, _, _, _, _, _, _, _, _, _]))
      rw [b6 (7, i) (d2 (by omega)) (dd (by decide)) (dd (by decide)) (dd (by decide)) (dd (by decide))]
      rfl
    by_cases w2 : w = (8, A)
    · have o := ls_o (z := z) (ad := ad6) (L := L) (F := F) (y := y) (K := acK K A) (k := ack k A i (tI I i)) (show clv (A + 1) I' 8 A from Or.inr (Or.inl ⟨rfl, by omega⟩))
      rw [l8A, show ack k A i (tI I i) (10 + 8) A = 0 from kk4] at o
      rw [w2, o, j6 _ (dd (by decide)) (dd (by decide)) (dd (by decide)) (dd (by decide)), k5 _ (d2 (by omega)) (dd (by decide)), c8]
      rfl
    rw [d6 w w1 w2 w3 w4 w5 w6 w7 w8]
    rw [cC_A hn aA y3 y4 w1 w2 (k := k) (fun q j hq hw => clist_A aA hq (fun g => ?_) (fun _ => hne) (fun g v => ?_) (fun g v => ?_)) (fun _ _ => hp3 _) (fun _ _ => hp3 _) (fun a b hr => ?_)]
    · rw [cC_cong (zz := y) (zz' := y) (K := K) (K' := acK K A) (k := k) (k' := k) (fun _ _ => rfl) (fun a b hr => ?_) (fun _ _ _ => rfl)]
      · refine (cC_ad hn (fun v hv ha => b6 v (fun g => ?_) (fun g => ?_) (fun g => ?_) (fun g => ?_) (fun g => ?_))).symm
        · obtain ⟨o, ho⟩ := (cLv_iff (z := z) (ad := ad) (zz := y) (K := K) (k := k)).mp hv
          rw [g, x7] at ho; cases ho
        · obtain ⟨o, ho⟩ := (cLv_iff (z := z) (ad := ad) (zz := y) (K := K) (k := k)).mp hv
          rw [g, x8] at ho; cases ho
        · rw [g] at ha; exact w3 (ha (Or.inr (Or.inl rfl)))
        · rw [g] at ha; exact w5 (ha (Or.inl rfl))
        · rw [g] at ha; exact w7 (ha (Or.inr (Or.inr (Or.inl rfl))))
      · unfold acK
        refine if_neg (fun v => w1 ?_)
        obtain ⟨wq, wj⟩ := w
        simp only [rdK] at hr
        exact pr_eq (by omega) (by omega)
    · rcases hw with hw | hw
      · exact w5 (hw.trans g)
      · have := Prod.mk.inj g
        exact w6 (by rw [hw, this.1, this.2])
    · have ej : i = j := Option.some.inj (ec.symm.trans v)
      rcases hw with hw | hw
      · exact w3 (by rw [hw, g, ej])
      · exact w4 (by rw [hw, g, ej])
    · have ej : tI I i = j := et.symm.trans v
      rcases hw with hw | hw
      · exact w7 (by rw [hw, g, ej])
      · exact w8 (by rw [hw, g, ej])
    · obtain ⟨wq, wj⟩ := w
      have n1 : ¬ (wq = 4 ∧ wj = 0) := fun v => w5 (by rw [v.1, v.2])
      have n2 : ¬ (wq = 8 ∧ wj = i) := fun v => w3 (by rw [v.1, v.2])
      have n3 : ¬ (wq = 8 ∧ wj = A) := fun v => w2 (by rw [v.1, v.2])
      have n4 : ¬ (wq = 11 ∧ wj = tI I i) := fun v => w7 (by rw [v.1, v.2])
      simp only [rdk] at hr
      unfold ack
      rw [if_neg (by omega), if_neg (by omega), if_neg (by omega), if_neg (by omega)]
  have hc' : cE ad6 nm6 (A + 1) L F I' := by
    refine ⟨(cOk_gOk (z := z) (y := y) (K := acK K A) (k := ack k A i (tI I i))).mpr ?_, hn'⟩
    rw [← eC]
    exact j1
  rw [eC, ← cM_gM]
  exact q' _ hc' (nxt_tr nx (nxt_tr k2 j2)) (b6 _ (dd (by decide)) (dd (by decide)) (dd (by decide)) (dd (by decide)) (dd (by decide)))
end AC
