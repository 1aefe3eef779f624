/-! ===== a pool more, the class's side ===== -/
section AP2
variable {z : Nat × Nat} {ad : Nat × Nat → Nat} {nm : Nat → Nat × Nat} {A L F : Nat} {I I' : Nat → Nat → Int32} {K : Nat → Nat → Int64} {k : Nat → Nat → Int32} {μ0 : jM} {y : Nat → Int64}
/-- scratch with pool A -/
def apK (K : Nat → Nat → Int64) (A : Nat) : Nat → Nat → Int64 := fun a b => if (a = 0 ∨ a = 1) ∧ b = A then 0 else if (a = 2 ∨ a = 3 ∨ a = 4) ∧ b / 2 = A then 0 else if a = 100 + 2 * A ∨ a = 101 + 2 * A ∨ a = 200 + 2 * A ∨ a = 201 + 2 * A ∨ a = 300 + 2 * A ∨ a = 301 + 2 * A then 0 else K a b
def apk (k : Nat → Nat → Int32) (A : Nat) : Nat → Nat → Int32 := fun a b => if a = 14 ∧ (b = 0 ∨ b = 1) then k 14 b + 1 else if (a = 18 ∨ a = 23) ∧ b = A then 0 else if a = 21 ∧ b = A then 1 else k a b
theorem c_openPool (h : cE ad nm A L F I) (hzn : nm z.1 = (100, 0)) (hz0 : μ0 z.1 = some jZ0) (hA : A < 10) (hf : fresh A I y) {B : Nat} (hB : B < 4) {x2 x3 : Int32} {Q : Int32 → jM → Prop}
    (q : ∀ ad' nm' μ0' k', cE ad' nm' (A + 1) L F (addI A (-1) (nI A) (nI B) x2 x3 I) → nxt nm μ0 nm' μ0' → ad' (0, 0) = ad (0, 0) → Q (nI A) (cM z ad' nm' (A + 1) L F (addI A (-1) (nI A) (nI B) x2 x3 I) y (apK K A) k' μ0')) : wX3_openPool z (ad (1, 0)) (some (ad (6, B))) x2 x3 (cM z ad nm A L F I y K k μ0) Q := by
  obtain ⟨y1, y2, y3, y4, y5, y6, y7, i6, i7, i8⟩ := hf
  have hn := h.2
  have G : gOk (cC z ad A L F I y K k) ad nm := cOk_gOk.mp h.1
  have hl40 : clv A I 4 0 := Or.inl ⟨rfl, by decide⟩
  have hl41 : clv A I 4 1 := Or.inl ⟨rfl, by decide⟩
  have n40 : (clist A L F I 4 0).length = A := List.length_range
  have dd : ∀ {a c a' c' : Nat}, a ≠ a' → ((a, c) : Nat × Nat) ≠ (a', c') := fun g v => g (Prod.mk.inj v).1
  have d2 : ∀ {a c c' : Nat}, c ≠ c' → ((a, c) : Nat × Nat) ≠ (a, c') := fun g v => g (Prod.mk.inj v).2
  have nt : ¬ cisp A I A := fun v => by have := v.1; omega
  have nts : ∀ s, s / 2 = A → ¬ cisp A I (s / 2) := fun s e v => by have := v.1; omega
  have x7 : cC z ad A L F I y K k (7, A) = none := if_neg (by omega)
  have x8 : cC z ad A L F I y K k (8, A) = none := if_neg (by omega)
  have x10 : cC z ad A L F I y K k (10, A) = none := if_neg nt
  have x11 : cC z ad A L F I y K k (11, A) = none := if_neg nt
  have x12 : cC z ad A L F I y K k (12, A) = none := if_neg (fun v => nt v.1)
  have x13 : cC z ad A L F I y K k (13, A) = none := if_neg nt
  have x14 : cC z ad A L F I y K k (14, A) = none := if_neg (fun v => nt v.1)
  have xs : ∀ q s, 15 ≤ q → q ≤ 19 → s / 2 = A → cC z ad A L F I y K k (q, s) = none := fun q s q1 q2 e => by
    have : q = 15 ∨ q = 16 ∨ q = 17 ∨ q = 18 ∨ q = 19 := by omega
    rcases this with rfl | rfl | rfl | rfl | rfl <;> exact if_neg (nts s e)
  unfold wX3_openPool wX3_openPool_0
  refine ⟨_, cg1_0 h.1, _, ⟨rfl, c_lh h hl40⟩, c_size h hl40 ?_⟩
  rw [n40, cM_gM]
  intro q5 hq5
  refine g_pool G x10 x11 x13 xs hq5 (fun C1 ad1 nm1 t1 t2 t3 t4 t5 t6 t7 t8 t9 => ?_)
  have u9 : ∀ {a b : Nat}, a ≠ 10 → a ≠ 11 → a ≠ 13 → (a < 15 ∨ 19 < a) → C1 (a, b) = cC z ad A L F I y K k (a, b) := fun h1 h2 h3 h4 => t9 _ (dd h1) (dd h2) (dd h3) (fun v1 v2 => by have v1 : 15 ≤ _ := v1; have v2 : _ ≤ 19 := v2; omega)
  have u4 : ∀ {a b : Nat}, a ≠ 10 → a ≠ 11 → a ≠ 13 → (a < 15 ∨ 19 < a) → ad1 (a, b) = ad (a, b) := fun h1 h2 h3 h4 => t4 _ (dd h1) (dd h2) (dd h3) (fun v1 v2 => by have v1 : 15 ≤ _ := v1; have v2 : _ ≤ 19 := v2; omega)
  intro q8 hq8
  obtain ⟨g1, g2, g3⟩ := g_new (e := (.inr (3, jfX0) : jE)) t1 hq8 ((u9 (by decide) (by decide) (by decide) (by decide)).trans x7) (dd (by decide))
  rw [g1]
  have a7 : upA ad1 (7, A) q8 (7, A) = q8 := upA_at
  have ax : ∀ w, w ≠ (7, A) → upA ad1 (7, A) q8 w = ad1 w := fun w hw => upA_no hw
  have o1 : upC C1 (7, A) (.inr (3, jfX0)) (7, A) = some (.inr (3, [.int 0, .null, .null, .null, .null, .int 0, .int 0, .int 0, .long 0, .long 0, .long 0, .long 0])) := upC_at
  have n1 : ∀ w, w ≠ (7, A) → upC C1 (7, A) (.inr (3, jfX0)) w = C1 w := fun w hw => upC_no hw
  generalize upC C1 (7, A) (.inr (3, jfX0)) = C2 at g2 o1 n1 ⊢
  generalize upA ad1 (7, A) q8 = ad2 at g2 a7 ax
  generalize upN nm1 q8 (7, A) = nm2 at g2 g3 ⊢
  unfold wX0_init wX0_init_0
  refine g_mkl g2 o1 a7 (show 4 < 12 by decide) ((n1 _ (dd (by decide))).trans ((u9 (by decide) (by decide) (by decide) (by decide)).trans x8)) (dd (by decide)) (fun C3 ad3 nm3 q1 k1 k2 k3 k4 k5 k6 k7 => ?_)
  have a37 : ad3 (7, A) = q8 := (k4 _ (dd (by decide))).trans a7
  refine g_wr k1 k5 a37 (show 0 < 12 by decide) (fun C4 m1 m2 m3 => ?_)
  refine g_wr m1 m2 a37 (show 1 < 12 by decide) (fun C5 p1 p2 p3 => ?_)
  refine g_wr p1 p2 a37 (show 2 < 12 by decide) (fun C6 r1 r2 r3 => ?_)
  refine g_wr r1 r2 a37 (show 3 < 12 by decide) (fun C7 s1 s2 s3 => ?_)
  have s2 : C7 (7, A) = some (.inr (3, [.int (nI A), .null, .ref q5, .ref (ad (6, B)), .ref q1, .int 0, .int 0, .int 0, .long 0, .long 0, .long 0, .long 0])) := s2
  have e7 : ∀ w, w ≠ (7, A) → C7 w = C3 w := fun w w1 => (s3 w w1).trans ((r3 w w1).trans ((p3 w w1).trans (m3 w w1)))
  have e8 : C7 (8, A) = some (ln0 z) := (e7 _ (dd (by decide))).trans k6
  have e9 : ∀ w, w ≠ (7, A) → w ≠ (8, A) → C7 w = C1 w := fun w w1 w2 => (e7 w w1).trans ((k7 w w1 w2).trans (n1 w w1))
  have b3 : ∀ w, w ≠ (7, A) → w ≠ (8, A) → ad3 w = ad1 w := fun w w1 w2 => (k4 w w2).trans (ax w w1)
  have nx3 := nxt_tr t2 (nxt_tr g3 k2)
  clear k1 k5 k6 k7 m1 m2 m3 p1 p2 p3 r1 r2 r3 s3 o1 n1 g2 g1
  obtain ⟨zn3, -⟩ := z_nxt nx3 hzn hz0
  have f9 : ∀ {a b : Nat}, (a, b) ≠ (7, A) → (a, b) ≠ (8, A) → a ≠ 10 → a ≠ 11 → a ≠ 13 → (a < 15 ∨ 19 < a) → C7 (a, b) = cC z ad A L F I y K k (a, b) := fun w1 w2 h1 h2 h3 h4 => (e9 _ w1 w2).trans (u9 h1 h2 h3 h4)
  have f4 : ∀ {a b : Nat}, (a, b) ≠ (7, A) → (a, b) ≠ (8, A) → a ≠ 10 → a ≠ 11 → a ≠ 13 → (a < 15 ∨ 19 < a) → ad3 (a, b) = ad (a, b) := fun w1 w2 h1 h2 h3 h4 => (b3 _ w1 w2).trans (u4 h1 h2 h3 h4)
  have c1 : C7 (1, 0) = some (.inr (6, cf1 ad y k)) := (f9 (dd (by decide)) (dd (by decide)) (by decide) (by decide) (by decide) (by decide)).trans cC1
  have a1 : ad3 (1, 0) = ad (1, 0) := f4 (dd (by decide)) (dd (by decide)) (by decide) (by decide) (by decide) (by decide)
  have a41 : ad3 (4, 1) = ad (4, 1) := f4 (dd (by decide)) (dd (by decide)) (by decide) (by decide) (by decide) (by decide)
  have hL41 : hasL z C7 ad3 4 1 (k 14 1) (ctops A I) 7 := has_tr (ls_has hl41) (f9 (dd (by decide)) (dd (by decide)) (by decide) (by decide) (by decide) (by decide)) (f9 (dd (by decide)) (dd (by decide)) (by decide) (by decide) (by decide) (by decide)) (f4 (dd (by decide)) (dd (by decide)) (by decide) (by decide) (by decide) (by decide)) (fun x hx => f4 (d2 (by have := (mem_ctops.mp hx).1; omega)) (dd (by decide)) (by decide) (by decide) (by decide) (by decide))
  have c7x : ∀ {x}, x < A → ∃ ci fs, C7 (7, x) = some (.inr (ci, fs)) := fun hx => ⟨_, _, (f9 (d2 (by omega)) (dd (by decide)) (by decide) (by decide) (by decide) (by decide)).trans (cC7 hx)⟩
  have gp := g_jg (μ0 := μ0) s1 c1 1
  rw [a1] at gp
  have h8 := g_here (μ0 := μ0) s1 hL41.1
  rw [a41] at h8
  refine ⟨some (ad (4, 1)), gp, _, ⟨rfl, h8⟩, ?_⟩
  have len41 : (ctops A I).length ≤ 20 := clist_len (q := 4) (j := 1) hn
  refine g_app s1 zn3 hz0 hL41 len41 (by decide) (by decide) (fun x hx => c7x (mem_ctops.mp hx).1) a41 a37 ⟨_, _, s2⟩ (fun C8 ad8 nm8 μ8 v1 v2 v3 v4 v5 => ?_)
  obtain ⟨zn8, z08⟩ := z_nxt v2 zn3 hz0
  have c81 : C8 (1, 0) = some (.inr (6, cf1 ad y k)) := (v5 _ (dd (by decide)) (dd (by decide))).trans c1
  have a81 : ad8 (1, 0) = ad (1, 0) := (v3 _ (dd (by decide))).trans a1
  refine ⟨by rw [← a81]; exact g_here v1 c81, ?_⟩
  have e81 : ∀ w, w ≠ (4, 1) → w ≠ (5, 1) → C8 w = C7 w := v5
  have w9 : ∀ {a b : Nat}, (a, b) ≠ (7, A) → (a, b) ≠ (8, A) → (a, b) ≠ (4, 1) → (a, b) ≠ (5, 1) → a ≠ 10 → a ≠ 11 → a ≠ 13 → (a < 15 ∨ 19 < a) → C8 (a, b) = cC z ad A L F I y K k (a, b) := fun w1 w2 w3 w4 h1 h2 h3 h4 => (v5 _ w3 w4).trans (f9 w1 w2 h1 h2 h3 h4)
  have w4 : ∀ {a b : Nat}, (a, b) ≠ (7, A) → (a, b) ≠ (8, A) → (a, b) ≠ (5, 1) → a ≠ 10 → a ≠ 11 → a ≠ 13 → (a < 15 ∨ 19 < a) → ad8 (a, b) = ad (a, b) := fun w1 w2 w3 h1 h2 h3 h4 => (v3 _ w3).trans (f4 w1 w2 h1 h2 h3 h4)
  have d40 : ((4, 0) : Nat × Nat) ≠ (4, 1) := d2 (by decide)
  have d50 : ((5, 0) : Nat × Nat) ≠ (5, 1) := d2 (by decide)
  have hL40 : hasL z C8 ad8 4 0 (k 14 0) (List.range A) 7 := has_tr (ls_has hl40) (w9 (dd (by decide)) (dd (by decide)) d40 (dd (by decide)) (by decide) (by decide) (by decide) (by decide)) (w9 (dd (by decide)) (dd (by decide)) (dd (by decide)) d50 (by decide) (by decide) (by decide) (by decide)) (w4 (dd (by decide)) (dd (by decide)) d50 (by decide) (by decide) (by decide) (by decide)) (fun x hx => w4 (d2 (by have := List.mem_range.mp hx; omega)) (dd (by decide)) (dd (by decide)) (by decide) (by decide) (by decide) (by decide))
  have e87 : C8 (7, A) = some (.inr (3, [.int (nI A), .null, .ref q5, .ref (ad (6, B)), .ref q1, .int 0, .int 0, .int 0, .long 0, .long 0, .long 0, .long 0])) := (v5 _ (dd (by decide)) (dd (by decide))).trans s2
  have g10 : ∀ {a b : Nat}, a ≠ 7 → a ≠ 8 → a ≠ 4 → a ≠ 5 → C8 (a, b) = C1 (a, b) ∧ ad8 (a, b) = ad1 (a, b) := fun h7 h8 h4 h5 => ⟨(v5 _ (dd h4) (dd h5)).trans (e9 _ (dd h7) (dd h8)), (v3 _ (dd h5)).trans (b3 _ (dd h7) (dd h8))⟩
  have e810 := (g10 (a := 10) (b := A) (by decide) (by decide) (by decide) (by decide)).1.trans t5
  have a810 : ad8 (10, A) = q5 := (g10 (by decide) (by decide) (by decide) (by decide)).2.trans t3
  have a811 : ad8 (11, A) = ad1 (11, A) := (g10 (by decide) (by decide) (by decide) (by decide)).2
  have hL11 : hasL z C8 ad8 11 A 0 [] 7 := ⟨(g10 (by decide) (by decide) (by decide) (by decide)).1.trans t6, fun g => absurd rfl g, fun _ => (w9 (dd (by decide)) (dd (by decide)) (dd (by decide)) (dd (by decide)) (by decide) (by decide) (by decide) (by decide)).trans x12⟩
  have len40 : (List.range A).length ≤ 20 := by rw [List.length_range]; omega
  refine g_enter v1 zn8 z08 c81 ?_ e87 ?_ e810 ?_ hL40 hL11 len40 (by decide) (fun x hx => ?_) (fun x hx => by cases hx) a81 ((v3 _ (dd (by decide))).trans a37) (fun C9 ad9 nm9 μ9 j1 j2 j3 j4 j5 j6 => ?_)
  · show some (Value.ref (ad (4, 0))) = _
    rw [w4 (a := 4) (b := 0) (dd (by decide)) (dd (by decide)) (dd (by decide)) (by decide) (by decide) (by decide) (by decide)]
  · show some (Value.ref q5) = _
    rw [a810]
  · show some (Value.ref (ad1 (11, A))) = _
    rw [a811]
  · obtain ⟨ci, fs, o⟩ := c7x (List.mem_range.mp hx)
    exact ⟨ci, fs, (v5 _ (dd (by decide)) (dd (by decide))).trans o⟩
  have aA : aI A I (addI A (-1) (nI A) (nI B) x2 x3 I) := aI_add
  obtain ⟨r3, r4, r5, r9, r10⟩ := addI_at (A := A) (I := I) (pr := -1) (tp := nI A) (bk := nI B) (cr := x2) (db := x3)
  have q' := q ad9 nm9 μ9
  clear q
  generalize addI A (-1) (nI A) (nI B) x2 x3 I = I' at aA r3 r4 r5 r9 r10 q'
  have hn' : cEn (A + 1) L F I' := cEn_A hn hA aA (Or.inl r3) (fun _ => r4) ⟨B, hB, r5⟩ i6
  have ec : cpar (A + 1) I' A = none := if_neg (fun v => v.2 r3)
  have et : tI I' A = A := by unfold tI; rw [r4]; exact nI_clamp (by omega)
  have eb : bI I' A = B := by unfold bI; rw [r5]; exact nI_clamp (by omega)
  have isA : cisp (A + 1) I' A := ⟨by omega, r3⟩
  have hp3 : ∀ x, x ≠ A → (cisp (A + 1) I' x ↔ cisp A I x) := fun x e => by
    unfold cisp
    rw [aA.1 3 x e]
    exact ⟨fun v => ⟨by have := v.1; omega, v.2⟩, fun v => ⟨by have := v.1; omega, v.2⟩⟩
  have m0 : cmem A I A = [] := List.eq_nil_iff_forall_not_mem.mpr (fun c hc => by
    obtain ⟨c1, c2⟩ := mem_cmem.mp hc
    have := (hn.2.2.2.2.1 c c1).2.1
    omega)
  have l11 : clist (A + 1) L F I' 11 A = [] ++ [A] := by
    show cmem (A + 1) I' A = _
    rw [mem_A aA, if_pos et, m0]
  have l40 : clist (A + 1) L F I' 4 0 = List.range A ++ [A] := List.range_succ
  have l41 : clist (A + 1) L F I' 4 1 = ctops A I ++ [A] := by
    show ctops (A + 1) I' = _
    rw [tops_A aA, if_pos r3]
  have l8 : clist (A + 1) L F I' 8 A = [] := by
    show ckids (A + 1) I' A = _
    rw [kids_A aA, kids_no hn, ec, if_neg (fun v => by cases v)]
    rfl
  have l13 : clist (A + 1) L F I' 13 A = [] := by
    show crk I' A L = _
    rw [crk_r (aA.2 11 (by decide) (by decide) (by decide) (by decide) (by decide)) (aA.2 13 (by decide) (by decide) (by decide) (by decide) (by decide))]
    exact List.eq_nil_iff_forall_not_mem.mpr (fun c hc => by
      obtain ⟨c1, c2⟩ := mem_crk.mp hc
      have := (hn.2.2.2.2.2.2.1 c c1).2.1
      omega)
  have H41 : hasL z C9 ad9 4 1 (k 14 1 + 1) (ctops A I ++ [A]) 7 := has_tr v4 (j6 _ (d2 (by decide)) (dd (by decide)) (dd (by decide)) (dd (by decide))) (j6 _ (dd (by decide)) (d2 (by decide)) (dd (by decide)) (dd (by decide))) (j3 _ (d2 (by decide)) (dd (by decide))) (fun x _ => j3 _ (dd (by decide)) (dd (by decide)))
  have N : ∀ {q j : Nat}, clv (A + 1) I' q j → hasL z (cC z ad9 (A + 1) L F I' y (apK K A) (apk k A)) ad9 q j (apk k A (10 + q) j) (clist (A + 1) L F I' q j) (cel q j) := fun hl => ls_has hl
  have N40 : hasL z (cC z ad9 (A + 1) L F I' y (apK K A) (apk k A)) ad9 4 0 (k 14 0 + 1) (List.range A ++ [A]) 7 := by
    have w := N (q := 4) (j := 0) (Or.inl ⟨rfl, by decide⟩)
    rw [l40, show apk k A (10 + 4) 0 = k 14 0 + 1 from if_pos ⟨rfl, Or.inl rfl⟩] at w
    exact w
  have N41 : hasL z (cC z ad9 (A + 1) L F I' y (apK K A) (apk k A)) ad9 4 1 (k 14 1 + 1) (ctops A I ++ [A]) 7 := by
    have w := N (q := 4) (j := 1) (Or.inl ⟨rfl, by decide⟩)
    rw [l41, show apk k A (10 + 4) 1 = k 14 1 + 1 from if_pos ⟨rfl, Or.inr rfl⟩] at w
    exact w
  have kk21 : apk k A 21 A = 0 + 1 := by unfold apk; rw [if_neg (by omega), if_neg (by omega), if_pos ⟨rfl, rfl⟩]; rfl
  have kk18 : apk k A 18 A = 0 := by unfold apk; rw [if_neg (by omega), if_pos ⟨Or.inl rfl, rfl⟩]
  have kk23 : apk k A 23 A = 0 := by unfold apk; rw [if_neg (by omega), if_pos ⟨Or.inr rfl, rfl⟩]
  have N11 : hasL z (cC z ad9 (A + 1) L F I' y (apK K A) (apk k A)) ad9 11 A (0 + 1) ([] ++ [A]) 7 := by
    have w := N (q := 11) (j := A) (Or.inr (Or.inr (Or.inl ⟨rfl, isA⟩)))
    rw [l11, show apk k A (10 + 11) A = 0 + 1 from kk21] at w
    exact w
  have N8 : cC z ad9 (A + 1) L F I' y (apK K A) (apk k A) (8, A) = some (ln0 z) := by
    have w := (N (q := 8) (j := A) (Or.inr (Or.inl ⟨rfl, by omega⟩))).1
    rw [l8, show apk k A (10 + 8) A = 0 from kk18] at w
    exact w
  have N13 : cC z ad9 (A + 1) L F I' y (apK K A) (apk k A) (13, A) = some (ln0 z) ∧ cC z ad9 (A + 1) L F I' y (apK K A) (apk k A) (14, A) = none := by
    have w := N (q := 13) (j := A) (Or.inr (Or.inr (Or.inr ⟨rfl, isA⟩)))
    rw [l13, show apk k A (10 + 13) A = 0 from kk23] at w
    exact ⟨w.1, w.2.2 rfl⟩
  have z9 : ∀ {a b : Nat}, a ≠ 4 → a ≠ 5 → a ≠ 7 → a ≠ 8 → a ≠ 11 → a ≠ 12 → C9 (a, b) = C1 (a, b) := fun h4 h5 h7 h8 h11 h12 => (j6 _ (dd h4) (dd h5) (dd h11) (dd h12)).trans (g10 h7 h8 h4 h5).1
  have y9 : ∀ {a b : Nat}, a ≠ 4 → a ≠ 5 → a ≠ 7 → a ≠ 8 → a ≠ 12 → ad9 (a, b) = ad1 (a, b) := fun h4 h5 h7 h8 h12 => (j3 _ (dd h5) (dd h12)).trans (g10 h7 h8 h4 h5).2
  have eC : C9 = cC z ad9 (A + 1) L F I' y (apK K A) (apk k A) := by
    funext w
    by_cases w1 : w = (4, 0)
    · rw [w1]; exact (has_eq j4 N40).1
    by_cases w2 : w = (5, 0)
    · rw [w2]; exact (has_eq j4 N40).2
    by_cases w3 : w = (4, 1)
    · rw [w3]; exact (has_eq H41 N41).1
    by_cases w4' : w = (5, 1)
    · rw [w4']; exact (has_eq H41 N41).2
    by_cases w5 : w = (11, A)
    · rw [w5]; exact (has_eq j5 N11).1
    by_cases w6 : w = (12, A)
    · rw [w6]; exact (has_eq j5 N11).2
    by_cases w7 : w = (7, A)
    · rw [w7, j6 _ (dd (by decide)) (dd (by decide)) (dd (by decide)) (dd (by decide)), e87, cC7 (show A < A + 1 by omega)]
      have v1 : apK K A 0 A = 0 := by unfold apK; rw [if_pos ⟨Or.inl rfl, rfl⟩]
      have v2 : apK K A 1 A = 0 := by unfold apK; rw [if_pos ⟨Or.inr rfl, rfl⟩]
      have s6 : I' 6 A = 0 := by rw [aA.2 6 (by decide) (by decide) (by decide) (by decide) (by decide)]; exact i6
      have s7 : I' 7 A = 0 := by rw [aA.2 7 (by decide) (by decide) (by decide) (by decide) (by decide)]; exact i7
      have s8 : I' 8 A = 0 := by rw [aA.2 8 (by decide) (by decide) (by decide) (by decide) (by decide)]; exact i8
      have p10 : ad9 (10, A) = q5 := (j3 _ (dd (by decide)) (dd (by decide))).trans a810
      have p6 : ad9 (6, B) = ad (6, B) := (j3 _ (dd (by decide)) (dd (by decide))).trans (w4 (dd (by decide)) (dd (by decide)) (dd (by decide)) (by decide) (by decide) (by decide) (by decide))
      have p8 : ad9 (8, A) = q1 := (j3 _ (dd (by decide)) (dd (by decide))).trans ((v3 _ (dd (by decide))).trans k3)
      unfold cf7
      rw [ec, et, eb, p10, p6, p8, s6, s7, s8, y1, y2, v1, v2]
      rfl
    by_cases w8 : w = (8, A)
    · rw [w8, N8, j6 _ (dd (by decide)) (dd (by decide)) (dd (by decide)) (dd (by decide)), v5 _ (dd (by decide)) (dd (by decide)), e8]
    by_cases w10 : w = (10, A)
    · rw [w10, z9 (by decide) (by decide) (by decide) (by decide) (by decide) (by decide), t5, cC10 isA]
      unfold cf10
      rw [y9 (by decide) (by decide) (by decide) (by decide) (by decide), y9 (by decide) (by decide) (by decide) (by decide) (by decide), y9 (by decide) (by decide) (by decide) (by decide) (by decide), y9 (by decide) (by decide) (by decide) (by decide) (by decide)]
    by_cases w13 : w = (13, A)
    · rw [w13, N13.1, z9 (by decide) (by decide) (by decide) (by decide) (by decide) (by decide), t7]
    by_cases w14 : w = (14, A)
    · rw [w14, N13.2, z9 (by decide) (by decide) (by decide) (by decide) (by decide) (by decide), u9 (by decide) (by decide) (by decide) (by decide), x14]
    by_cases ws : 15 ≤ w.1 ∧ w.1 ≤ 19 ∧ w.2 / 2 = A
    · obtain ⟨wq, s⟩ := w
      have ws : 15 ≤ wq ∧ wq ≤ 19 ∧ s / 2 = A := ws
      obtain ⟨q1, q2, e⟩ := ws
      obtain ⟨h15, h16, h17, h18, h19⟩ := t8 s e
      have is : cisp (A + 1) I' (s / 2) := by rw [e]; exact isA
      have sK : ∀ a, a = 100 + s ∨ a = 200 + s ∨ a = 300 + s → apK K A a = fun _ => 0 := fun a ha => by
        funext b
        unfold apK
        rw [if_neg (by omega), if_neg (by omega), if_pos (by omega)]
      have sK2 : ∀ a, a = 2 ∨ a = 3 ∨ a = 4 → apK K A a s = 0 := fun a ha => by
        unfold apK
        rw [if_neg (by omega), if_pos ⟨by omega, e⟩]
      have : wq = 15 ∨ wq = 16 ∨ wq = 17 ∨ wq = 18 ∨ wq = 19 := by omega
      rcases this with rfl | rfl | rfl | rfl | rfl
      · rw [z9 (by decide) (by decide) (by decide) (by decide) (by decide) (by decide), h15, cC15 is]
        have zz : y (sz1 s) = 0 := by
          rcases Nat.mod_two_eq_zero_or_one s with m | m
          · rw [sz1_0 m, e]; exact y5
          · rw [sz1_1 m, e]; exact y6
        have rt : srt I' s = if s % 2 = 0 then x2 else x3 := by unfold srt; rw [e, r9, r10]
        unfold cf15
        rw [zz, rt, sK2 4 (by omega), sK2 2 (by omega), sK2 3 (by omega), y9 (a := 16) (by decide) (by decide) (by decide) (by decide) (by decide), y9 (a := 17) (by decide) (by decide) (by decide) (by decide) (by decide), y9 (a := 18) (by decide) (by decide) (by decide) (by decide) (by decide), y9 (a := 19) (by decide) (by decide) (by decide) (by decide) (by decide)]
      · rw [z9 (by decide) (by decide) (by decide) (by decide) (by decide) (by decide), h16, cC16 is]
        have cw : cwt (A + 1) I' y s = fun _ => 0 := by
          rw [cwt_A aA y3 y4]
          funext t
          unfold cwt
          rw [e, m0]
          rfl
        rw [cw]
        rfl
      · rw [z9 (by decide) (by decide) (by decide) (by decide) (by decide) (by decide), h17, cC17 is, sK _ (Or.inl rfl)]
        rfl
      · rw [z9 (by decide) (by decide) (by decide) (by decide) (by decide) (by decide), h18, cC18 is, sK _ (Or.inr (Or.inl rfl))]
        rfl
      · rw [z9 (by decide) (by decide) (by decide) (by decide) (by decide) (by decide), h19, cC19 is, sK _ (Or.inr (Or.inr rfl))]
        rfl
    have nP : ∀ q, w.1 = q → 10 ≤ q → q ≤ 14 → w.2 ≠ A := fun q e1 e2 e3 e4 => by
      obtain ⟨wq, wj⟩ := w
      have e1 : wq = q := e1
      have e4 : wj = A := e4
      subst e1
      subst e4
      have : wq = 10 ∨ wq = 11 ∨ wq = 12 ∨ wq = 13 ∨ wq = 14 := by omega
      rcases this with rfl | rfl | rfl | rfl | rfl
      · exact w10 rfl
      · exact w5 rfl
      · exact w6 rfl
      · exact w13 rfl
      · exact w14 rfl
    have e0 : C9 w = cC z ad A L F I y K k w := (j6 w w1 w2 w5 w6).trans ((v5 w w3 w4').trans ((e9 w w7 w8).trans (t9 w w10 w5 w13 (fun a b c => ws ⟨a, b, c⟩))))
    rw [e0, cC_A hn aA y3 y4 w7 w8 (k := k) (fun q j hq hw => clist_A aA hq (fun g => ?_) (fun g => ?_) (fun _ v => by rw [ec] at v; cases v) (fun g v => ?_)) (fun a b => hp3 _ (nP _ rfl a b)) (fun a b => hp3 _ (fun c => ws ⟨a, b, c⟩)) (fun a b hr => ?_)]
    · rw [cC_cong (zz := y) (zz' := y) (K := K) (K' := apK K A) (k := k) (k' := k) (fun _ _ => rfl) (fun a b hr => ?_) (fun _ _ _ => rfl)]
      · have hlv : ∀ {v}, cLv A L F I v → cC z ad A L F I y K k v ≠ none := fun hv g => by
          obtain ⟨o, ho⟩ := (cLv_iff (z := z) (ad := ad) (zz := y) (K := K) (k := k)).mp hv
          rw [g] at ho; cases ho
        refine (cC_ad hn (fun v hv ha => ?_)).symm
        have n7 : v ≠ (7, A) := fun g => hlv hv (by rw [g]; exact x7)
        have n8 : v ≠ (8, A) := fun g => hlv hv (by rw [g]; exact x8)
        have n12 : v ≠ (12, A) := fun g => hlv hv (by rw [g]; exact x12)
        have n50 : v ≠ (5, 0) := fun g => by rw [g] at ha; exact w1 (ha (Or.inl rfl))
        have n51 : v ≠ (5, 1) := fun g => by rw [g] at ha; exact w3 (ha (Or.inl rfl))
        exact (j3 v n50 n12).trans ((v3 v n51).trans ((b3 v n7 n8).trans (t4 v (fun g => hlv hv (by rw [g]; exact x10)) (fun g => hlv hv (by rw [g]; exact x11)) (fun g => hlv hv (by rw [g]; exact x13)) (fun a b c => hlv hv (xs v.1 v.2 a b c)))))
      · obtain ⟨wq, wj⟩ := w
        have ws : ¬ (15 ≤ wq ∧ wq ≤ 19 ∧ wj / 2 = A) := ws
        have n7 : ¬ (wq = 7 ∧ wj = A) := fun v => w7 (by rw [v.1, v.2])
        simp only [rdK] at hr
        unfold apK
        rw [if_neg (by omega), if_neg (by omega), if_neg (by omega)]
    · rcases hw with hw | hw
      · exact w1 (hw.trans g)
      · have := Prod.mk.inj g
        exact w2 (by rw [hw, this.1, this.2])
    · rcases hw with hw | hw
      · exact absurd (hw.trans g) w3
      · have := Prod.mk.inj g
        exact absurd (by rw [hw, this.1, this.2]) w4'
    · have ej : j = A := v.symm.trans et
      rcases hw with hw | hw
      · exact w5 (by rw [hw, g, ej])
      · exact w6 (by rw [hw, g, ej])
    · obtain ⟨wq, wj⟩ := w
      have n1 : ¬ (wq = 4 ∧ wj = 0) := fun v => w1 (by rw [v.1, v.2])
      have n2 : ¬ (wq = 4 ∧ wj = 1) := fun v => w3 (by rw [v.1, v.2])
      have n3 : ¬ (wq = 8 ∧ wj = A) := fun v => w8 (by rw [v.1, v.2])
      have n4 : ¬ (wq = 13 ∧ wj = A) := fun v => w13 (by rw [v.1, v.2])
      have n5 : ¬ (wq = 11 ∧ wj = A) := fun v => w5 (by rw [v.1, v.2])
      simp only [rdk] at hr
      unfold apk
      rw [if_neg (by omega), if_neg (by omega), if_neg (by omega)]
  have hc' : cE ad9 nm9 (A + 1) L F I' := by
    refine ⟨(cOk_gOk (z := z) (y := y) (K := apK K A) (k := apk k A)).mpr ?_, hn'⟩
    rw [← eC]
    exact j1
  rw [eC, ← cM_gM]
  refine q' _ hc' (nxt_tr nx3 (nxt_tr v2 j2)) ?_
  exact (j3 _ (dd (by decide)) (dd (by decide))).trans (w4 (dd (by decide)) (dd (by decide)) (dd (by decide)) (by decide) (by decide) (by decide) (by decide))
end AP2
