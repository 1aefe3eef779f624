/-! ===== the class's call that adds a line ===== -/
section AL
variable {z : Nat × Nat} {ad : Nat × Nat → Nat} {nm : Nat → Nat × Nat} {A L L' F : Nat} {I I' : Nat → Nat → Int32} {K : Nat → Nat → Int64} {k k' : Nat → Nat → Int32} {μ0 : jM} {y : Nat → Int64}
theorem lnI_ro {x x2 x3 : Int32} {r : Nat} (h11 : r ≠ 11) (h12 : r ≠ 12) (h13 : r ≠ 13) : lnI I L x x2 x3 r = I r := by
  unfold lnI
  rw [upR_o h13, upR_o h12, upR_o h11]
theorem lnI_at {x x2 x3 : Int32} : lnI I L x x2 x3 11 L = x ∧ lnI I L x x2 x3 12 L = x2 ∧ lnI I L x x2 x3 13 L = x3 := by
  unfold lnI
  exact ⟨upd_at, upd_at, upd_at⟩
theorem lnI_no {x x2 x3 : Int32} {r l : Nat} (hl : l ≠ L) : lnI I L x x2 x3 r l = I r l := by
  by_cases e13 : r = 13
  · subst e13; unfold lnI; rw [upR_at, upd_no hl]
  · by_cases e12 : r = 12
    · subst e12; unfold lnI; rw [upR_o (by decide), upR_at, upd_no hl]
    · by_cases e11 : r = 11
      · subst e11; unfold lnI; rw [upR_o (by decide), upR_o (by decide), upR_at, upd_no hl]
      · rw [lnI_ro e11 e12 e13]
/-- rows 11, 12, 13 differ at line L only -/
def lI (L : Nat) (I I' : Nat → Nat → Int32) : Prop := (∀ r l, l ≠ L → I' r l = I r l) ∧ ∀ r, r ≠ 11 → r ≠ 12 → r ≠ 13 → I' r = I r
theorem lI_ln {x x2 x3 : Int32} : lI L I (lnI I L x x2 x3) := ⟨fun _ _ h => lnI_no h, fun _ a b c => lnI_ro a b c⟩
theorem cins_e {x : Nat} : ∀ l : List Nat, (∀ a, a = x ∨ a ∈ l → I' 13 a = I 13 a) → cins I' x l = cins I x l
  | [], _ => rfl
  | a :: l, h => by
    show (if I' 13 a ≤ I' 13 x then a :: cins I' x l else x :: a :: l) = (if I 13 a ≤ I 13 x then a :: cins I x l else x :: a :: l)
    rw [h x (Or.inl rfl), h a (Or.inr List.mem_cons_self), cins_e l (fun b hb => h b (hb.imp id (List.mem_cons_of_mem _)))]
theorem crk_e (a : lI L I I') {p : Nat} : ∀ n, n ≤ L → crk I' p n = crk I p n
  | 0, _ => rfl
  | n + 1, hn => by
    show (if pL I' n = p then cins I' n (crk I' p n) else crk I' p n) = (if pL I n = p then cins I n (crk I p n) else crk I p n)
    have e : pL I' n = pL I n := by unfold pL; rw [a.1 11 n (by omega)]
    rw [e, crk_e a n (by omega), cins_e (I := I) (I' := I') (crk I p n) (fun b hb => a.1 13 b (by
      rcases hb with rfl | hb
      · omega
      · have := (mem_crk.mp hb).1; omega))]
theorem clist_L (h : ∀ r, r ≠ 11 → r ≠ 12 → r ≠ 13 → I' r = I r) {q j : Nat} (hq : q = 4 ∨ q = 8 ∨ q = 11 ∨ q = 13) (h42 : (q, j) ≠ (4, 2)) (h13 : q = 13 → crk I' j L' = crk I j L) : clist A L' F I' q j = clist A L F I q j := by
  have e1 : ckids A I' j = ckids A I j := by unfold ckids; rw [cpar_r (h 3 (by decide) (by decide) (by decide))]
  have e2 : cmem A I' j = cmem A I j := by unfold cmem; rw [tI_r (h 4 (by decide) (by decide) (by decide))]
  have e3 : ctops A I' = ctops A I := by unfold ctops; rw [h 3 (by decide) (by decide) (by decide)]
  rcases hq with rfl | rfl | rfl | rfl
  · have j2 : j ≠ 2 := fun e => h42 (by rw [e])
    have e : ∀ (M : Nat) (J : Nat → Nat → Int32), clist A M F J 4 j = (if j = 0 then List.range A else if j = 1 then ctops A J else if j = 2 then List.range M else if j = 3 then List.range F else List.range 4) := by
      intro M J
      unfold clist
      rw [if_neg (by decide), if_neg (by decide), if_neg (by decide)]
    rw [e, e, e3]
    simp only [if_neg j2]
  · exact e1
  · exact e2
  · exact h13 rfl
theorem cC_L (h : ∀ r, r ≠ 11 → r ≠ 12 → r ≠ 13 → I' r = I r) {x : Nat × Nat} (hx : x.1 ≠ 20) (h42 : x ≠ (4, 2)) (h52 : x ≠ (5, 2)) (h13 : x.1 = 13 ∨ x.1 = 14 → crk I' x.2 L' = crk I x.2 L) (hk : ∀ a b, rdk x a b → k' a b = k a b) : cC z ad A L' F I' y K k' x = cC z ad A L F I y K k x := by
  obtain ⟨q, j⟩ := x
  have h13 : q = 13 ∨ q = 14 → crk I' j L' = crk I j L := h13
  by_cases hq : 22 ≤ q
  · rw [cC_big hq, cC_big hq]
  have h1 : ∀ {r : Nat}, r ≠ 11 → r ≠ 12 → r ≠ 13 → I' r = I r := fun a b c => h _ a b c
  have cp : ∀ p, cisp A I' p ↔ cisp A I p := fun p => by unfold cisp; rw [h1 (r := 3) (by decide) (by decide) (by decide)]
  have l4 : ∀ {q' : Nat}, q' = 4 ∨ q' = 8 ∨ q' = 11 ∨ q' = 13 → (q', j) ≠ (4, 2) → (q' = 13 → crk I' j L' = crk I j L) → clist A L' F I' q' j = clist A L F I q' j := fun a b c => clist_L h a b c
  have ar : ∀ {q' : Nat}, q' = 4 ∨ q' = 8 ∨ q' = 11 ∨ q' = 13 → (q', j) ≠ (4, 2) → (q' = 13 → crk I' j L' = crk I j L) → (.inl (3, ccap (clist A L' F I' q' j).length, .inr (.inr (.inr (.inr (clar ad A L' F I' q' j))))) : jE) = .inl (3, ccap (clist A L F I q' j).length, .inr (.inr (.inr (.inr (clar ad A L F I q' j))))) := by
    intro q' a b c; unfold clar; rw [l4 a b c]
  have ob : ∀ {q' : Nat}, q' = 4 ∨ q' = 8 ∨ q' = 11 ∨ q' = 13 → (q', j) ≠ (4, 2) → (q' = 13 → crk I' j L' = crk I j L) → (∀ a b, rdk (q', j) a b → k' a b = k a b) → (.inr (2, clob z ad A L' F I' k' q' j) : jE) = .inr (2, clob z ad A L F I k q' j) := by
    intro q' a b c d; unfold clob; rw [l4 a b c, d (10 + q') j (Or.inr (Or.inr ⟨a, rfl, rfl⟩))]
  have ne : ∀ {q' : Nat} {c c' : Prop}, q' = 4 ∨ q' = 8 ∨ q' = 11 ∨ q' = 13 → (q', j) ≠ (4, 2) → (q' = 13 → crk I' j L' = crk I j L) → (c' ↔ c) → ((c' ∧ clist A L' F I' q' j ≠ []) ↔ (c ∧ clist A L F I q' j ≠ [])) := by
    intro q' c c' a b d e; rw [l4 a b d, e]
  have nn : ∀ {a b : Nat}, a ≠ b → ((a, j) : Nat × Nat) ≠ (b, 2) := fun h v => h (Prod.mk.inj v).1
  rcases q22 hq with rfl | rfl | rfl | rfl | rfl | rfl | rfl | rfl | rfl | rfl | rfl | rfl | rfl | rfl | rfl | rfl | rfl | rfl | rfl | rfl | rfl | rfl
  · exact if_c (fun _ => rfl)
  · exact if_c (fun c => by unfold cf1; rw [hk 0 1 (Or.inl ⟨rfl, c, rfl, rfl⟩)])
  · exact if_c (fun _ => rfl)
  · exact if_c (fun _ => by rw [h1 (r := 20) (by decide) (by decide) (by decide)])
  · exact if_c (fun _ => ob (by decide) h42 (fun v => absurd v (by decide)) hk)
  · have h42' : ((4, j) : Nat × Nat) ≠ (4, 2) := fun v => h52 (by rw [(Prod.mk.inj v).2])
    exact if_cc (ne (by decide) h42' (fun v => absurd v (by decide)) Iff.rfl) (fun _ => ar (by decide) h42' (fun v => absurd v (by decide)))
  · exact if_c (fun _ => by unfold cf6; rw [h1 (r := 14) (by decide) (by decide) (by decide)])
  · exact if_c (fun _ => by unfold cf7; rw [cpar_r (h1 (r := 3) (by decide) (by decide) (by decide)), tI_r (h1 (r := 4) (by decide) (by decide) (by decide)), bI_r (h1 (r := 5) (by decide) (by decide) (by decide)), h1 (r := 6) (by decide) (by decide) (by decide), h1 (r := 7) (by decide) (by decide) (by decide), h1 (r := 8) (by decide) (by decide) (by decide)])
  · exact if_c (fun _ => ob (by decide) (nn (by decide)) (fun v => absurd v (by decide)) hk)
  · exact if_cc (ne (by decide) (nn (by decide)) (fun v => absurd v (by decide)) Iff.rfl) (fun _ => ar (by decide) (nn (by decide)) (fun v => absurd v (by decide)))
  · exact if_cc (cp j) (fun _ => rfl)
  · exact if_cc (cp j) (fun _ => ob (by decide) (nn (by decide)) (fun v => absurd v (by decide)) hk)
  · exact if_cc (ne (by decide) (nn (by decide)) (fun v => absurd v (by decide)) (cp j)) (fun _ => ar (by decide) (nn (by decide)) (fun v => absurd v (by decide)))
  · exact if_cc (cp j) (fun _ => ob (by decide) (nn (by decide)) (fun _ => h13 (Or.inl rfl)) hk)
  · exact if_cc (ne (by decide) (nn (by decide)) (fun _ => h13 (Or.inr rfl)) (cp j)) (fun _ => ar (by decide) (nn (by decide)) (fun _ => h13 (Or.inr rfl)))
  · exact if_cc (cp _) (fun _ => by unfold cf15 srt; rw [h1 (r := 9) (by decide) (by decide) (by decide), h1 (r := 10) (by decide) (by decide) (by decide)])
  · exact if_cc (cp _) (fun _ => by
      have e : cmem A I' = cmem A I := by funext p; unfold cmem; rw [tI_r (h1 (r := 4) (by decide) (by decide) (by decide))]
      unfold cwt; rw [e])
  · exact if_cc (cp _) (fun _ => rfl)
  · exact if_cc (cp _) (fun _ => rfl)
  · exact if_cc (cp _) (fun _ => rfl)
  · exact absurd rfl hx
  · refine if_c (fun _ => ?_)
    have e1 : fA I' j = fA I j := by unfold fA; rw [h1 (r := 15) (by decide) (by decide) (by decide)]
    unfold cf21
    rw [show k' 1 (21, j).2 = k 1 j from hk 1 j (Or.inr (Or.inl ⟨rfl, rfl, Or.inl rfl⟩)), show k' 2 (21, j).2 = k 2 j from hk 2 j (Or.inr (Or.inl ⟨rfl, rfl, Or.inr rfl⟩)), e1, h1 (r := 16) (by decide) (by decide) (by decide), h1 (r := 17) (by decide) (by decide) (by decide), h1 (r := 18) (by decide) (by decide) (by decide), h1 (r := 19) (by decide) (by decide) (by decide)]
theorem cEn_L (hn : cEn A L F I) (hL : L < 6) (a : lI L I I') {i : Nat} (hi : i < A) (ht : I 3 i = -1) (hx : I' 11 L = nI i) : cEn A (L + 1) F I' := by
  obtain ⟨b1, -, c, d, e, f, g, h, j⟩ := hn
  have lo : ∀ {r}, r ≠ 11 → r ≠ 12 → r ≠ 13 → I' r = I r := fun a1 a2 a3 => a.2 _ a1 a2 a3
  have lo3 := lo (r := 3) (by decide) (by decide) (by decide)
  have lo4 := lo (r := 4) (by decide) (by decide) (by decide)
  have lo5 := lo (r := 5) (by decide) (by decide) (by decide)
  refine ⟨b1, by omega, c, ?_, ?_, ?_, ?_, ?_, ?_⟩
  · unfold parOk; rw [lo3]; exact d
  · unfold acOk; rw [lo4, lo5, tI_r lo4, bI_r lo5]; exact e
  · unfold tpOk; rw [lo3, tI_r lo4, pI_r lo3]; exact f
  · intro l hl
    rw [lo3]
    by_cases e : l = L
    · subst e
      have e2 : pL I' l = i := by unfold pL; rw [hx]; exact nI_clamp (by omega)
      rw [e2, hx]
      exact ⟨rfl, hi, ht⟩
    · have e2 : pL I' l = pL I l := by unfold pL; rw [a.1 11 l e]
      rw [e2, a.1 11 l e]
      exact g l (by omega)
  · have e2 : fA I' = fA I := by funext x; unfold fA; rw [lo (r := 15) (by decide) (by decide) (by decide)]
    rw [e2, lo (r := 15) (by decide) (by decide) (by decide)]
    exact h
  · rw [lo (r := 6) (by decide) (by decide) (by decide), lo3]; exact j
/-- scratch with line L of pool p -/
def alK (K : Nat → Nat → Int64) (L : Nat) : Nat → Nat → Int64 := fun a b => if (a = 6 ∨ a = 7 ∨ a = 8) ∧ b = L then 0 else K a b
def alk (k : Nat → Nat → Int32) (p : Nat) : Nat → Nat → Int32 := fun a b => if a = 14 ∧ b = 2 then k 14 2 + 1 else if a = 23 ∧ b = p then k 23 p + 1 else k a b
theorem c_openLine (h : cE ad nm A L F I) (hzn : nm z.1 = (100, 0)) (hz0 : μ0 z.1 = some jZ0) (hL6 : L < 6) (y1 : y (70 + L) = 0) (y2 : y (76 + L) = 0) (y3 : y (82 + L) = 0) {i : Nat} (hi : i < A) (ht : I 3 i = -1) {x2 x3 : Int32} {Q : Int32 → jM → Prop}
    (q : ∀ ad' nm' μ0' k', cE ad' nm' A (L + 1) F (lnI I L (nI i) x2 x3) → nxt nm μ0 nm' μ0' → ad' (0, 0) = ad (0, 0) → Q (nI L) (cM z ad' nm' A (L + 1) F (lnI I L (nI i) x2 x3) y (alK K L) k' μ0')) : wX3_openLine z (ad (1, 0)) (some (ad (7, i))) x2 x3 (cM z ad nm A L F I y K k μ0) Q := by
  have hn := h.2
  have hA := hn.1
  have G : gOk (cC z ad A L F I y K k) ad nm := cOk_gOk.mp h.1
  have dd : ∀ {a c a' c' : Nat}, a ≠ a' → ((a, c) : Nat × Nat) ≠ (a', c') := fun g v => g (Prod.mk.inj v).1
  have d2 : ∀ {a c c' : Nat}, c ≠ c' → ((a, c) : Nat × Nat) ≠ (a, c') := fun g v => g (Prod.mk.inj v).2
  have ti : tI I i = i := by
    rcases hn.2.2.2.2.2.1 i hi with v | v
    · exact v.2
    · exact absurd ht v.1
  have isp : cisp A I i := ⟨hi, ht⟩
  have hl42 : clv A I 4 2 := Or.inl ⟨rfl, by decide⟩
  have hl13 : clv A I 13 i := Or.inr (Or.inr (Or.inr ⟨rfl, isp⟩))
  have x20 : cC z ad A L F I y K k (20, L) = none := if_neg (by omega)
  rw [cM_gM]
  unfold wX3_openLine wX3_openLine_0
  intro q1 hq1
  obtain ⟨g1, g2, g3⟩ := g_new (e := (.inr (8, jfX5) : jE)) G hq1 x20 (dd (by decide))
  rw [g1]
  have aq : upA ad (20, L) q1 (20, L) = q1 := upA_at
  have ax : ∀ w, w ≠ (20, L) → upA ad (20, L) q1 w = ad w := fun w hw => upA_no hw
  have o1 : upC (cC z ad A L F I y K k) (20, L) (.inr (8, jfX5)) (20, L) = some (.inr (8, [.null, .int 0, .int 0, .long 0, .long 0, .long 0, .long 0, .long 0, .long 0])) := upC_at
  have n1 : ∀ w, w ≠ (20, L) → upC (cC z ad A L F I y K k) (20, L) (.inr (8, jfX5)) w = cC z ad A L F I y K k w := fun w hw => upC_no hw
  generalize upC (cC z ad A L F I y K k) (20, L) (.inr (8, jfX5)) = C0 at g2 o1 n1 ⊢
  generalize upA ad (20, L) q1 = ad1 at g2 aq ax
  generalize upN nm q1 (20, L) = nm1 at g2 g3 ⊢
  unfold wX5_init wX5_init_0
  refine g_wr g2 o1 aq (show 0 < 9 by decide) (fun C1 s1 s2 s3 => ?_)
  refine g_wr s1 s2 aq (show 1 < 9 by decide) (fun C2 t1 t2 t3 => ?_)
  refine g_wr t1 t2 aq (show 2 < 9 by decide) (fun C3 u1 u2 u3 => ?_)
  have c20 : C3 (20, L) = some (.inr (8, [.ref (ad (7, i)), .int x2, .int x3, .long 0, .long 0, .long 0, .long 0, .long 0, .long 0])) := u2
  have cx : ∀ w, w ≠ (20, L) → C3 w = cC z ad A L F I y K k w := fun w hw => (u3 w hw).trans ((t3 w hw).trans ((s3 w hw).trans (n1 w hw)))
  clear s1 s2 s3 t1 t2 t3 u2 u3 n1 o1 g1 hq1
  obtain ⟨zn1, z01⟩ := z_nxt g3 hzn hz0
  have e1 : C3 (1, 0) = some (.inr (6, cf1 ad y k)) := (cx _ (dd (by decide))).trans cC1
  have gp := g_jg (μ0 := μ0) u1 e1 2
  rw [ax (1, 0) (dd (by decide))] at gp
  have hL42 : hasL z C3 ad1 4 2 (k 14 2) (List.range L) 20 := has_tr (ls_has hl42) (cx _ (dd (by decide))) (cx _ (dd (by decide))) (ax _ (dd (by decide))) (fun x hx => ax _ (d2 (by have := List.mem_range.mp hx; omega)))
  have h42 := g_here (μ0 := μ0) u1 hL42.1
  rw [ax (4, 2) (dd (by decide))] at h42
  refine ⟨some (ad (4, 2)), gp, _, ⟨rfl, h42⟩, ?_⟩
  refine g_app u1 zn1 z01 hL42 (by rw [List.length_range]; omega) (by decide) (by decide) (fun x hx => ⟨_, _, (cx _ (d2 (by have := List.mem_range.mp hx; omega))).trans (cC20 (List.mem_range.mp hx))⟩) (ax _ (dd (by decide))) aq ⟨_, _, c20⟩ (fun C4 ad4 nm4 μ4 k1 k2 k3 k4 k5 => ?_)
  obtain ⟨zn4, z04⟩ := z_nxt k2 zn1 z01
  have d4 : ∀ w, w ≠ (20, L) → w ≠ (4, 2) → w ≠ (5, 2) → C4 w = cC z ad A L F I y K k w := fun w w1 w2 w3 => (k5 w w2 w3).trans (cx w w1)
  have b4 : ∀ w, w ≠ (20, L) → w ≠ (5, 2) → ad4 w = ad w := fun w w1 w2 => (k3 w w2).trans (ax w w1)
  have e7 : C4 (7, i) = some (.inr (3, cf7 ad A I y K i)) := (d4 _ (dd (by decide)) (dd (by decide)) (dd (by decide))).trans (cC7 hi)
  have e10 : C4 (10, i) = some (.inr (9, cf10 ad i)) := (d4 _ (dd (by decide)) (dd (by decide)) (dd (by decide))).trans (cC10 isp)
  have gp7 : jg (gM C4 nm4 μ4) (some (ad (7, i))) 3 2 = some (va_rf (some (ad (10, i)))) := by
    have w := g_jg (μ0 := μ4) k1 e7 2
    rw [b4 (7, i) (dd (by decide)) (dd (by decide))] at w
    refine w.trans ?_
    show some (Value.ref (ad (10, tI I i))) = _
    rw [ti]
    rfl
  have h10 := g_here (μ0 := μ4) k1 e10
  rw [b4 (10, i) (dd (by decide)) (dd (by decide))] at h10
  have hL13 : hasL z C4 ad4 13 i (k 23 i) (crk I i L) 20 := has_tr (ls_has hl13) (d4 _ (dd (by decide)) (dd (by decide)) (dd (by decide))) (d4 _ (dd (by decide)) (dd (by decide)) (dd (by decide))) (b4 _ (dd (by decide)) (dd (by decide))) (fun x hx => b4 _ (d2 (by have := (mem_crk.mp hx).1; omega)) (dd (by decide)))
  have c420 : C4 (20, L) = some (.inr (8, [.ref (ad (7, i)), .int x2, .int x3, .long 0, .long 0, .long 0, .long 0, .long 0, .long 0])) := (k5 _ (dd (by decide)) (dd (by decide))).trans c20
  have aI : lI L I (lnI I L (nI i) x2 x3) := lI_ln
  obtain ⟨r11, r12, r13⟩ := lnI_at (I := I) (L := L) (x := nI i) (x2 := x2) (x3 := x3)
  have q' := q
  clear q
  generalize lnI I L (nI i) x2 x3 = I' at aI r11 r12 r13 q'
  refine ⟨_, gp7, _, ⟨rfl, h10⟩, ?_⟩
  have len13 : (crk I i L).length ≤ 5 := by have := crk_len (I := I) (p := i) L; omega
  refine g_rank (I := I') k1 zn4 z04 e10 ?_ hL13 len13 (fun x hx => ⟨_, (d4 _ (d2 (by have := (mem_crk.mp hx).1; omega)) (dd (by decide)) (dd (by decide))).trans (cC20 (mem_crk.mp hx).1), ?_⟩) c420 ?_ (b4 _ (dd (by decide)) (dd (by decide))) ((k3 _ (dd (by decide))).trans aq) (fun C6 ad6 nm6 μ6 j1 j2 j3 j4 j5 => ?_)
  · show some (Value.ref (ad (13, i))) = _
    rw [b4 (13, i) (dd (by decide)) (dd (by decide))]
  · show some (Value.int (I 13 x)) = _
    rw [aI.1 13 x (by have := (mem_crk.mp hx).1; omega)]
  · show some (Value.int x3) = _
    rw [r13]
  have hn' : cEn A (L + 1) F I' := cEn_L hn hL6 aI hi ht r11
  have ep : pL I' L = i := by unfold pL; rw [r11]; exact nI_clamp (by omega)
  have lo3 : I' 3 = I 3 := aI.2 3 (by decide) (by decide) (by decide)
  have isp' : cisp A I' i := ⟨hi, by rw [lo3]; exact ht⟩
  have b6 : ∀ w, w ≠ (20, L) → w ≠ (5, 2) → w ≠ (14, i) → ad6 w = ad w := fun w w1 w2 w3 => (j3 w w3).trans (b4 w w1 w2)
  have l42 : clist A (L + 1) F I' 4 2 = List.range L ++ [L] := List.range_succ
  have l13 : clist A (L + 1) F I' 13 i = cins I' L (crk I i L) := by
    show (if pL I' L = i then cins I' L (crk I' i L) else crk I' i L) = _
    rw [if_pos ep, crk_e aI L (Nat.le_refl L)]
  have H42 : hasL z C6 ad6 4 2 (k 14 2 + 1) (List.range L ++ [L]) 20 := has_tr k4 (j5 _ (dd (by decide)) (dd (by decide))) (j5 _ (dd (by decide)) (dd (by decide))) (j3 _ (dd (by decide))) (fun x _ => j3 _ (dd (by decide)))
  have kk1 : alk k i 14 2 = k 14 2 + 1 := if_pos ⟨rfl, rfl⟩
  have kk2 : alk k i 23 i = k 23 i + 1 := by unfold alk; rw [if_neg (by omega), if_pos ⟨rfl, rfl⟩]
  have N42 : hasL z (cC z ad6 A (L + 1) F I' y (alK K L) (alk k i)) ad6 4 2 (k 14 2 + 1) (List.range L ++ [L]) 20 := by
    have w := ls_has (z := z) (ad := ad6) (L := L + 1) (F := F) (y := y) (K := alK K L) (k := alk k i) (show clv A I' 4 2 from Or.inl ⟨rfl, by decide⟩)
    rw [l42, show alk k i (10 + 4) 2 = k 14 2 + 1 from kk1] at w
    exact w
  have N13 : hasL z (cC z ad6 A (L + 1) F I' y (alK K L) (alk k i)) ad6 13 i (k 23 i + 1) (cins I' L (crk I i L)) 20 := by
    have w := ls_has (z := z) (ad := ad6) (L := L + 1) (F := F) (y := y) (K := alK K L) (k := alk k i) (show clv A I' 13 i from Or.inr (Or.inr (Or.inr ⟨rfl, isp'⟩)))
    rw [l13, show alk k i (10 + 13) i = k 23 i + 1 from kk2] at w
    exact w
  have eC : C6 = cC z ad6 A (L + 1) F I' y (alK K L) (alk k i) := by
    funext w
    by_cases w1 : w = (4, 2)
    · rw [w1]; exact (has_eq H42 N42).1
    by_cases w2 : w = (5, 2)
    · rw [w2]; exact (has_eq H42 N42).2
    by_cases w3 : w = (13, i)
    · rw [w3]; exact (has_eq j4 N13).1
    by_cases w4 : w = (14, i)
    · rw [w4]; exact (has_eq j4 N13).2
    by_cases w5 : w = (20, L)
    · rw [w5, j5 _ (dd (by decide)) (dd (by decide)), c420, cC20 (show L < L + 1 by omega)]
      have v : ∀ a, a = 6 ∨ a = 7 ∨ a = 8 → alK K L a L = 0 := fun a ha => by unfold alK; rw [if_pos ⟨ha, rfl⟩]
      unfold cf20
      rw [ep, r12, r13, y1, y2, y3, v 6 (by decide), v 7 (by decide), v 8 (by decide), b6 (7, i) (dd (by decide)) (dd (by decide)) (dd (by decide))]
    rw [j5 w w3 w4, d4 w w5 w1 w2]
    by_cases w6 : w.1 = 20
    · obtain ⟨wq, l⟩ := w
      have w6 : wq = 20 := w6
      subst w6
      have lL : l ≠ L := fun v => w5 (by rw [v])
      show (if l < L then some (Sum.inr (8, cf20 ad I y K l)) else none) = (if l < L + 1 then some (Sum.inr (8, cf20 ad6 I' y (alK K L) l)) else none)
      by_cases fl : l < L
      · rw [if_pos fl, if_pos (by omega)]
        have f2 : pL I' l = pL I l := by unfold pL; rw [aI.1 11 l lL]
        have v : ∀ a, alK K L a l = K a l := fun a => by unfold alK; rw [if_neg (fun g => lL g.2)]
        unfold cf20
        rw [f2, aI.1 12 l lL, aI.1 13 l lL, v, v, v, b6 (7, pL I l) (dd (by decide)) (dd (by decide)) (dd (by decide))]
      · rw [if_neg fl, if_neg (by omega)]
    · rw [cC_L aI.2 w6 w1 w2 (k := k) (L := L) (fun g => ?_) (fun a b hr => ?_)]
      · rw [cC_cong (zz := y) (zz' := y) (K := K) (K' := alK K L) (k := k) (k' := k) (fun _ _ => rfl) (fun a b hr => ?_) (fun _ _ _ => rfl)]
        · refine (cC_ad hn (fun v hv ha => b6 v (fun g => ?_) (fun g => ?_) (fun g => ?_))).symm
          · obtain ⟨o, ho⟩ := (cLv_iff (z := z) (ad := ad) (zz := y) (K := K) (k := k)).mp hv
            rw [g, x20] at ho; cases ho
          · rw [g] at ha; exact w1 (ha (Or.inl rfl))
          · rw [g] at ha; exact w3 (ha (Or.inr (Or.inr (Or.inr rfl))))
        · obtain ⟨wq, wj⟩ := w
          have w6 : ¬ wq = 20 := w6
          simp only [rdK] at hr
          unfold alK
          exact if_neg (by omega)
      · obtain ⟨wq, wj⟩ := w
        have g : wq = 13 ∨ wq = 14 := g
        have wi : wj ≠ i := fun v => by
          rcases g with e | e
          · exact w3 (by rw [e, v])
          · exact w4 (by rw [e, v])
        show (if pL I' L = wj then cins I' L (crk I' wj L) else crk I' wj L) = crk I wj L
        rw [if_neg (fun v => wi (v.symm.trans ep)), crk_e aI L (Nat.le_refl L)]
      · obtain ⟨wq, wj⟩ := w
        have n1 : ¬ (wq = 4 ∧ wj = 2) := fun v => w1 (by rw [v.1, v.2])
        have n2 : ¬ (wq = 13 ∧ wj = i) := fun v => w3 (by rw [v.1, v.2])
        simp only [rdk] at hr
        unfold alk
        rw [if_neg (by omega), if_neg (by omega)]
  have hc' : cE ad6 nm6 A (L + 1) F I' := by
    refine ⟨(cOk_gOk (z := z) (y := y) (K := alK K L) (k := alk k i)).mpr ?_, hn'⟩
    rw [← eC]
    exact j1
  have w := q' ad6 nm6 μ6 (alk k i) hc' (nxt_tr g3 (nxt_tr k2 j2)) (b6 _ (dd (by decide)) (dd (by decide)) (dd (by decide)))
  have hl' : clv A I' 4 2 := Or.inl ⟨rfl, by decide⟩
  have l3' : (clist A (L + 1) F I' 4 2).length = L + 1 := List.length_range
  have e00 : ad6 (1, 0) = ad (1, 0) := b6 _ (dd (by decide)) (dd (by decide)) (dd (by decide))
  rw [eC, ← cM_gM, ← e00]
  refine ⟨_, cg1_2 hc'.1, _, ⟨rfl, c_lh hc' hl'⟩, c_size hc' hl' ?_⟩
  rw [l3', nI_pred]
  exact w
theorem c_addLine (h : cE ad nm A L F I) (hzn : nm z.1 = (100, 0)) (hz0 : μ0 z.1 = some jZ0) (y0 : L < 6 → y (70 + L) = 0 ∧ y (76 + L) = 0 ∧ y (82 + L) = 0) {x x2 x3 : Int32} {Q : Int32 → jM → Prop} {E : String → jM → Prop}
    (q : ∀ i, i < A → x = nI i → ((1 ≤ x2 ∧ x2 ≤ 10000000) ∧ (0 ≤ x3 ∧ x3 ≤ 1000)) → I 3 i = -1 → L < 6 → ∀ ad' nm' μ0' k', cE ad' nm' A (L + 1) F (lnI I L x x2 x3) → nxt nm μ0 nm' μ0' → ad' (0, 0) = ad (0, 0) → Q (nI L) (cM z ad' nm' A (L + 1) F (lnI I L x x2 x3) y (alK K L) k' μ0'))
    (e : ¬ (0 ≤ x ∧ x < nI A) → E "java/lang/IndexOutOfBoundsException" (cM z ad nm A L F I y K k μ0)) (e2 : 0 ≤ x ∧ x < nI A → ¬ ((1 ≤ x2 ∧ x2 ≤ 10000000) ∧ (0 ≤ x3 ∧ x3 ≤ 1000)) → E "java/lang/IllegalArgumentException" (cM z ad nm A L F I y K k μ0)) (e3 : ∀ i, i < A → x = nI i → ((1 ≤ x2 ∧ x2 ≤ 10000000) ∧ (0 ≤ x3 ∧ x3 ≤ 1000)) → (¬ I 3 i = -1 ∨ L = 6) → E "java/lang/IllegalStateException" (cM z ad nm A L F I y K k μ0)) : wX9_addLine z (ad (0, 0)) x x2 x3 (cM z ad nm A L F I y K k μ0) Q E := by
  have hA := h.2.1
  have hL := h.2.2.1
  have hl : clv A I 4 2 := Or.inl ⟨rfl, by decide⟩
  have hl2 : (clist A L F I 4 2).length = L := List.length_range
  unfold wX9_addLine wX9_addLine_0
  refine ⟨ch0 h.1, c_accountAt h (fun i hi ei => ?_) e⟩
  have r : 0 ≤ x ∧ x < nI A := by rw [ei]; exact ⟨nI_pos' (by omega), nI_lt hi (by omega)⟩
  refine c_within (fun v2 => c_within (fun v3 => c_top h hi (fun tp => ⟨_, cg0_0 h.1, _, cg1_2 h.1, _, ⟨rfl, c_lh h hl⟩, c_size h hl ?_⟩) (fun tp => e3 i hi ei ⟨v2, v3⟩ (Or.inl tp))) (fun v3 => e2 r (fun w => v3 w.2))) (fun v2 => e2 r (fun w => v2 w.1))
  rw [hl2]
  refine ⟨fun c => ⟨_, cg0_0 h.1, _, ⟨rfl, ch1 h.1⟩, ?_⟩, fun c => e3 i hi ei ⟨v2, v3⟩ (Or.inr (by
    have : ¬ L < 6 := fun g => c (nI_lt (b := 6) g (by decide))
    omega))⟩
  have L6 : L < 6 := (nI_ltI (b := 6) (by omega) (by decide)).mp c
  obtain ⟨y1, y2, y3⟩ := y0 L6
  have q := q i hi ei ⟨v2, v3⟩ tp L6
  rw [ei] at q
  exact c_openLine h hzn hz0 L6 y1 y2 y3 hi tp q
end AL
