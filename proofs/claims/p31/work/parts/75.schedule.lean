/-! ===== a flow more, the class's side ===== -/
/-- the rows with flow F -/
def fsI (I : Nat → Nat → Int32) (F : Nat) (x x2 x3 x4 x5 : Int32) : Nat → Nat → Int32 := fun r => if r = 15 then upd (I 15) F x else if r = 16 then upd (I 16) F x2 else if r = 17 then upd (I 17) F x3 else if r = 18 then upd (I 18) F x4 else if r = 19 then upd (I 19) F x5 else I r
section LSO
variable {z : Nat × Nat} {ad : Nat × Nat → Nat} {nm : Nat → Nat × Nat} {A L F : Nat} {I : Nat → Nat → Int32} {K : Nat → Nat → Int64} {k : Nat → Nat → Int32} {μ0 : jM} {y : Nat → Int64} {q j : Nat} {C : Nat × Nat → Option jE} {x : Nat × Nat}
theorem g_fld {ci f a : Nat} {fs : List Value} {v : Value} (h : gOk (upC C x (.inr (ci, fs))) ad nm) (ha : ad x = a) (hf : f < fs.length) : jp (gM (upC C x (.inr (ci, fs))) nm μ0) (some a) ci f v = some (gM (upC C x (.inr (ci, fs.set f v))) nm μ0) ∧ gOk (upC C x (.inr (ci, fs.set f v))) ad nm := by
  have e1 := g_jp (μ0 := μ0) (v := v) h upC_at hf
  have e2 := g_putOk (e := (.inr (ci, fs.set f v) : jE)) h upC_at
  rw [upC_up] at e1 e2
  rw [← ha]
  exact ⟨e1, e2⟩
theorem ls_o (hl : clv A I q j) : cC z ad A L F I y K k (q, j) = some (.inr (2, [.int (k (10 + q) j), .ref (if (clist A L F I q j).length = 0 then z.1 else ad (q + 1, j)), .int (nI (clist A L F I q j).length)])) := by
  rw [cC_ob hl]
  unfold clob
  by_cases e : clist A L F I q j = []
  · rw [if_pos e, if_pos (by rw [e]; rfl)]
  · rw [if_neg e, if_neg (fun v => e (List.length_eq_zero_iff.mp v))]
theorem ls_a (hl : clv A I q j) (h : (clist A L F I q j).length ≠ 0) : cC z ad A L F I y K k (q + 1, j) = some (.inl (3, ccap (clist A L F I q j).length, .inr (.inr (.inr (.inr (clar ad A L F I q j)))))) := cC_ar hl (fun e => h (by rw [e]; rfl))
theorem ls_0 (hl : clv A I q j) (h : (clist A L F I q j).length = 0) : cC z ad A L F I y K k (q + 1, j) = none := by
  have e := List.length_eq_zero_iff.mp h
  rcases hl with ⟨rfl, -⟩ | ⟨rfl, -⟩ | ⟨rfl, -⟩ | ⟨rfl, -⟩ <;> exact if_neg (fun v => v.2 e)
theorem ls_f {t : Nat} (h : (clist A L F I q j).length ≤ t) : clar ad A L F I q j t = none := by
  unfold clar
  rw [List.getElem?_eq_none h]
  rfl
theorem ls_O (hn : cEn A L F I) (hl : clv A I q j) {t w : Nat} (h : clar ad A L F I q j t = some w) : isO (cC z ad A L F I y K k) ad q j w := by
  unfold clar at h
  cases hx : (clist A L F I q j)[t]? with
  | none => rw [hx] at h; cases h
  | some v =>
    rw [hx] at h
    have hm := List.mem_of_getElem? hx
    have h : ad (cel q j, v) = w := Option.some.inj h
    have ob : ∃ ci fs, cC z ad A L F I y K k (cel q j, v) = some (.inr (ci, fs)) := by
      rcases hl with ⟨rfl, g⟩ | ⟨rfl, g⟩ | ⟨rfl, g⟩ | ⟨rfl, g⟩
      · have h5 : j = 0 ∨ j = 1 ∨ j = 2 ∨ j = 3 ∨ j = 4 := by omega
        rcases h5 with rfl | rfl | rfl | rfl | rfl
        · exact ⟨_, _, cC7 (List.mem_range.mp hm)⟩
        · exact ⟨_, _, cC7 (mem_ctops.mp hm).1⟩
        · exact ⟨_, _, cC20 (List.mem_range.mp hm)⟩
        · exact ⟨_, _, cC21 (List.mem_range.mp hm)⟩
        · exact ⟨_, _, cC6 (List.mem_range.mp hm)⟩
      · exact ⟨_, _, cC7 (mem_kidsF.mp hm).1⟩
      · exact ⟨_, _, cC7 (mem_cmem.mp hm).1⟩
      · exact ⟨_, _, cC20 (mem_crk.mp hm).1⟩
    obtain ⟨ci, fs, o⟩ := ob
    have nk : cel q j ≠ q ∧ cel q j ≠ q + 1 := by
      rcases hl with ⟨rfl, g⟩ | ⟨rfl, g⟩ | ⟨rfl, g⟩ | ⟨rfl, g⟩
      · have h5 : j = 0 ∨ j = 1 ∨ j = 2 ∨ j = 3 ∨ j = 4 := by omega
        rcases h5 with rfl | rfl | rfl | rfl | rfl <;> exact ⟨by decide, by decide⟩
      · exact ⟨by show (7 : Nat) ≠ 8; decide, by show (7 : Nat) ≠ 9; decide⟩
      · exact ⟨by show (7 : Nat) ≠ 11; decide, by show (7 : Nat) ≠ 12; decide⟩
      · exact ⟨by show (20 : Nat) ≠ 13; decide, by show (20 : Nat) ≠ 14; decide⟩
    exact ⟨_, ci, fs, h.symm, o, fun e => nk.1 (Prod.mk.inj e).1, fun e => nk.2 (Prod.mk.inj e).1⟩
end LSO
section SH
variable {z : Nat × Nat} {ad ad' : Nat × Nat → Nat} {nm : Nat → Nat × Nat} {A L F F' : Nat} {I I' : Nat → Nat → Int32} {K : Nat → Nat → Int64} {k k' : Nat → Nat → Int32} {μ0 : jM} {y : Nat → Int64} {d : Nat}
theorem pI_r (h : I' 3 = I 3) : pI I' = pI I := by funext i; unfold pI; rw [h]
theorem tI_r (h : I' 4 = I 4) : tI I' = tI I := by funext i; unfold tI; rw [h]
theorem bI_r (h : I' 5 = I 5) : bI I' = bI I := by funext i; unfold bI; rw [h]
theorem pL_r (h : I' 11 = I 11) : pL I' = pL I := by funext i; unfold pL; rw [h]
theorem cpar_r (h : I' 3 = I 3) : cpar A I' = cpar A I := by funext i; unfold cpar; rw [h, pI_r h]
theorem cins_r (h : I' 13 = I 13) {x : Nat} : ∀ l, cins I' x l = cins I x l
  | [] => rfl
  | a :: l => by
    show (if I' 13 a ≤ I' 13 x then a :: cins I' x l else x :: a :: l) = (if I 13 a ≤ I 13 x then a :: cins I x l else x :: a :: l)
    rw [h, cins_r h l]
theorem crk_r (h : I' 11 = I 11) (h2 : I' 13 = I 13) {p : Nat} : ∀ n, crk I' p n = crk I p n
  | 0 => rfl
  | n + 1 => by
    show (if pL I' n = p then cins I' n (crk I' p n) else crk I' p n) = (if pL I n = p then cins I n (crk I p n) else crk I p n)
    rw [pL_r h, crk_r h h2 n, cins_r h2]
theorem clist_F (h : ∀ r, r < 15 → I' r = I r) {q j : Nat} (hq : q = 4 ∨ q = 8 ∨ q = 11 ∨ q = 13) (h43 : (q, j) ≠ (4, 3)) : clist A L F' I' q j = clist A L F I q j := by
  have e1 : ckids A I' j = ckids A I j := by unfold ckids; rw [cpar_r (h 3 (by decide))]
  have e2 : cmem A I' j = cmem A I j := by unfold cmem; rw [tI_r (h 4 (by decide))]
  have e3 : ctops A I' = ctops A I := by unfold ctops; rw [h 3 (by decide)]
  have e4 := crk_r (p := j) (h 11 (by decide)) (h 13 (by decide)) L
  unfold clist
  rw [e1, e2, e3, e4]
  by_cases j3 : j = 3
  · subst j3
    have : q ≠ 4 := fun e => h43 (by rw [e])
    rcases hq with rfl | rfl | rfl | rfl
    · exact absurd rfl this
    · rfl
    · rfl
    · rfl
  · simp only [if_neg j3]
theorem cC_F (h : ∀ r, r < 15 → I' r = I r) (h20 : I' 20 = I 20) {x : Nat × Nat} (hx : x.1 ≠ 21) (h43 : x ≠ (4, 3)) (h53 : x ≠ (5, 3)) (hk : ∀ a b, rdk x a b → k' a b = k a b) : cC z ad A L F' I' y K k' x = cC z ad A L F I y K k x := by
  obtain ⟨q, j⟩ := x
  by_cases hq : 22 ≤ q
  · rw [cC_big hq, cC_big hq]
  have cp : ∀ p, cisp A I' p ↔ cisp A I p := fun p => by unfold cisp; rw [h 3 (by decide)]
  have l4 : ∀ {q : Nat}, q = 4 ∨ q = 8 ∨ q = 11 ∨ q = 13 → (q, j) ≠ (4, 3) → clist A L F' I' q j = clist A L F I q j := fun a b => clist_F h a b
  have ar : ∀ {q : Nat}, q = 4 ∨ q = 8 ∨ q = 11 ∨ q = 13 → (q, j) ≠ (4, 3) → (.inl (3, ccap (clist A L F' I' q j).length, .inr (.inr (.inr (.inr (clar ad A L F' I' q j))))) : jE) = .inl (3, ccap (clist A L F I q j).length, .inr (.inr (.inr (.inr (clar ad A L F I q j))))) := by
    intro q a b; unfold clar; rw [l4 a b]
  have ob : ∀ {q : Nat}, q = 4 ∨ q = 8 ∨ q = 11 ∨ q = 13 → (q, j) ≠ (4, 3) → (∀ a b, rdk (q, j) a b → k' a b = k a b) → (.inr (2, clob z ad A L F' I' k' q j) : jE) = .inr (2, clob z ad A L F I k q j) := by
    intro q a b c; unfold clob; rw [l4 a b, c (10 + q) j (Or.inr (Or.inr ⟨a, rfl, rfl⟩))]
  have ne : ∀ {q : Nat} {c c' : Prop}, q = 4 ∨ q = 8 ∨ q = 11 ∨ q = 13 → (q, j) ≠ (4, 3) → (c' ↔ c) → ((c' ∧ clist A L F' I' q j ≠ []) ↔ (c ∧ clist A L F I q j ≠ [])) := by
    intro q c c' a b e; rw [l4 a b, e]
  have nn : ∀ {a b : Nat}, a ≠ b → ((a, j) : Nat × Nat) ≠ (b, 3) := fun h v => h (Prod.mk.inj v).1
  rcases q22 hq with rfl | rfl | rfl | rfl | rfl | rfl | rfl | rfl | rfl | rfl | rfl | rfl | rfl | rfl | rfl | rfl | rfl | rfl | rfl | rfl | rfl | rfl
  · exact if_c (fun _ => rfl)
  · exact if_c (fun c => by unfold cf1; rw [hk 0 1 (Or.inl ⟨rfl, c, rfl, rfl⟩)])
  · exact if_c (fun _ => rfl)
  · exact if_c (fun _ => by rw [h20])
  · exact if_c (fun _ => ob (by decide) h43 hk)
  · have h43' : ((4, j) : Nat × Nat) ≠ (4, 3) := fun v => h53 (by rw [(Prod.mk.inj v).2])
    exact if_cc (ne (by decide) h43' Iff.rfl) (fun _ => ar (by decide) h43')
  · exact if_c (fun _ => by unfold cf6; rw [h 14 (by decide)])
  · exact if_c (fun _ => by unfold cf7; rw [cpar_r (h 3 (by decide)), tI_r (h 4 (by decide)), bI_r (h 5 (by decide)), h 6 (by decide), h 7 (by decide), h 8 (by decide)])
  · exact if_c (fun _ => ob (by decide) (nn (by decide)) hk)
  · exact if_cc (ne (by decide) (nn (by decide)) Iff.rfl) (fun _ => ar (by decide) (nn (by decide)))
  · exact if_cc (cp j) (fun _ => rfl)
  · exact if_cc (cp j) (fun _ => ob (by decide) (nn (by decide)) hk)
  · exact if_cc (ne (by decide) (nn (by decide)) (cp j)) (fun _ => ar (by decide) (nn (by decide)))
  · exact if_cc (cp j) (fun _ => ob (by decide) (nn (by decide)) hk)
  · exact if_cc (ne (by decide) (nn (by decide)) (cp j)) (fun _ => ar (by decide) (nn (by decide)))
  · exact if_cc (cp _) (fun _ => by unfold cf15 srt; rw [h 9 (by decide), h 10 (by decide)])
  · exact if_cc (cp _) (fun _ => by
      have e : cmem A I' = cmem A I := by funext p; unfold cmem; rw [tI_r (h 4 (by decide))]
      unfold cwt; rw [e])
  · exact if_cc (cp _) (fun _ => rfl)
  · exact if_cc (cp _) (fun _ => rfl)
  · exact if_cc (cp _) (fun _ => rfl)
  · exact if_c (fun _ => by unfold cf20; rw [pL_r (h 11 (by decide)), h 12 (by decide), h 13 (by decide)])
  · exact absurd rfl hx
theorem fsI_lo {x x2 x3 x4 x5 : Int32} {r : Nat} (h : r < 15 ∨ 20 ≤ r) : fsI I F x x2 x3 x4 x5 r = I r := by
  unfold fsI
  rw [if_neg (by omega), if_neg (by omega), if_neg (by omega), if_neg (by omega), if_neg (by omega)]
theorem fsI_at {x x2 x3 x4 x5 : Int32} : fsI I F x x2 x3 x4 x5 15 F = x ∧ fsI I F x x2 x3 x4 x5 16 F = x2 ∧ fsI I F x x2 x3 x4 x5 17 F = x3 ∧ fsI I F x x2 x3 x4 x5 18 F = x4 ∧ fsI I F x x2 x3 x4 x5 19 F = x5 := by
  unfold fsI
  exact ⟨upd_at, upd_at, upd_at, upd_at, upd_at⟩
theorem fsI_no {x x2 x3 x4 x5 : Int32} {f r : Nat} (h : f ≠ F) : fsI I F x x2 x3 x4 x5 r f = I r f := by
  by_cases g : r < 15 ∨ 20 ≤ r
  · rw [fsI_lo g]
  · have : r = 15 ∨ r = 16 ∨ r = 17 ∨ r = 18 ∨ r = 19 := by omega
    rcases this with rfl | rfl | rfl | rfl | rfl <;> exact upd_no h
theorem cEn_F (hn : cEn A L F I) (hF : F < 20) {i : Nat} (hi : i < A) {x x2 x3 x4 x5 : Int32} (hx : x = nI i) : cEn A L (F + 1) (fsI I F x x2 x3 x4 x5) := by
  have lo : ∀ r, r < 15 → fsI I F x x2 x3 x4 x5 r = I r := fun r h => fsI_lo (Or.inl h)
  obtain ⟨a, b, c, d, e, f, g, h, j⟩ := hn
  refine ⟨a, b, by omega, ?_, ?_, ?_, ?_, ?_, ?_⟩
  · unfold parOk; rw [lo 3 (by decide)]; exact d
  · unfold acOk; rw [lo 4 (by decide), lo 5 (by decide), tI_r (lo 4 (by decide)), bI_r (lo 5 (by decide))]; exact e
  · unfold tpOk; rw [lo 3 (by decide), tI_r (lo 4 (by decide)), pI_r (lo 3 (by decide))]; exact f
  · rw [lo 11 (by decide), lo 3 (by decide), pL_r (lo 11 (by decide))]; exact g
  · intro f hf
    by_cases e : f = F
    · subst e
      have e2 : fA (fsI I f x x2 x3 x4 x5) f = i := by unfold fA; rw [fsI_at.1, hx]; exact nI_clamp (by omega)
      rw [e2, fsI_at.1]
      exact ⟨hx, hi⟩
    · have e2 : fA (fsI I F x x2 x3 x4 x5) f = fA I f := by unfold fA; rw [fsI_no e]
      rw [e2, fsI_no e]
      exact h f (by omega)
  · rw [lo 6 (by decide), lo 3 (by decide)]; exact j
/-- scratch with flow F -/
def fsk (k : Nat → Nat → Int32) (F : Nat) : Nat → Nat → Int32 := fun a b => if a = 14 ∧ b = 3 then k 14 3 + 1 else if (a = 1 ∨ a = 2) ∧ b = F then 0 else k a b
theorem c_schedule (h : cE ad nm A L F I) (hz : cM z ad nm A L F I y K k μ0 z.1 = some jZ0) (hzn : nm z.1 = (100, 0)) (hd : d ≤ 450) (s4 : y 108 = lN d) (y0 : F < 20 → y (88 + F) = 0) {x x2 x3 x4 x5 : Int32} {Q : Int32 → jM → Prop} {E : String → jM → Prop}
    (q : ∀ i, i < A → x = nI i → ((-1000000 ≤ x2 ∧ x2 ≤ 1000000) ∧ ¬ x2 = 0) → (nI d ≤ x3 ∧ x3 ≤ 450) → (1 ≤ x4 ∧ x4 ≤ 100) → (1 ≤ x5 ∧ x5 ≤ 30) → F < 20 → ∀ ad' nm' μ0' k', cE ad' nm' A L (F + 1) (fsI I F x x2 x3 x4 x5) → nxt nm μ0 nm' μ0' → ad' (0, 0) = ad (0, 0) → Q (nI F) (cM z ad' nm' A L (F + 1) (fsI I F x x2 x3 x4 x5) y K k' μ0'))
    (e : ¬ (0 ≤ x ∧ x < nI A) → E "java/lang/IndexOutOfBoundsException" (cM z ad nm A L F I y K k μ0)) (e2 : 0 ≤ x ∧ x < nI A → ¬ (((-1000000 ≤ x2 ∧ x2 ≤ 1000000) ∧ ¬ x2 = 0) ∧ (nI d ≤ x3 ∧ x3 ≤ 450) ∧ (1 ≤ x4 ∧ x4 ≤ 100) ∧ (1 ≤ x5 ∧ x5 ≤ 30)) → E "java/lang/IllegalArgumentException" (cM z ad nm A L F I y K k μ0)) (e3 : 0 ≤ x ∧ x < nI A → (((-1000000 ≤ x2 ∧ x2 ≤ 1000000) ∧ ¬ x2 = 0) ∧ (nI d ≤ x3 ∧ x3 ≤ 450) ∧ (1 ≤ x4 ∧ x4 ≤ 100) ∧ (1 ≤ x5 ∧ x5 ≤ 30)) → F = 20 → E "java/lang/IllegalStateException" (cM z ad nm A L F I y K k μ0)) : wX9_schedule z (ad (0, 0)) x x2 x3 x4 x5 (cM z ad nm A L F I y K k μ0) Q E := by
  have hA := h.2.1
  have hF := h.2.2.2.1
  have hl : clv A I 4 3 := Or.inl ⟨rfl, by decide⟩
  have hl3 : (clist A L F I 4 3).length = F := List.length_range
  unfold wX9_schedule wX9_schedule_0
  refine ⟨ch0 h.1, c_accountAt h (fun i hi ei => ?_) e⟩
  have r : 0 ≤ x ∧ x < nI A := by rw [ei]; exact ⟨nI_pos' (by omega), nI_lt hi (by omega)⟩
  refine c_amount (fun v2 => ⟨_, cg0_0 h.1, _, cg1_6 h.1, ?_⟩) (fun v2 => e2 r (fun w => v2 w.1))
  rw [s4, lN_i]
  refine c_within (fun v3 => c_within (fun v4 => c_within (fun v5 => ⟨_, cg0_0 h.1, _, cg1_3 h.1, _, ⟨rfl, c_lh h hl⟩, c_size h hl ?_⟩) (fun v5 => e2 r (fun w => v5 w.2.2.2))) (fun v4 => e2 r (fun w => v4 w.2.2.1))) (fun v3 => e2 r (fun w => v3 w.2.1))
  rw [hl3]
  refine ⟨fun c => ⟨_, cg0_0 h.1, _, cg1_3 h.1, ?_⟩, fun c => e3 r ⟨v2, v3, v4, v5⟩ (by have : ¬ F < 20 := fun g => c (nI_lt (b := 20) g (by decide)); omega)⟩
  have F20 : F < 20 := (nI_ltI (b := 20) (by omega) (by decide)).mp c
  have q := q i hi ei v2 v3 v4 v5 F20
  have y0 := y0 F20
  have G : gOk (cC z ad A L F I y K k) ad nm := cOk_gOk.mp h.1
  rw [cM_gM] at hz ⊢
  intro q20 hq20
  have x21 : cC z ad A L F I y K k (21, F) = none := if_neg (by omega)
  obtain ⟨g1, g2, g3⟩ := g_new (e := (.inr (7, jfX4) : jE)) G hq20 x21 (fun v => absurd (Prod.mk.inj v).1 (by decide))
  rw [g1]
  have hq21 : upA ad (21, F) q20 (21, F) = q20 := upA_at
  obtain ⟨p0, g2⟩ := g_fld (v := va_rf (some (ad (7, i)))) (μ0 := μ0) g2 hq21 (show 0 < 7 by decide)
  obtain ⟨p1, g2⟩ := g_fld (v := .int x2) (μ0 := μ0) g2 hq21 (show 1 < 7 by decide)
  obtain ⟨p2, g2⟩ := g_fld (v := .int x4) (μ0 := μ0) g2 hq21 (show 2 < 7 by decide)
  obtain ⟨p3, g2⟩ := g_fld (v := .int x3) (μ0 := μ0) g2 hq21 (show 3 < 7 by decide)
  obtain ⟨p4, g2⟩ := g_fld (v := .int x5) (μ0 := μ0) g2 hq21 (show 4 < 7 by decide)
  unfold wX4_init wX4_init_0
  refine ⟨_, p0, _, p1, _, p2, _, p3, _, p4, ?_⟩
  clear p0 p1 p2 p3 p4
  change gOk (upC (cC z ad A L F I y K k) (21, F) (.inr (7, [.ref (ad (7, i)), .int x2, .int x4, .int x3, .int x5, .int 0, .int 0]))) (upA ad (21, F) q20) (upN nm q20 (21, F)) at g2
  change ∃ b25 : Nat, (some (ad (4, 3)) = some b25 ∧ ∃ fs, gM (upC (cC z ad A L F I y K k) (21, F) (.inr (7, [.ref (ad (7, i)), .int x2, .int x4, .int x3, .int x5, .int 0, .int 0]))) (upN nm q20 (21, F)) μ0 b25 = some (.inr (2, fs))) ∧ wJx4a65c_add_9ea2d z b25 (some q20) (gM (upC (cC z ad A L F I y K k) (21, F) (.inr (7, [.ref (ad (7, i)), .int x2, .int x4, .int x3, .int x5, .int 0, .int 0]))) (upN nm q20 (21, F)) μ0) _
  have n43 : ((4, 3) : Nat × Nat) ≠ (21, F) := fun v => by cases v
  have n53 : ((5, 3) : Nat × Nat) ≠ (21, F) := fun v => by cases v
  have a43 : ad (4, 3) = upA ad (21, F) q20 (4, 3) := (upA_no n43).symm
  have a53 : ad (5, 3) = upA ad (21, F) q20 (5, 3) := (upA_no n53).symm
  have hz0 : μ0 z.1 = some jZ0 := by
    unfold gM at hz
    rw [hzn, G.2.2] at hz
    exact hz
  have zz1 : upN nm q20 (21, F) z.1 = (100, 0) := (g3 z.1 hzn (by rw [hz0]; exact fun v => by cases v)).1
  have hz1 : gM (upC (cC z ad A L F I y K k) (21, F) (.inr (7, [.ref (ad (7, i)), .int x2, .int x4, .int x3, .int x5, .int 0, .int 0]))) (upN nm q20 (21, F)) μ0 z.1 = some jZ0 := by
    unfold gM
    rw [zz1, g2.2.2]
    exact hz0
  have o43 := ls_o (z := z) (ad := ad) (L := L) (F := F) (y := y) (K := K) (k := k) hl
  rw [hl3] at o43
  generalize hC2 : upC (cC z ad A L F I y K k) (21, F) (.inr (7, [.ref (ad (7, i)), .int x2, .int x4, .int x3, .int x5, .int 0, .int 0])) = C2 at g2 hz1 ⊢
  have cx : ∀ w, w ≠ (21, F) → C2 w = cC z ad A L F I y K k w := fun w hw => by rw [← hC2]; exact upC_no hw
  have cF : C2 (21, F) = some (.inr (7, [.ref (ad (7, i)), .int x2, .int x4, .int x3, .int x5, .int 0, .int 0])) := by rw [← hC2]; exact upC_at
  have ho : C2 (4, 3) = some (.inr (2, [.int (k 14 3), .ref (if F = 0 then z.1 else upA ad (21, F) q20 (4 + 1, 3)), .int (nI F)])) := by
    rw [cx _ n43, o43, show upA ad (21, F) q20 (4 + 1, 3) = ad (4 + 1, 3) from a53.symm]
  rw [a43]
  refine ⟨_, ⟨rfl, g_here g2 ho⟩, g_add g2 hz1 zz1 (by omega) (by decide) ho (f := clar ad A L F I 4 3) (fun e => ?_) (fun e => ?_) (fun t ht => ?_) (fun t w hw => ?_) ⟨(21, F), 7, _, hq21.symm, cF, fun v => (by cases v), fun v => (by cases v)⟩ (fun ad' nm' μ0' k1 k2 k3 => ?_)⟩
  · have w := ls_a (z := z) (ad := ad) (L := L) (F := F) (y := y) (K := K) (k := k) hl (by rw [hl3]; exact e)
    rw [hl3] at w
    exact (cx _ n53).trans w
  · exact (cx _ n53).trans (ls_0 hl (by rw [hl3]; exact e))
  · exact ls_f (by rw [hl3]; exact ht)
  · obtain ⟨v, ci, fs, e1, e2, e3, e4⟩ := ls_O (z := z) (y := y) (K := K) (k := k) h.2 hl hw
    have ev : v ≠ (21, F) := fun g => by rw [g, x21] at e2; cases e2
    exact ⟨v, ci, fs, by rw [upA_no ev]; exact e1, (cx _ ev).trans e2, e3, e4⟩
  · have lo : ∀ r, r < 15 → fsI I F x x2 x3 x4 x5 r = I r := fun r h => fsI_lo (Or.inl h)
    have hn' := cEn_F (x2 := x2) (x3 := x3) (x4 := x4) (x5 := x5) h.2 F20 hi ei
    have l3' : (clist A L (F + 1) (fsI I F x x2 x3 x4 x5) 4 3).length = F + 1 := List.length_range
    have hl' : clv A (fsI I F x x2 x3 x4 x5) 4 3 := Or.inl ⟨rfl, by decide⟩
    have a7 : ∀ w, w ≠ (5, 3) → w ≠ (21, F) → ad' w = ad w := fun w w1 w2 => (k3 w w1).trans (upA_no w2)
    have aF : ad' (21, F) = q20 := (k3 _ (fun v => by cases v)).trans hq21
    have eC : lC C2 4 3 (k 14 3 + 1) (ad' (4 + 1, 3)) (F + 1) (ccap (F + 1)) (va_up (clar ad A L F I 4 3) F (some q20)) = cC z ad' A L (F + 1) (fsI I F x x2 x3 x4 x5) y K (fsk k F) := by
      funext w
      by_cases w1 : w = (4, 3)
      · subst w1
        have o := ls_o (z := z) (ad := ad') (L := L) (F := F + 1) (y := y) (K := K) (k := fsk k F) hl'
        rw [l3'] at o
        rw [lC_o, o, if_neg (by omega)]
        rfl
      · by_cases w2 : w = (5, 3)
        · subst w2
          have o := ls_a (z := z) (ad := ad') (L := L) (F := F + 1) (y := y) (K := K) (k := fsk k F) hl' (by rw [l3']; omega)
          rw [l3'] at o
          refine lC_a.trans (Eq.trans ?_ o.symm)
          have ef : va_up (clar ad A L F I 4 3) F (some q20) = clar ad' A L (F + 1) (fsI I F x x2 x3 x4 x5) 4 3 := by
            funext t
            show (if t = F then some q20 else ((List.range F)[t]?).map (fun x => ad (21, x))) = ((List.range (F + 1))[t]?).map (fun x => ad' (21, x))
            by_cases t1 : t = F
            · rw [if_pos t1, t1, List.getElem?_range (by omega)]
              exact congrArg some aF.symm
            · rw [if_neg t1]
              by_cases t2 : t < F
              · rw [List.getElem?_range t2, List.getElem?_range (by omega)]
                exact congrArg some (a7 _ (fun v => by cases v) (fun v => t1 (Prod.mk.inj v).2)).symm
              · rw [List.getElem?_eq_none (by rw [List.length_range]; omega), List.getElem?_eq_none (by rw [List.length_range]; omega)]
                rfl
          rw [ef]
        · rw [lC_x w1 w2]
          by_cases w3 : w = (21, F)
          · subst w3
            rw [cF, cC21 (show F < F + 1 by omega)]
            have f1 := fsI_at (I := I) (F := F) (x := x) (x2 := x2) (x3 := x3) (x4 := x4) (x5 := x5)
            have f2 : fA (fsI I F x x2 x3 x4 x5) F = i := by unfold fA; rw [f1.1, ei]; exact nI_clamp (by omega)
            unfold cf21
            rw [f2, f1.2.1, f1.2.2.1, f1.2.2.2.1, f1.2.2.2.2, y0, a7 (7, i) (fun v => by cases v) (fun v => by cases v)]
            have z0 : (0 : Int64).toInt32 = 0 := by decide
            rw [z0, Int32.zero_mul, Int32.add_zero, Int32.sub_zero]
            have k1 : fsk k F 1 F = 0 := by unfold fsk; rw [if_neg (by omega), if_pos (by omega)]
            have k2 : fsk k F 2 F = 0 := by unfold fsk; rw [if_neg (by omega), if_pos (by omega)]
            rw [k1, k2]
          · rw [cx w w3]
            by_cases w4 : w.1 = 21
            · obtain ⟨q, f⟩ := w
              have w4 : q = 21 := w4
              subst w4
              have fF : f ≠ F := fun v => w3 (by rw [v])
              show (if f < F then some (Sum.inr (7, cf21 ad I y k f)) else none) = (if f < F + 1 then some (Sum.inr (7, cf21 ad' (fsI I F x x2 x3 x4 x5) y (fsk k F) f)) else none)
              by_cases fl : f < F
              · rw [if_pos fl, if_pos (by omega)]
                have f2 : fA (fsI I F x x2 x3 x4 x5) f = fA I f := by unfold fA; rw [fsI_no fF]
                have k1 : fsk k F 1 f = k 1 f := by unfold fsk; rw [if_neg (by omega), if_neg (by omega)]
                have k2 : fsk k F 2 f = k 2 f := by unfold fsk; rw [if_neg (by omega), if_neg (by omega)]
                unfold cf21
                rw [f2, fsI_no fF, fsI_no fF, fsI_no fF, fsI_no fF, k1, k2, a7 (7, fA I f) (fun v => by cases v) (fun v => by cases v)]
              · rw [if_neg fl, if_neg (by omega)]
            · rw [cC_F lo (fsI_lo (Or.inr (by decide))) w4 w1 w2 (k := k) (F := F) (fun a b hr => ?_)]
              · refine (cC_ad h.2 (fun v hv ha => a7 v (fun g => ?_) (fun g => ?_))).symm
                · rw [g] at ha
                  exact w1 (ha (Or.inl rfl))
                · obtain ⟨o, ho⟩ := (cLv_iff (z := z) (ad := ad) (zz := y) (K := K) (k := k)).mp hv
                  rw [g, x21] at ho
                  cases ho
              · obtain ⟨wq, wj⟩ := w
                have : ¬ (wq = 4 ∧ wj = 3) := fun v => w1 (by rw [v.1, v.2])
                simp only [rdk] at hr
                have w4 : ¬ wq = 21 := w4
                unfold fsk
                rw [if_neg (by omega), if_neg (by omega)]
    have hc' : cE ad' nm' A L (F + 1) (fsI I F x x2 x3 x4 x5) := by
      refine ⟨(cOk_gOk (z := z) (y := y) (K := K) (k := fsk k F)).mpr ?_, hn'⟩
      rw [← eC]
      exact k1
    have w := q ad' nm' μ0' (fsk k F) hc' (nxt_tr g3 k2) (a7 _ (fun v => by cases v) (fun v => by cases v))
    rw [eC, ← cM_gM]
    have e00 : ad' (0, 0) = ad (0, 0) := a7 _ (fun v => by cases v) (fun v => by cases v)
    rw [← e00]
    refine ⟨_, cg0_0 hc'.1, _, cg1_3 hc'.1, _, ⟨rfl, c_lh hc' hl'⟩, c_size hc' hl' ?_⟩
    rw [l3', nI_pred]
    exact w
end SH
