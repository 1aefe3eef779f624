/-! ===== the class's calls that set: rows 6, 7, 8 (rules and floors), 14 (limits), 19 (times), 20 (holidays) ===== -/
/-- the rest of the rows is the same -/
def sI (I I' : Nat → Nat → Int32) : Prop := ∀ r, r ≠ 6 → r ≠ 7 → r ≠ 8 → r ≠ 14 → r ≠ 19 → r ≠ 20 → I' r = I r
section SI
variable {z : Nat × Nat} {ad : Nat × Nat → Nat} {nm : Nat → Nat × Nat} {A L F : Nat} {I I' : Nat → Nat → Int32} {K : Nat → Nat → Int64} {k : Nat → Nat → Int32} {μ0 : jM} {y : Nat → Int64}
theorem sI.r3 (s : sI I I') : I' 3 = I 3 := s 3 (by decide) (by decide) (by decide) (by decide) (by decide) (by decide)
theorem sI.r4 (s : sI I I') : I' 4 = I 4 := s 4 (by decide) (by decide) (by decide) (by decide) (by decide) (by decide)
theorem sI.r5 (s : sI I I') : I' 5 = I 5 := s 5 (by decide) (by decide) (by decide) (by decide) (by decide) (by decide)
theorem sI.r9 (s : sI I I') : I' 9 = I 9 := s 9 (by decide) (by decide) (by decide) (by decide) (by decide) (by decide)
theorem sI.r10 (s : sI I I') : I' 10 = I 10 := s 10 (by decide) (by decide) (by decide) (by decide) (by decide) (by decide)
theorem sI.r11 (s : sI I I') : I' 11 = I 11 := s 11 (by decide) (by decide) (by decide) (by decide) (by decide) (by decide)
theorem sI.r12 (s : sI I I') : I' 12 = I 12 := s 12 (by decide) (by decide) (by decide) (by decide) (by decide) (by decide)
theorem sI.r13 (s : sI I I') : I' 13 = I 13 := s 13 (by decide) (by decide) (by decide) (by decide) (by decide) (by decide)
theorem sI.r15 (s : sI I I') : I' 15 = I 15 := s 15 (by decide) (by decide) (by decide) (by decide) (by decide) (by decide)
theorem sI.r16 (s : sI I I') : I' 16 = I 16 := s 16 (by decide) (by decide) (by decide) (by decide) (by decide) (by decide)
theorem sI.r17 (s : sI I I') : I' 17 = I 17 := s 17 (by decide) (by decide) (by decide) (by decide) (by decide) (by decide)
theorem sI.r18 (s : sI I I') : I' 18 = I 18 := s 18 (by decide) (by decide) (by decide) (by decide) (by decide) (by decide)
theorem sI.e_pI (s : sI I I') : pI I' = pI I := by funext i; show (I' 3 i).toNatClampNeg = (I 3 i).toNatClampNeg; rw [s.r3]
theorem sI.e_tI (s : sI I I') : tI I' = tI I := by funext i; show (I' 4 i).toNatClampNeg = (I 4 i).toNatClampNeg; rw [s.r4]
theorem sI.e_bI (s : sI I I') : bI I' = bI I := by funext i; show (I' 5 i).toNatClampNeg = (I 5 i).toNatClampNeg; rw [s.r5]
theorem sI.e_pL (s : sI I I') : pL I' = pL I := by funext i; show (I' 11 i).toNatClampNeg = (I 11 i).toNatClampNeg; rw [s.r11]
theorem sI.e_fA (s : sI I I') : fA I' = fA I := by funext i; show (I' 15 i).toNatClampNeg = (I 15 i).toNatClampNeg; rw [s.r15]
theorem sI.e_cpar (s : sI I I') : cpar A I' = cpar A I := by funext i; show (if i < A ∧ ¬ I' 3 i = -1 then some (pI I' i) else none) = _; rw [s.r3, s.e_pI]; rfl
theorem sI.e_cins (s : sI I I') {x : Nat} : ∀ l, cins I' x l = cins I x l
  | [] => rfl
  | a :: l => by
    show (if I' 13 a ≤ I' 13 x then a :: cins I' x l else x :: a :: l) = (if I 13 a ≤ I 13 x then a :: cins I x l else x :: a :: l)
    rw [s.r13, s.e_cins l]
theorem sI.e_crk (s : sI I I') {p : Nat} : ∀ n, crk I' p n = crk I p n
  | 0 => rfl
  | n + 1 => by
    show (if pL I' n = p then cins I' n (crk I' p n) else crk I' p n) = (if pL I n = p then cins I n (crk I p n) else crk I p n)
    rw [s.e_pL, s.e_crk n, s.e_cins]
theorem sI.e_clist (s : sI I I') {q j : Nat} : clist A L F I' q j = clist A L F I q j := by
  have e1 : ckids A I' j = ckids A I j := by unfold ckids; rw [s.e_cpar]
  have e2 : cmem A I' j = cmem A I j := by unfold cmem; rw [s.e_tI]
  have e3 : ctops A I' = ctops A I := by unfold ctops; rw [s.r3]
  show (if q = 8 then ckids A I' j else if q = 11 then cmem A I' j else if q = 13 then crk I' j L else if j = 0 then List.range A else if j = 1 then ctops A I' else if j = 2 then List.range L else if j = 3 then List.range F else List.range 4) = _
  rw [e1, e2, e3, s.e_crk]
  rfl
theorem if_cc {α : Type} {c c' : Prop} [Decidable c] [Decidable c'] {a b : α} (hc : c' ↔ c) (h : c → a = b) : (if c' then some a else none) = (if c then some b else none) := by
  by_cases g : c
  · rw [if_pos g, if_pos (hc.mpr g), h g]
  · rw [if_neg g, if_neg (fun v => g (hc.mp v))]
theorem sI.e_clob (s : sI I I') {q j : Nat} : clob z ad A L F I' k q j = clob z ad A L F I k q j := by
  show [Value.int (k (10 + q) j), Value.ref (if clist A L F I' q j = [] then z.1 else ad (q + 1, j)), Value.int (nI (clist A L F I' q j).length)] = _
  rw [s.e_clist]
  rfl
theorem sI.e_clar (s : sI I I') {q j : Nat} : clar ad A L F I' q j = clar ad A L F I q j := by
  unfold clar
  rw [s.e_clist]
theorem cC_I (s : sI I I') {x : Nat × Nat} (h7 : ∀ j, x = (7, j) → I' 6 j = I 6 j ∧ I' 7 j = I 7 j ∧ I' 8 j = I 8 j) (h6 : ∀ j, x = (6, j) → I' 14 j = I 14 j) (h21 : ∀ j, x = (21, j) → I' 19 j = I 19 j) (h3 : x = (3, 0) → I' 20 = I 20) : cC z ad A L F I' y K k x = cC z ad A L F I y K k x := by
  obtain ⟨q, j⟩ := x
  by_cases hq : 22 ≤ q
  · rw [cC_big hq, cC_big hq]
  have cp : ∀ p, cisp A I' p ↔ cisp A I p := fun p => by unfold cisp; rw [s.r3]
  have ar : ∀ {q : Nat}, (.inl (3, ccap (clist A L F I' q j).length, .inr (.inr (.inr (.inr (clar ad A L F I' q j))))) : jE) = .inl (3, ccap (clist A L F I q j).length, .inr (.inr (.inr (.inr (clar ad A L F I q j))))) := by
    intro q; rw [s.e_clar, s.e_clist]
  have ob : ∀ {q : Nat}, (.inr (2, clob z ad A L F I' k q j) : jE) = .inr (2, clob z ad A L F I k q j) := by
    intro q; rw [s.e_clob]
  have ne : ∀ {q : Nat} {c c' : Prop}, (c' ↔ c) → ((c' ∧ clist A L F I' q j ≠ []) ↔ (c ∧ clist A L F I q j ≠ [])) := by
    intro q c c' e; rw [s.e_clist, e]
  rcases q22 hq with rfl | rfl | rfl | rfl | rfl | rfl | rfl | rfl | rfl | rfl | rfl | rfl | rfl | rfl | rfl | rfl | rfl | rfl | rfl | rfl | rfl | rfl
  · exact if_c (fun _ => rfl)
  · exact if_c (fun _ => rfl)
  · exact if_c (fun _ => rfl)
  · exact if_c (fun e => by rw [h3 (pr_eq rfl e)])
  · exact if_c (fun _ => ob)
  · exact if_cc (ne Iff.rfl) (fun _ => ar)
  · exact if_c (fun _ => by unfold cf6; rw [h6 j rfl])
  · exact if_c (fun _ => by unfold cf7; rw [(h7 j rfl).1, (h7 j rfl).2.1, (h7 j rfl).2.2, s.e_cpar, s.e_tI, s.e_bI])
  · exact if_c (fun _ => ob)
  · exact if_cc (ne Iff.rfl) (fun _ => ar)
  · exact if_cc (cp j) (fun _ => rfl)
  · exact if_cc (cp j) (fun _ => ob)
  · exact if_cc (ne (cp j)) (fun _ => ar)
  · exact if_cc (cp j) (fun _ => ob)
  · exact if_cc (ne (cp j)) (fun _ => ar)
  · exact if_cc (cp _) (fun _ => by unfold cf15 srt; rw [s.r9, s.r10])
  · exact if_cc (cp _) (fun _ => by
      have e : cmem A I' = cmem A I := by funext p; unfold cmem; rw [s.e_tI]
      unfold cwt; rw [e])
  · exact if_cc (cp _) (fun _ => rfl)
  · exact if_cc (cp _) (fun _ => rfl)
  · exact if_cc (cp _) (fun _ => rfl)
  · exact if_c (fun _ => by unfold cf20; rw [s.e_pL, s.r12, s.r13])
  · exact if_c (fun _ => by unfold cf21; rw [h21 j rfl, s.e_fA, s.r16, s.r17, s.r18])
theorem cLv_I (s : sI I I') {x : Nat × Nat} : cLv A L F I' x ↔ cLv A L F I x := by
  have a : ∀ J : Nat → Nat → Int32, sI I J → (cLv A L F J x ↔ cLv A L F I x) := by
    intro J sJ
    obtain ⟨q, j⟩ := x
    unfold cLv
    by_cases hq : 22 ≤ q
    · rw [cC_big hq, cC_big hq]
    have cp : ∀ p, cisp A J p ↔ cisp A I p := fun p => by unfold cisp; rw [sJ.r3]
    have ne : ∀ {q : Nat} {c c' : Prop}, (c' ↔ c) → ((c' ∧ clist A L F J q j ≠ []) ↔ (c ∧ clist A L F I q j ≠ [])) := by
      intro q c c' e; rw [sJ.e_clist, e]
    have so : ∀ {c c' : Prop} [Decidable c] [Decidable c'] {a b : jE}, (c' ↔ c) → ((if c' then some a else none).isSome = true ↔ (if c then some b else none).isSome = true) := by
      intro c c' _ _ a b e
      by_cases g : c
      · rw [if_pos g, if_pos (e.mpr g)]; exact Iff.rfl
      · rw [if_neg g, if_neg (fun v => g (e.mp v))]
    rcases q22 hq with rfl | rfl | rfl | rfl | rfl | rfl | rfl | rfl | rfl | rfl | rfl | rfl | rfl | rfl | rfl | rfl | rfl | rfl | rfl | rfl | rfl | rfl
    · exact so Iff.rfl
    · exact so Iff.rfl
    · exact so Iff.rfl
    · exact so Iff.rfl
    · exact so Iff.rfl
    · exact so (ne Iff.rfl)
    · exact so Iff.rfl
    · exact so Iff.rfl
    · exact so Iff.rfl
    · exact so (ne Iff.rfl)
    · exact so (cp j)
    · exact so (cp j)
    · exact so (ne (cp j))
    · exact so (cp j)
    · exact so (ne (cp j))
    · exact so (cp _)
    · exact so (cp _)
    · exact so (cp _)
    · exact so (cp _)
    · exact so (cp _)
    · exact so Iff.rfl
    · exact so Iff.rfl
  exact a I' s
theorem cEn_I (s : sI I I') (h6 : ∀ i, i < A → (I' 6 i = 0 ∨ I' 6 i = 1 ∨ I' 6 i = 2 ∨ I' 6 i = 3) ∧ (I 3 i = -1 → I' 6 i = 0)) (h : cEn A L F I) : cEn A L F I' := by
  obtain ⟨a, b, c, d, e, f, g, i, -⟩ := h
  refine ⟨a, b, c, ?_, ?_, ?_, ?_, ?_, ?_⟩
  · unfold parOk; rw [s.r3]; exact d
  · unfold acOk; rw [s.r4, s.r5, s.e_tI, s.e_bI]; exact e
  · unfold tpOk; rw [s.r3, s.e_tI, s.e_pI]; exact f
  · rw [s.r11, s.r3, s.e_pL]; exact g
  · rw [s.r15, s.e_fA]; exact i
  · rw [s.r3]; exact h6
theorem cE_I (s : sI I I') (h6 : ∀ i, i < A → (I' 6 i = 0 ∨ I' 6 i = 1 ∨ I' 6 i = 2 ∨ I' 6 i = 3) ∧ (I 3 i = -1 → I' 6 i = 0)) (h : cE ad nm A L F I) : cE ad nm A L F I' :=
  ⟨⟨fun x hx => h.1.1 x ((cLv_I s).mp hx), fun a => by
    rcases h.1.2 a with v | v
    · exact Or.inl v
    · exact Or.inr ⟨(cLv_I s).mpr v.1, v.2⟩⟩, cEn_I s h6 h.2⟩
theorem cw7_I (h : cE ad nm A L F I) {j f : Nat} (hj : j < A) {v : Value} (s : sI I I') (hf : f < 12) (e : cf7 ad A I' y K j = (cf7 ad A I y K j).set f v) (h7 : ∀ i, i ≠ j → I' 6 i = I 6 i ∧ I' 7 i = I 7 i ∧ I' 8 i = I 8 i) (e14 : I' 14 = I 14) (e19 : I' 19 = I 19) (e20 : I' 20 = I 20) : jp (cM z ad nm A L F I y K k μ0) (some (ad (7, j))) 3 f v = some (cM z ad nm A L F I' y K k μ0) :=
  (jp_at (ca7 h.1 hj) hf).trans (congrArg some (cM_up h.1 (cC7 hj) ((cC7 hj).trans (congrArg (fun l => (some (Sum.inr (3, l)) : Option jE)) e)) (fun x hx => cC_I s (fun i ei => h7 i (fun v => hx (by rw [ei, v]))) (fun i _ => by rw [e14]) (fun i _ => by rw [e19]) (fun _ => e20))))
theorem upR_at {α : Type} {f : Nat → Nat → α} {r : Nat} {g : Nat → α} : upR f r g r = g := if_pos rfl
theorem upR_oj {f : Nat → Nat → Int32} {k j i : Nat} {g : Nat → Int32} (h : j ≠ k) : upR f k g j i = f j i := by rw [upR_o h]
theorem upd_at {f : Nat → Int32} {i : Nat} {v : Int32} : upd f i v i = v := if_pos rfl
theorem upd_no {f : Nat → Int32} {i j : Nat} {v : Int32} (h : j ≠ i) : upd f i v j = f j := if_neg h
theorem sI_up {r : Nat} {g : Nat → Int32} (h : r = 6 ∨ r = 7 ∨ r = 8 ∨ r = 14 ∨ r = 19 ∨ r = 20) : sI I (upR I r g) := fun r' h1 h2 h3 h4 h5 h6 => upR_o (by omega)
theorem cw7_5 (h : cE ad nm A L F I) {j : Nat} (hj : j < A) {v : Int32} : jp (cM z ad nm A L F I y K k μ0) (some (ad (7, j))) 3 5 (.int v) = some (cM z ad nm A L F (upR I 6 (upd (I 6) j v)) y K k μ0) := by
  refine cw7_I h hj (sI_up (by omega)) (by decide) ?_ (fun i hi => ⟨?_, upR_oj (by decide), upR_oj (by decide)⟩) (upR_o (by decide)) (upR_o (by decide)) (upR_o (by decide))
  · have s : sI I (upR I 6 (upd (I 6) j v)) := sI_up (by omega)
    unfold cf7
    rw [s.e_cpar, s.e_tI, s.e_bI, upR_at, upd_at, upR_o (by decide), upR_o (by decide)]
    rfl
  · rw [upR_at, upd_no hi]
theorem cw7_6 (h : cE ad nm A L F I) {j : Nat} (hj : j < A) {v : Int32} : jp (cM z ad nm A L F I y K k μ0) (some (ad (7, j))) 3 6 (.int v) = some (cM z ad nm A L F (upR I 7 (upd (I 7) j v)) y K k μ0) := by
  refine cw7_I h hj (sI_up (by omega)) (by decide) ?_ (fun i hi => ⟨upR_oj (by decide), ?_, upR_oj (by decide)⟩) (upR_o (by decide)) (upR_o (by decide)) (upR_o (by decide))
  · have s : sI I (upR I 7 (upd (I 7) j v)) := sI_up (by omega)
    unfold cf7
    rw [s.e_cpar, s.e_tI, s.e_bI, upR_at, upd_at, upR_o (by decide), upR_o (by decide)]
    rfl
  · rw [upR_at, upd_no hi]
theorem cw7_7 (h : cE ad nm A L F I) {j : Nat} (hj : j < A) {v : Int32} : jp (cM z ad nm A L F I y K k μ0) (some (ad (7, j))) 3 7 (.int v) = some (cM z ad nm A L F (upR I 8 (upd (I 8) j v)) y K k μ0) := by
  refine cw7_I h hj (sI_up (by omega)) (by decide) ?_ (fun i hi => ⟨upR_oj (by decide), upR_oj (by decide), ?_⟩) (upR_o (by decide)) (upR_o (by decide)) (upR_o (by decide))
  · have s : sI I (upR I 8 (upd (I 8) j v)) := sI_up (by omega)
    unfold cf7
    rw [s.e_cpar, s.e_tI, s.e_bI, upR_at, upd_at, upR_o (by decide), upR_o (by decide)]
    rfl
  · rw [upR_at, upd_no hi]
theorem cw6_1 (h : cE ad nm A L F I) {j : Nat} (hj : j < 4) {v : Int32} : jp (cM z ad nm A L F I y K k μ0) (some (ad (6, j))) 4 1 (.int v) = some (cM z ad nm A L F (upR I 14 (upd (I 14) j v)) y K k μ0) := by
  have s : sI I (upR I 14 (upd (I 14) j v)) := sI_up (by omega)
  have e : cf6 (upR I 14 (upd (I 14) j v)) K j = (cf6 I K j).set 1 (.int v) := by
    unfold cf6
    rw [upR_at, upd_at]
    rfl
  refine (jp_at (ca6 h.1 hj) (show 1 < 3 by decide)).trans (congrArg some (cM_up h.1 (cC6 hj) ((cC6 hj).trans (congrArg (fun l => (some (Sum.inr (4, l)) : Option jE)) e)) (fun x hx => cC_I s (fun i _ => ⟨?_, ?_, ?_⟩) (fun i ei => ?_) (fun i _ => ?_) (fun _ => upR_o (by decide)))))
  · rw [upR_o (by decide)]
  · rw [upR_o (by decide)]
  · rw [upR_o (by decide)]
  · rw [upR_at, upd_no (fun v => hx (by rw [ei, v]))]
  · rw [upR_o (by decide)]
theorem cw21_4i (h : cE ad nm A L F I) {j : Nat} (hj : j < F) : jp (cM z ad nm A L F I y K k μ0) (some (ad (21, j))) 7 4 (.int 0) = some (cM z ad nm A L F (upR I 19 (upd (I 19) j (I 19 j - leftF I y j))) y K k μ0) := by
  have s : sI I (upR I 19 (upd (I 19) j (I 19 j - leftF I y j))) := sI_up (by omega)
  have z1 : ∀ a b : Int32, a - (a - b) - b = 0 := fun a b => by
    rw [Int32.sub_eq_add_neg, Int32.sub_eq_add_neg, Int32.sub_eq_add_neg, Int32.neg_add, Int32.sub_neg, ← Int32.add_assoc, Int32.add_right_neg, Int32.zero_add, Int32.add_right_neg]
  have e : cf21 ad (upR I 19 (upd (I 19) j (I 19 j - leftF I y j))) y k j = (cf21 ad I y k j).set 4 (.int 0) := by
    unfold cf21
    rw [s.e_fA, s.r16, s.r17, s.r18, upR_at, upd_at]
    unfold leftF
    rw [z1]
    rfl
  refine (jp_at (ca21 h.1 hj) (show 4 < 7 by decide)).trans (congrArg some (cM_up h.1 (cC21 hj) ((cC21 hj).trans (congrArg (fun l => (some (Sum.inr (7, l)) : Option jE)) e)) (fun x hx => cC_I s (fun i _ => ⟨?_, ?_, ?_⟩) (fun i _ => ?_) (fun i ei => ?_) (fun _ => upR_o (by decide)))))
  · rw [upR_o (by decide)]
  · rw [upR_o (by decide)]
  · rw [upR_o (by decide)]
  · rw [upR_o (by decide)]
  · rw [upR_at, upd_no (fun v => hx (by rw [ei, v]))]
theorem cw3 (h : cE ad nm A L F I) {j : Nat} {x v : Int32} (hj : j < 451) (hx : x = nI j) : jsi 2 (cM z ad nm A L F I y K k μ0) (some (ad (3, 0))) x v = some (cM z ad nm A L F (upR I 20 (upd (I 20) j v)) y K k μ0) := by
  have s : sI I (upR I 20 (upd (I 20) j v)) := sI_up (by omega)
  have c3 : cC z ad A L F I y K k (3, 0) = some (.inl (2, 451, .inl (I 20))) := rfl
  have c3' : cC z ad A L F (upR I 20 (upd (I 20) j v)) y K k (3, 0) = some (.inl (2, 451, .inl (upd (I 20) j v))) := by
    show some (Sum.inl (2, 451, Sum.inl (upR I 20 (upd (I 20) j v) 20))) = _
    rw [upR_at]
  refine (jsi_at (cM_at h.1 c3) hj (by decide) hx).trans (congrArg some (cM_up h.1 c3 c3' (fun x hx => cC_I s (fun i _ => ⟨?_, ?_, ?_⟩) (fun i _ => ?_) (fun i _ => ?_) (fun ei => absurd ei hx))))
  · rw [upR_o (by decide)]
  · rw [upR_o (by decide)]
  · rw [upR_o (by decide)]
  · rw [upR_o (by decide)]
  · rw [upR_o (by decide)]
/-! the calls -/
theorem c_setRule (h : cE ad nm A L F I) {x x2 x3 : Int32} {Q : Int32 → jM → Prop} {X : String → jM → Prop} (q : ∀ i, i < A → x = nI i → ((0 ≤ x2 ∧ x2 ≤ 3) ∧ (-1000000 ≤ x3 ∧ x3 ≤ 1000000)) → ¬ I 3 i = -1 → Q (I 6 i) (cM z ad nm A L F (upR (upR I 6 (upd (I 6) i x2)) 7 (upd (I 7) i x3)) y K k μ0)) (e : ¬ (0 ≤ x ∧ x < nI A) → X "java/lang/IndexOutOfBoundsException" (cM z ad nm A L F I y K k μ0)) (e2 : 0 ≤ x ∧ x < nI A → ¬ ((0 ≤ x2 ∧ x2 ≤ 3) ∧ (-1000000 ≤ x3 ∧ x3 ≤ 1000000)) → X "java/lang/IllegalArgumentException" (cM z ad nm A L F I y K k μ0)) (e3 : ∀ i, i < A → x = nI i → ((0 ≤ x2 ∧ x2 ≤ 3) ∧ (-1000000 ≤ x3 ∧ x3 ≤ 1000000)) → I 3 i = -1 → X "java/lang/IllegalStateException" (cM z ad nm A L F I y K k μ0)) : wX9_setRule z (ad (0, 0)) x x2 x3 (cM z ad nm A L F I y K k μ0) Q X := by
  have hA := h.2.1
  unfold wX9_setRule wX9_setRule_0
  refine ⟨ch0 h.1, c_accountAt h (fun i hi ei => ?_) e⟩
  have r : 0 ≤ x ∧ x < nI A := by rw [ei]; exact ⟨nI_pos' (by omega), nI_lt hi (by omega)⟩
  refine c_within (fun v2 => c_within (fun v3 => ⟨_, cg7_1 h.1 hi, ?_⟩) (fun v3 => e2 r (fun w => v3 w.2))) (fun v2 => e2 r (fun w => v2 w.1))
  unfold cpar
  by_cases c : I 3 i = -1
  · rw [if_neg (fun v => v.2 c)]
    exact ⟨fun v => absurd rfl v, fun _ => e3 i hi ei ⟨v2, v3⟩ c⟩
  · rw [if_pos ⟨hi, c⟩]
    refine ⟨fun _ => ⟨_, cg7_5 h.1 hi, _, cw7_5 h hi, ?_⟩, fun v => (by cases v)⟩
    have h' : cE ad nm A L F (upR I 6 (upd (I 6) i x2)) := by
      refine cE_I (sI_up (by omega)) (fun j hj => ?_) h
      rw [upR_at]
      by_cases ej : j = i
      · subst ej
        rw [upd_at]
        obtain ⟨d, hd, ed⟩ := nI_of2 (M := 3) (n := 3) rfl (Int32.not_lt.mpr v2.1) v2.2
        have e4 : d = 0 ∨ d = 1 ∨ d = 2 ∨ d = 3 := by omega
        refine ⟨?_, fun t => absurd t c⟩
        rcases e4 with rfl | rfl | rfl | rfl
        · exact Or.inl ed
        · exact Or.inr (Or.inl ed)
        · exact Or.inr (Or.inr (Or.inl ed))
        · exact Or.inr (Or.inr (Or.inr ed))
      · rw [upd_no ej]
        exact h.2.2.2.2.2.2.2.2.2 j hj
    have w := cw7_6 (z := z) (y := y) (K := K) (k := k) (μ0 := μ0) (v := x3) h' hi
    rw [show upR I 6 (upd (I 6) i x2) 7 = I 7 from upR_o (by decide)] at w
    exact ⟨_, w, q i hi ei ⟨v2, v3⟩ c⟩
theorem c_setFloor (h : cE ad nm A L F I) {x x2 : Int32} {Q : Int32 → jM → Prop} {X : String → jM → Prop} (q : ∀ i, i < A → x = nI i → -1000000 ≤ x2 ∧ x2 ≤ 1000000 → Q (I 8 i) (cM z ad nm A L F (upR I 8 (upd (I 8) i x2)) y K k μ0)) (e : ¬ (0 ≤ x ∧ x < nI A) → X "java/lang/IndexOutOfBoundsException" (cM z ad nm A L F I y K k μ0)) (e2 : 0 ≤ x ∧ x < nI A → ¬ (-1000000 ≤ x2 ∧ x2 ≤ 1000000) → X "java/lang/IllegalArgumentException" (cM z ad nm A L F I y K k μ0)) : wX9_setFloor z (ad (0, 0)) x x2 (cM z ad nm A L F I y K k μ0) Q X := by
  have hA := h.2.1
  unfold wX9_setFloor wX9_setFloor_0
  refine ⟨ch0 h.1, c_accountAt h (fun i hi ei => ?_) e⟩
  exact c_within (fun v => ⟨_, cg7_7 h.1 hi, _, cw7_7 h hi, q i hi ei v⟩) (fun v => e2 (by rw [ei]; exact ⟨nI_pos' (by omega), nI_lt hi (by omega)⟩) v)
theorem c_setBankLimit (h : cE ad nm A L F I) {x x2 : Int32} {Q : Int32 → jM → Prop} {X : String → jM → Prop} (q : ∀ i, i < 4 → x = nI i → -1 ≤ x2 ∧ x2 ≤ 1000000000 → Q (I 14 i) (cM z ad nm A L F (upR I 14 (upd (I 14) i x2)) y K k μ0)) (e : ¬ ((0 ≤ x ∧ x ≤ 3) ∧ (-1 ≤ x2 ∧ x2 ≤ 1000000000)) → X "java/lang/IllegalArgumentException" (cM z ad nm A L F I y K k μ0)) : wX9_setBankLimit z (ad (0, 0)) x x2 (cM z ad nm A L F I y K k μ0) Q X := by
  unfold wX9_setBankLimit wX9_setBankLimit_0
  refine ⟨ch0 h.1, c_bankAt h (fun i hi ei => ?_) (fun v => e (fun w => v w.1))⟩
  exact c_within (fun v => ⟨_, cg6_1 h.1 hi, _, cw6_1 h hi, q i hi ei v⟩) (fun v => e (fun w => v w.2))
theorem c_cancel (h : cE ad nm A L F I) {x : Int32} {Q : Int32 → jM → Prop} {X : String → jM → Prop} (q : ∀ i, i < F → x = nI i → Q (leftF I y i) (cM z ad nm A L F (upR I 19 (upd (I 19) i (I 19 i - leftF I y i))) y K k μ0)) (e : ¬ (0 ≤ x ∧ x < nI F) → X "java/lang/IndexOutOfBoundsException" (cM z ad nm A L F I y K k μ0)) : wX9_cancel z (ad (0, 0)) x (cM z ad nm A L F I y K k μ0) Q X := by
  unfold wX9_cancel wX9_cancel_0
  exact ⟨ch0 h.1, c_flowAt h (fun i hi ei => ⟨_, cg21_4 h.1 hi, _, cw21_4i h hi, q i hi ei⟩) e⟩
end SI
