/-! ===== a cell shows the addresses of live cells only ===== -/
section NA
variable {z : Nat × Nat} {ad ad' : Nat × Nat → Nat} {A L F : Nat} {I : Nat → Nat → Int32} {K : Nat → Nat → Int64} {k : Nat → Nat → Int32} {y : Nat → Int64}
theorem lv {x : Nat × Nat} {e : jE} (h : cC (0, 0) (fun _ => 0) A L F I (fun _ => 0) (fun _ _ => 0) (fun _ _ => 0) x = some e) : cLv A L F I x := cLv_iff.mpr ⟨e, h⟩
theorem lv_el (hn : cEn A L F I) {q j x : Nat} (hl : clv A I q j) (hx : x ∈ clist A L F I q j) : cLv A L F I (cel q j, x) := by
  rcases hl with ⟨rfl, h⟩ | ⟨rfl, h⟩ | ⟨rfl, h⟩ | ⟨rfl, h⟩
  · have h5 : j = 0 ∨ j = 1 ∨ j = 2 ∨ j = 3 ∨ j = 4 := by omega
    rcases h5 with rfl | rfl | rfl | rfl | rfl
    · exact lv (cC7 (List.mem_range.mp hx))
    · exact lv (cC7 (mem_ctops.mp hx).1)
    · exact lv (cC20 (List.mem_range.mp hx))
    · exact lv (cC21 (List.mem_range.mp hx))
    · exact lv (cC6 (List.mem_range.mp hx))
  · exact lv (cC7 (mem_kidsF.mp hx).1)
  · exact lv (cC7 (mem_cmem.mp hx).1)
  · exact lv (cC20 (mem_crk.mp hx).1)
theorem cC_ad (hn : cEn A L F I) {x : Nat × Nat} (he : ∀ w, cLv A L F I w → (w.1 = 5 ∨ w.1 = 9 ∨ w.1 = 12 ∨ w.1 = 14 → x = (w.1 - 1, w.2)) → ad' w = ad w) : cC z ad' A L F I y K k x = cC z ad A L F I y K k x := by
  obtain ⟨q, j⟩ := x
  by_cases hq : 22 ≤ q
  · rw [cC_big hq, cC_big hq]
  have no : ∀ {a b : Nat}, ¬ (a = 5 ∨ a = 9 ∨ a = 12 ∨ a = 14) → ((a, b) : Nat × Nat).1 = 5 ∨ ((a, b) : Nat × Nat).1 = 9 ∨ ((a, b) : Nat × Nat).1 = 12 ∨ ((a, b) : Nat × Nat).1 = 14 → (q, j) = (((a, b) : Nat × Nat).1 - 1, ((a, b) : Nat × Nat).2) := fun h v => absurd v h
  have l0 : ∀ {i : Nat}, i < A → ad' (7, i) = ad (7, i) := fun hi => he _ (lv (cC7 hi)) (no (by decide))
  have ob : ∀ {a : Nat}, clv A I a j → q = a → clob z ad' A L F I k a j = clob z ad A L F I k a j := by
    intro a hl e
    unfold clob
    by_cases ne : clist A L F I a j = []
    · rw [if_pos ne]
      simp [ne]
    · have : ad' (a + 1, j) = ad (a + 1, j) := he _ (lv (cC_ar hl ne)) (fun _ => by rw [e]; rfl)
      rw [this]
  have ar : ∀ {a : Nat}, clv A I a j → clar ad' A L F I a j = clar ad A L F I a j := by
    intro a hl
    funext i
    unfold clar
    cases hx : (clist A L F I a j)[i]? with
    | none => rfl
    | some w =>
      show some (ad' (cel a j, w)) = some (ad (cel a j, w))
      rw [he _ (lv_el hn hl (List.mem_of_getElem? hx)) (no ?_)]
      unfold cel
      split
      · decide
      split
      · decide
      split
      · decide
      split
      · decide
      split
      · decide
      split
      · decide
      · decide
  rcases q22 hq with rfl | rfl | rfl | rfl | rfl | rfl | rfl | rfl | rfl | rfl | rfl | rfl | rfl | rfl | rfl | rfl | rfl | rfl | rfl | rfl | rfl | rfl
  · exact if_c (fun _ => by unfold cf0; rw [he (1, 0) (lv cC1) (no (by decide))])
  · refine if_c (fun _ => ?_)
    have l4 : ∀ {i : Nat}, i < 5 → ad' (4, i) = ad (4, i) := fun hi => he _ (lv (cC_ob (Or.inl ⟨rfl, hi⟩))) (no (by decide))
    unfold cf1
    rw [l4 (show 0 < 5 by decide), l4 (show 1 < 5 by decide), l4 (show 2 < 5 by decide), l4 (show 3 < 5 by decide), l4 (show 4 < 5 by decide), he (2, 0) (lv cC2) (no (by decide))]
  · exact if_c (fun _ => by unfold cf2; rw [he (3, 0) (lv cC3) (no (by decide))])
  · exact if_c (fun _ => rfl)
  · exact if_c (fun c => by rw [ob (Or.inl ⟨rfl, c⟩) rfl])
  · exact if_c (fun c => by rw [ar (Or.inl ⟨rfl, c.1⟩)])
  · exact if_c (fun _ => rfl)
  · refine if_c (fun c => ?_)
    have ac := (hn.2.2.2.2.1 j c)
    have tp := hn.top j c
    have ep : (cpar A I j).map (fun p => ad' (7, p)) = (cpar A I j).map (fun p => ad (7, p)) := by
      unfold cpar
      by_cases g : j < A ∧ ¬ I 3 j = -1
      · rw [if_pos g]
        have := (pI_lt hn.2.2.2.1 hn.1 g.1 g.2).2
        show some (ad' (7, pI I j)) = some (ad (7, pI I j))
        rw [l0 (by omega)]
      · rw [if_neg g]; rfl
    unfold cf7
    rw [ep, he (10, tI I j) (lv (cC10 tp)) (no (by decide)), he (6, bI I j) (lv (cC6 ac.2.2.2)) (no (by decide)), he (8, j) (lv (cC_ob (Or.inr (Or.inl ⟨rfl, c⟩)))) (no (by decide))]
  · exact if_c (fun c => by rw [ob (Or.inr (Or.inl ⟨rfl, c⟩)) rfl])
  · exact if_c (fun c => by rw [ar (Or.inr (Or.inl ⟨rfl, c.1⟩))])
  · refine if_c (fun c => ?_)
    have c1 : cisp A I (2 * j / 2) := by rw [show 2 * j / 2 = j by omega]; exact c
    have c2 : cisp A I ((2 * j + 1) / 2) := by rw [show (2 * j + 1) / 2 = j by omega]; exact c
    unfold cf10
    rw [he (15, 2 * j) (lv (cC15 c1)) (no (by decide)), he (15, 2 * j + 1) (lv (cC15 c2)) (no (by decide)), he (11, j) (lv (cC_ob (Or.inr (Or.inr (Or.inl ⟨rfl, c⟩))))) (no (by decide)), he (13, j) (lv (cC_ob (Or.inr (Or.inr (Or.inr ⟨rfl, c⟩))))) (no (by decide))]
  · exact if_c (fun c => by rw [ob (Or.inr (Or.inr (Or.inl ⟨rfl, c⟩))) rfl])
  · exact if_c (fun c => by rw [ar (Or.inr (Or.inr (Or.inl ⟨rfl, c.1⟩)))])
  · exact if_c (fun c => by rw [ob (Or.inr (Or.inr (Or.inr ⟨rfl, c⟩))) rfl])
  · exact if_c (fun c => by rw [ar (Or.inr (Or.inr (Or.inr ⟨rfl, c.1⟩)))])
  · refine if_c (fun c => ?_)
    unfold cf15
    rw [he (16, j) (lv (cC16 c)) (no (by decide)), he (17, j) (lv (cC17 c)) (no (by decide)), he (18, j) (lv (cC18 c)) (no (by decide)), he (19, j) (lv (cC19 c)) (no (by decide))]
  · exact if_c (fun _ => rfl)
  · exact if_c (fun _ => rfl)
  · exact if_c (fun _ => rfl)
  · exact if_c (fun _ => rfl)
  · refine if_c (fun c => ?_)
    unfold cf20
    rw [l0 (hn.2.2.2.2.2.2.1 j c).2.1]
  · refine if_c (fun c => ?_)
    unfold cf21
    rw [l0 (hn.2.2.2.2.2.2.2.1 j c).2]
end NA
