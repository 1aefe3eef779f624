/-! ===== an account more: what stays ===== -/
/-- the rows differ at account A only, and only rows 3, 4, 5, 9, 10 -/
def aI (A : Nat) (I I' : Nat → Nat → Int32) : Prop := (∀ r j, j ≠ A → I' r j = I r j) ∧ ∀ r, r ≠ 3 → r ≠ 4 → r ≠ 5 → r ≠ 9 → r ≠ 10 → I' r = I r
section AA
variable {z : Nat × Nat} {ad : Nat × Nat → Nat} {nm : Nat → Nat × Nat} {A L F : Nat} {I I' : Nat → Nat → Int32} {K : Nat → Nat → Int64} {k k' : Nat → Nat → Int32} {μ0 : jM} {y : Nat → Int64}
theorem aI_add {pr tp bk cr db : Int32} : aI A I (addI A pr tp bk cr db I) := by
  refine ⟨fun r j hj => ?_, fun r h3 h4 h5 h9 h10 => ?_⟩
  · unfold addI
    by_cases e10 : r = 10
    · subst e10; rw [upR_at, upd_no hj]
    · rw [upR_o e10]
      by_cases e9 : r = 9
      · subst e9; rw [upR_at, upd_no hj]
      · rw [upR_o e9]
        by_cases e5 : r = 5
        · subst e5; rw [upR_at, upd_no hj]
        · rw [upR_o e5]
          by_cases e4 : r = 4
          · subst e4; rw [upR_at, upd_no hj]
          · rw [upR_o e4]
            by_cases e3 : r = 3
            · subst e3; rw [upR_at, upd_no hj]
            · rw [upR_o e3]
  · unfold addI
    rw [upR_o h10, upR_o h9, upR_o h5, upR_o h4, upR_o h3]
theorem addI_at {pr tp bk cr db : Int32} : addI A pr tp bk cr db I 3 A = pr ∧ addI A pr tp bk cr db I 4 A = tp ∧ addI A pr tp bk cr db I 5 A = bk ∧ addI A pr tp bk cr db I 9 A = cr ∧ addI A pr tp bk cr db I 10 A = db := by
  unfold addI
  exact ⟨upd_at, upd_at, upd_at, upd_at, upd_at⟩
theorem aI.pI (a : aI A I I') {j : Nat} (h : j ≠ A) : (I' 3 j).toNatClampNeg = (I 3 j).toNatClampNeg := by rw [a.1 3 j h]
theorem aI.cpar (a : aI A I I') {j : Nat} (h : j ≠ A) : cpar (A + 1) I' j = cpar A I j := by
  show (if j < A + 1 ∧ ¬ I' 3 j = -1 then some (I' 3 j).toNatClampNeg else none) = (if j < A ∧ ¬ I 3 j = -1 then some (I 3 j).toNatClampNeg else none)
  rw [a.1 3 j h]
  by_cases g : j < A
  · have : j < A + 1 := by omega
    simp only [g, this]
  · have : ¬ j < A + 1 := by omega
    simp only [g, this]
theorem filter_one {p : Nat → Bool} {a : Nat} : List.filter p [a] = if p a = true then [a] else [] := by
  cases h : p a <;> simp [h]
theorem kids_A (a : aI A I I') {j : Nat} : ckids (A + 1) I' j = ckids A I j ++ (if cpar (A + 1) I' A = some j then [A] else []) := by
  unfold ckids
  rw [List.range_succ, List.filter_append, filter_one]
  congr 1
  · refine List.filter_congr (fun c hc => ?_)
    rw [a.cpar (by have := List.mem_range.mp hc; omega)]
  · by_cases g : cpar (A + 1) I' A = some j
    · rw [if_pos g, if_pos (decide_eq_true g)]
    · rw [if_neg g, if_neg (fun v => g (of_decide_eq_true v))]
theorem mem_A (a : aI A I I') {p : Nat} : cmem (A + 1) I' p = cmem A I p ++ (if tI I' A = p then [A] else []) := by
  unfold cmem
  rw [List.range_succ, List.filter_append, filter_one]
  congr 1
  · refine List.filter_congr (fun c hc => ?_)
    have : tI I' c = tI I c := by unfold tI; rw [a.1 4 c (by have := List.mem_range.mp hc; omega)]
    rw [this]
  · by_cases g : tI I' A = p
    · rw [if_pos g, if_pos (decide_eq_true g)]
    · rw [if_neg g, if_neg (fun v => g (of_decide_eq_true v))]
theorem tops_A (a : aI A I I') : ctops (A + 1) I' = ctops A I ++ (if I' 3 A = -1 then [A] else []) := by
  unfold ctops
  rw [List.range_succ, List.filter_append, filter_one]
  congr 1
  · refine List.filter_congr (fun c hc => ?_)
    rw [a.1 3 c (by have := List.mem_range.mp hc; omega)]
  · by_cases g : I' 3 A = -1
    · rw [if_pos g, if_pos (decide_eq_true g)]
    · rw [if_neg g, if_neg (fun v => g (of_decide_eq_true v))]
theorem kids_no (hn : cEn A L F I) : ckids A I A = [] := by
  unfold ckids
  refine List.filter_eq_nil_iff.mpr (fun c hc v => ?_)
  obtain ⟨c1, c2, c3⟩ := cpar_A (of_decide_eq_true v)
  have := (pI_lt hn.2.2.2.1 hn.1 c1 c2).2
  omega
/-- the lists that change with account A: whose child it is, whose pool's, and the tops -/
theorem clist_A (a : aI A I I') {q j : Nat} (hq : q = 4 ∨ q = 8 ∨ q = 11 ∨ q = 13) (h40 : (q, j) ≠ (4, 0)) (h41 : (q, j) = (4, 1) → ¬ I' 3 A = -1) (h8 : q = 8 → cpar (A + 1) I' A ≠ some j) (h11 : q = 11 → tI I' A ≠ j) : clist (A + 1) L F I' q j = clist A L F I q j := by
  have e4 := crk_r (p := j) (a.2 11 (by decide) (by decide) (by decide) (by decide) (by decide)) (a.2 13 (by decide) (by decide) (by decide) (by decide) (by decide)) L
  rcases hq with rfl | rfl | rfl | rfl
  · have j0 : j ≠ 0 := fun e => h40 (by rw [e])
    by_cases j1 : j = 1
    · subst j1
      show ctops (A + 1) I' = ctops A I
      rw [tops_A a, if_neg (h41 rfl), List.append_nil]
    · have e : ∀ (B : Nat) (J : Nat → Nat → Int32), clist B L F J 4 j = (if j = 2 then List.range L else if j = 3 then List.range F else List.range 4) := by
        intro B J
        unfold clist
        rw [if_neg (by decide), if_neg (by decide), if_neg (by decide), if_neg j0, if_neg j1]
      rw [e, e]
  · show ckids (A + 1) I' j = ckids A I j
    rw [kids_A a, if_neg (h8 rfl), List.append_nil]
  · show cmem (A + 1) I' j = cmem A I j
    rw [mem_A a, if_neg (h11 rfl), List.append_nil]
  · exact e4
theorem cwt_A (a : aI A I I') (h3 : y (30 + A) = 0) (h4 : y (40 + A) = 0) {s : Nat} : cwt (A + 1) I' y s = cwt A I y s := by
  funext t
  unfold cwt
  rw [mem_A a]
  by_cases g : tI I' A = s / 2
  · rw [if_pos g]
    by_cases lt : t < (cmem A I (s / 2)).length
    · rw [List.getElem?_append_left lt]
    · rw [List.getElem?_append_right (by omega), List.getElem?_eq_none (l := cmem A I (s / 2)) (by omega)]
      by_cases e : t - (cmem A I (s / 2)).length = 0
      · rw [e]
        show y (sw1 s A) = 0
        rcases Nat.mod_two_eq_zero_or_one s with hs | hs
        · rw [sw1_0 hs]; exact h3
        · rw [sw1_1 hs]; exact h4
      · rw [List.getElem?_eq_none (by show 1 ≤ _; omega)]
  · rw [if_neg g, List.append_nil]
theorem cC_A (hn : cEn A L F I) (a : aI A I I') (h3 : y (30 + A) = 0) (h4 : y (40 + A) = 0) {w : Nat × Nat} (h7 : w ≠ (7, A)) (h8 : w ≠ (8, A)) (hl : ∀ q j, q = 4 ∨ q = 8 ∨ q = 11 ∨ q = 13 → w = (q, j) ∨ w = (q + 1, j) → clist (A + 1) L F I' q j = clist A L F I q j) (hp : 10 ≤ w.1 → w.1 ≤ 14 → (cisp (A + 1) I' w.2 ↔ cisp A I w.2)) (hp2 : 15 ≤ w.1 → w.1 ≤ 19 → (cisp (A + 1) I' (w.2 / 2) ↔ cisp A I (w.2 / 2))) (hk : ∀ a b, rdk w a b → k' a b = k a b) : cC z ad (A + 1) L F I' y K k' w = cC z ad A L F I y K k w := by
  obtain ⟨q, j⟩ := w
  by_cases hq : 22 ≤ q
  · rw [cC_big hq, cC_big hq]
  have lo : ∀ {r : Nat}, r ≠ 3 → r ≠ 4 → r ≠ 5 → r ≠ 9 → r ≠ 10 → I' r = I r := fun a1 a2 a3 a4 a5 => a.2 _ a1 a2 a3 a4 a5
  have ar : ∀ {q' : Nat}, q' = 4 ∨ q' = 8 ∨ q' = 11 ∨ q' = 13 → q = q' + 1 → (.inl (3, ccap (clist (A + 1) L F I' q' j).length, .inr (.inr (.inr (.inr (clar ad (A + 1) L F I' q' j))))) : jE) = .inl (3, ccap (clist A L F I q' j).length, .inr (.inr (.inr (.inr (clar ad A L F I q' j))))) := by
    intro q' b e; unfold clar; rw [hl q' j b (Or.inr (by rw [e]))]
  have ob : ∀ {q' : Nat}, q' = 4 ∨ q' = 8 ∨ q' = 11 ∨ q' = 13 → q = q' → (.inr (2, clob z ad (A + 1) L F I' k' q' j) : jE) = .inr (2, clob z ad A L F I k q' j) := by
    intro q' b e; unfold clob; rw [hl q' j b (Or.inl (by rw [e])), hk (10 + q') j (Or.inr (Or.inr ⟨by rw [e]; exact b, by rw [e], rfl⟩))]
  have ne : ∀ {q' : Nat} {c c' : Prop}, q' = 4 ∨ q' = 8 ∨ q' = 11 ∨ q' = 13 → q = q' + 1 → (c' ↔ c) → ((c' ∧ clist (A + 1) L F I' q' j ≠ []) ↔ (c ∧ clist A L F I q' j ≠ [])) := by
    intro q' c c' b e d; rw [hl q' j b (Or.inr (by rw [e])), d]
  have hp : 10 ≤ q → q ≤ 14 → (cisp (A + 1) I' j ↔ cisp A I j) := hp
  have hp2 : 15 ≤ q → q ≤ 19 → (cisp (A + 1) I' (j / 2) ↔ cisp A I (j / 2)) := hp2
  rcases q22 hq with rfl | rfl | rfl | rfl | rfl | rfl | rfl | rfl | rfl | rfl | rfl | rfl | rfl | rfl | rfl | rfl | rfl | rfl | rfl | rfl | rfl | rfl
  · exact if_c (fun _ => rfl)
  · exact if_c (fun c => by unfold cf1; rw [hk 0 1 (Or.inl ⟨rfl, c, rfl, rfl⟩)])
  · exact if_c (fun _ => rfl)
  · exact if_c (fun _ => by rw [lo (by decide) (by decide) (by decide) (by decide) (by decide)])
  · exact if_c (fun _ => ob (by decide) rfl)
  · exact if_cc (ne (by decide) rfl Iff.rfl) (fun _ => ar (by decide) rfl)
  · exact if_c (fun _ => by unfold cf6; rw [lo (r := 14) (by decide) (by decide) (by decide) (by decide) (by decide)])
  · have jA : j ≠ A := fun e => h7 (by rw [e])
    refine if_cc (by omega) (fun _ => ?_)
    have e1 : tI I' j = tI I j := by unfold tI; rw [a.1 4 j jA]
    have e2 : bI I' j = bI I j := by unfold bI; rw [a.1 5 j jA]
    unfold cf7
    rw [a.cpar jA, e1, e2, lo (r := 6) (by decide) (by decide) (by decide) (by decide) (by decide), lo (r := 7) (by decide) (by decide) (by decide) (by decide) (by decide), lo (r := 8) (by decide) (by decide) (by decide) (by decide) (by decide)]
  · have jA : j ≠ A := fun e => h8 (by rw [e])
    exact if_cc (by omega) (fun _ => ob (by decide) rfl)
  · by_cases jA : j = A
    · have jA := jA.symm
      subst jA
      have e1 : clist A L F I 8 A = [] := kids_no hn
      have e2 := hl 8 A (by decide) (Or.inr rfl)
      show (if A < A + 1 ∧ clist (A + 1) L F I' 8 A ≠ [] then _ else none) = (if A < A ∧ clist A L F I 8 A ≠ [] then _ else none)
      rw [if_neg (fun v => v.2 (e2.trans e1)), if_neg (fun v => v.2 e1)]
    · exact if_cc (ne (by decide) rfl (by omega)) (fun _ => ar (by decide) rfl)
  · exact if_cc (hp (by decide) (by decide)) (fun _ => rfl)
  · exact if_cc (hp (by decide) (by decide)) (fun _ => ob (by decide) rfl)
  · exact if_cc (ne (by decide) rfl (hp (by decide) (by decide))) (fun _ => ar (by decide) rfl)
  · exact if_cc (hp (by decide) (by decide)) (fun _ => ob (by decide) rfl)
  · exact if_cc (ne (by decide) rfl (hp (by decide) (by decide))) (fun _ => ar (by decide) rfl)
  · refine if_cc (hp2 (by decide) (by decide)) (fun c => ?_)
    have jA : j / 2 ≠ A := fun e => by have := c.1; omega
    unfold cf15 srt
    rw [a.1 9 _ jA, a.1 10 _ jA]
  · exact if_cc (hp2 (by decide) (by decide)) (fun _ => by rw [cwt_A a h3 h4])
  · exact if_cc (hp2 (by decide) (by decide)) (fun _ => rfl)
  · exact if_cc (hp2 (by decide) (by decide)) (fun _ => rfl)
  · exact if_cc (hp2 (by decide) (by decide)) (fun _ => rfl)
  · exact if_c (fun _ => by unfold cf20; rw [pL_r (lo (by decide) (by decide) (by decide) (by decide) (by decide)), lo (r := 12) (by decide) (by decide) (by decide) (by decide) (by decide), lo (r := 13) (by decide) (by decide) (by decide) (by decide) (by decide)])
  · refine if_c (fun _ => ?_)
    have e1 : fA I' j = fA I j := by unfold fA; rw [lo (r := 15) (by decide) (by decide) (by decide) (by decide) (by decide)]
    unfold cf21
    rw [show k' 1 (21, j).2 = k 1 j from hk 1 j (Or.inr (Or.inl ⟨rfl, rfl, Or.inl rfl⟩)), show k' 2 (21, j).2 = k 2 j from hk 2 j (Or.inr (Or.inl ⟨rfl, rfl, Or.inr rfl⟩)), e1, lo (r := 16) (by decide) (by decide) (by decide) (by decide) (by decide), lo (r := 17) (by decide) (by decide) (by decide) (by decide) (by decide), lo (r := 18) (by decide) (by decide) (by decide) (by decide) (by decide), lo (r := 19) (by decide) (by decide) (by decide) (by decide) (by decide)]
end AA
