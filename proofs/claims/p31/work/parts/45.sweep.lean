/-! ===== the class sweeps ===== -/
theorem foldS_flat {σ : Type} (S : Nat → σ → σ) (f : Nat → List Nat) : ∀ (l : List Nat) (y : σ), foldS S (l.flatMap f) y = foldS (fun c y => foldS S (f c) y) l y
  | [], _ => rfl
  | a :: l, y => by rw [List.flatMap_cons, foldS_app, foldS_flat S f l]; rfl
theorem updL_same {y : Nat → Int64} {i : Nat} : vp_updL y i (y i) = y := by
  funext j
  unfold vp_updL
  split
  · rename_i e; rw [e]
  · rfl
theorem updL_comm {y : Nat → Int64} {i j : Nat} {a b : Int64} (h : i ≠ j) : vp_updL (vp_updL y i a) j b = vp_updL (vp_updL y j b) i a := by
  funext m
  unfold vp_updL
  by_cases h1 : m = i
  · by_cases h2 : m = j
    · exact absurd (h1.symm.trans h2) h
    · rw [if_neg h2, if_pos h1, if_pos h1]
  · by_cases h2 : m = j
    · rw [if_pos h2, if_neg h1, if_pos h2]
    · rw [if_neg h2, if_neg h1, if_neg h1, if_neg h2]
/-- what an account that holds v gets from a parent that holds w -/
def ptF (I : Nat → Nat → Int32) (i : Nat) (v w : Int64) : Int64 :=
  if (if (0 : Int64) < w - (I 8 (pI I i)).toInt64 then w - (I 8 (pI I i)).toInt64 else 0) < (if (0 : Int64) < -(surpF I i v) then -(surpF I i v) else 0) then (if (0 : Int64) < w - (I 8 (pI I i)).toInt64 then w - (I 8 (pI I i)).toInt64 else 0) else (if (0 : Int64) < -(surpF I i v) then -(surpF I i v) else 0)
def dnC (I : Nat → Nat → Int32) (i : Nat) (y : Nat → Int64) : Nat → Int64 :=
  if I 3 i = -1 then y else vp_updL (vp_updL y i (y i + ptF I i (y i) (y (pI I i)))) (pI I i) (y (pI I i) - ptF I i (y i) (y (pI I i)))
section SW
variable {z : Nat × Nat} {ad : Nat × Nat → Nat} {nm : Nat → Nat × Nat} {A L F : Nat} {I : Nat → Nat → Int32} {K : Nat → Nat → Int64} {k : Nat → Nat → Int32} {μ0 : jM}
theorem cpar_n {i : Nat} (h : I 3 i = -1) : cpar A I i = none := if_neg (fun e => e.2 h)
theorem cpar_s {i : Nat} (hi : i < A) (h : ¬ I 3 i = -1) : cpar A I i = some (pI I i) := if_pos ⟨hi, h⟩
theorem cE.par (h : cE ad nm A L F I) {i : Nat} (hi : i < A) (ht : ¬ I 3 i = -1) : I 3 i = nI (pI I i) ∧ pI I i < i := pI_lt h.2.2.2.2.1 h.2.1 hi ht
theorem c_surplusOf (h : cE ad nm A L F I) {zz : Nat → Int64} {i : Nat} (hi : i < A) {v : Int64} {Q : Int64 → jM → Prop} (q : Q (surpF I i v) (cM z ad nm A L F I zz K k μ0)) : wX0_surplusOf z (ad (7, i)) v (cM z ad nm A L F I zz K k μ0) Q := by
  have hr := (h.2.2.2.2.2.2.2.2.2 i hi).1
  unfold wX0_surplusOf wX0_surplusOf_0
  refine ⟨_, cg7_5 h.1 hi, fun c => ⟨_, cg7_6 h.1 hi, ?_⟩, fun c => ⟨fun d => ⟨_, cg7_6 h.1 hi, ?_⟩, fun d => ⟨fun e => ⟨_, cg7_6 h.1 hi, ?_⟩, fun e => ?_⟩⟩⟩
  · unfold surpF at q
    rw [c, if_neg (fun y => y.elim (by decide) (fun y => y.elim (fun y => absurd y.1 (by decide)) (fun y => absurd y.1 (by decide))))] at q
    exact q
  · unfold surpF at q
    rw [d] at q
    by_cases hp : (0 : Int64) < v - (I 7 i).toInt64
    · rw [if_pos hp]
      rw [if_neg (fun y => y.elim (by decide) (fun y => y.elim (fun y => absurd y.2 (Int64.not_lt.mpr (Int64.le_of_lt hp))) (fun y => absurd y.1 (by decide))))] at q
      exact q
    · rw [if_neg hp]
      by_cases hn : v - (I 7 i).toInt64 < 0
      · rw [if_pos (Or.inr (Or.inl ⟨rfl, hn⟩))] at q
        exact q
      · have e0 : v - (I 7 i).toInt64 = 0 := Int64.le_antisymm (Int64.not_lt.mp hp) (Int64.not_lt.mp hn)
        rw [e0] at q
        rw [if_neg (fun y => y.elim (by decide) (fun y => y.elim (fun y => absurd y.2 (by decide)) (fun y => absurd y.1 (by decide))))] at q
        exact q
  · unfold surpF at q
    rw [e] at q
    by_cases hp : (0 : Int64) < v - (I 7 i).toInt64
    · rw [if_pos hp]
      rw [if_pos (Or.inr (Or.inr ⟨rfl, hp⟩))] at q
      exact q
    · rw [if_neg hp]
      rw [if_neg (fun y => y.elim (by decide) (fun y => y.elim (fun y => absurd y.1 (by decide)) (fun y => hp y.2)))] at q
      exact q
  · have h0 : I 6 i = 0 := by
      rcases hr with r | r | r | r
      · exact r
      · exact absurd r c
      · exact absurd r d
      · exact absurd r e
    unfold surpF at q
    rw [if_pos (Or.inl h0)] at q
    exact q
theorem c_sweepUp (h : cE ad nm A L F I) : ∀ (n i d : Nat), i < A → n + d = 12 → d ≤ i → ∀ (zz : Nat → Int64) (Q : Unit → jM → Prop), Q () (cM z ad nm A L F I (foldS (upS I) (post A (cpar A I) n i) zz) K k μ0) → wX8_sweepUp z n (some (ad (7, i))) (nI d) (cM z ad nm A L F I zz K k μ0) Q := by
  intro n
  induction n with
  | zero => intro i d hi hn hd; have := h.2.1; omega
  | succ n ih =>
    intro i d hi hn hd zz Q q
    have hA := h.2.1
    have hl : clv A I 8 i := Or.inr (Or.inl ⟨rfl, hi⟩)
    show wX8_sweepUp_0 z (wX8_sweepUp z n) Q (some (ad (7, i))) (nI d) _
    unfold wX8_sweepUp_0
    refine ⟨fun _ => ?_, fun c => absurd (show nI d ≤ nI 10 from nI_le (by omega) (by omega)) c⟩
    intro v1 e1
    subst e1
    refine jforl (fun f j y => wX8_sweepUp_9 z (wX8_sweepUp z n) Q f (some (ad (7, i))) (nI d) (nI j) (cM z ad nm A L F I y K k μ0)) (clist A L F I 8 i) (fun c y => foldS (upS I) (post A (cpar A I) n c) y) zz ?_ ?_
    · intro f j c y hx _ hw
      show wX8_sweepUp_9_b z (wX8_sweepUp z n) Q (wX8_sweepUp_9 z (wX8_sweepUp z n) Q f) (some (ad (7, i))) (nI d) (nI j) _
      unfold wX8_sweepUp_9_b
      have hc := mem_kidsF.mp (List.mem_of_getElem? hx)
      have hpc : cpar A I c = some i := hc.2
      have hci : i < c := by
        by_cases ht : I 3 c = -1
        · rw [cpar_n ht] at hpc; cases hpc
        · rw [cpar_s hc.1 ht] at hpc
          have := (h.par hc.1 ht).2
          cases hpc
          exact this
      refine ⟨_, cg7_4 h.1 hi, _, ⟨rfl, c_lh h hl⟩, c_size h hl ⟨fun e => absurd e (lst_le hx (clist_len h.2)), fun _ => ⟨_, cg7_4 h.1 hi, _, ⟨rfl, c_lh h hl⟩, c_get h hl hx rfl ⟨cj7 h.1 hc.1, ?_⟩⟩⟩⟩
      rw [nI_1]
      refine ih c (d + 1) hc.1 (by omega) (by omega) y _ ?_
      intro v23 e23
      rw [e23, nI_1]
      exact hw
    · show wX8_sweepUp_9_b z (wX8_sweepUp z n) Q (wX8_sweepUp_9 z (wX8_sweepUp z n) Q 0) (some (ad (7, i))) (nI d) _ _
      unfold wX8_sweepUp_9_b
      have eq1 : foldS (upS I) (post A (cpar A I) (n + 1) i) zz = upS I i (foldS (fun c y => foldS (upS I) (post A (cpar A I) n c) y) (clist A L F I 8 i) zz) := by
        show foldS (upS I) ((kidsF A (cpar A I) i).flatMap (post A (cpar A I) n) ++ [i]) zz = _
        rw [foldS_app, foldS_flat]
        rfl
      rw [eq1] at q
      generalize foldS (fun c y => foldS (upS I) (post A (cpar A I) n c) y) (clist A L F I 8 i) zz = y at q ⊢
      refine ⟨_, cg7_4 h.1 hi, _, ⟨rfl, c_lh h hl⟩, c_size h hl ⟨fun _ => ⟨_, cg7_8 h.1 hi, _, ⟨rfl, ch7 h.1 hi⟩, c_surplusOf h hi ?_⟩, fun e => absurd (Int32.le_refl _) e⟩⟩
      intro v9 e9
      refine ⟨_, cg7_1 h.1 hi, ?_⟩
      by_cases ht : I 3 i = -1
      · rw [cpar_n ht]
        refine ⟨fun _ => ?_, fun e => absurd rfl e⟩
        unfold upS at q
        rw [if_neg (fun e => e.1 ht)] at q
        exact q
      · obtain ⟨ep, lp⟩ := h.par hi ht
        have lpA : pI I i < A := by omega
        have hne : pI I i ≠ i := by omega
        rw [cpar_s hi ht]
        refine ⟨fun e => (by cases e), fun _ => ⟨_, cg7_8 h.1 hi, _, cw7_8 h hi, _, cg7_1 h.1 hi, ?_⟩⟩
        rw [cpar_s hi ht]
        refine ⟨_, cg7_8 h.1 lpA, _, cw7_8 h lpA, ?_⟩
        unfold upS at q
        by_cases hs : 0 < surpF I i (y i)
        · rw [if_pos hs] at e9
          rw [if_pos ⟨ht, hs⟩] at q
          rw [e9]
          exact q
        · rw [if_neg hs] at e9
          rw [if_neg (fun e => hs e.2)] at q
          rw [e9, Int64.sub_zero, updL_same, Int64.add_zero, updL_same]
          exact q
theorem c_partOf (h : cE ad nm A L F I) {zz : Nat → Int64} {i : Nat} (hi : i < A) {v w : Int64} {Q : Int64 → jM → Prop} (q : Q (if I 3 i = -1 then 0 else ptF I i v w) (cM z ad nm A L F I zz K k μ0)) : wX8_partOf z (some (ad (7, i))) v w (cM z ad nm A L F I zz K k μ0) Q := by
  unfold wX8_partOf wX8_partOf_0
  refine ⟨_, cg7_1 h.1 hi, fun c => ?_, fun c => ?_⟩
  · have ht : ¬ I 3 i = -1 := fun e => c (by rw [cpar_n e]; rfl)
    have lp := (h.par hi ht).2
    rw [if_neg ht] at q
    refine ⟨_, ⟨rfl, ch7 h.1 hi⟩, c_surplusOf h hi ?_⟩
    intro v5 e5
    refine ⟨_, cg7_1 h.1 hi, ?_⟩
    rw [cpar_s hi ht]
    refine ⟨_, cg7_7 h.1 (show pI I i < A by omega), ?_⟩
    intro v8 e8
    rw [e5, e8]
    exact q
  · have ht : I 3 i = -1 := by
      by_cases e : I 3 i = -1
      · exact e
      · rw [cpar_s hi e] at c; cases c
    rw [if_pos ht] at q
    exact q
theorem c_sweepDown (h : cE ad nm A L F I) : ∀ (n i d : Nat), i < A → n + d = 12 → d ≤ i → ∀ (zz : Nat → Int64) (Q : Unit → jM → Prop), Q () (cM z ad nm A L F I (foldS (dnC I) (pre A (cpar A I) n i) zz) K k μ0) → wX8_sweepDown z n (some (ad (7, i))) (nI d) (cM z ad nm A L F I zz K k μ0) Q := by
  intro n
  induction n with
  | zero => intro i d hi hn hd; have := h.2.1; omega
  | succ n ih =>
    intro i d hi hn hd zz Q q
    have hA := h.2.1
    have hl : clv A I 8 i := Or.inr (Or.inl ⟨rfl, hi⟩)
    show wX8_sweepDown_0 z (wX8_sweepDown z n) Q (some (ad (7, i))) (nI d) _
    unfold wX8_sweepDown_0
    have eq1 : foldS (dnC I) (pre A (cpar A I) (n + 1) i) zz = foldS (fun c y => foldS (dnC I) (pre A (cpar A I) n c) y) (clist A L F I 8 i) (dnC I i zz) := by
      show foldS (dnC I) (i :: (kidsF A (cpar A I) i).flatMap (pre A (cpar A I) n)) zz = _
      rw [foldS_cons, foldS_flat]
      rfl
    rw [eq1] at q
    have loop : ∀ y : Nat → Int64, Q () (cM z ad nm A L F I (foldS (fun c y => foldS (dnC I) (pre A (cpar A I) n c) y) (clist A L F I 8 i) y) K k μ0) → ∃ n3, wX8_sweepDown_55 z (wX8_sweepDown z n) Q n3 (some (ad (7, i))) (nI d) (nI 0) (cM z ad nm A L F I y K k μ0) := by
      intro y0 q0
      refine jforl (fun f j y => wX8_sweepDown_55 z (wX8_sweepDown z n) Q f (some (ad (7, i))) (nI d) (nI j) (cM z ad nm A L F I y K k μ0)) (clist A L F I 8 i) (fun c y => foldS (dnC I) (pre A (cpar A I) n c) y) y0 ?_ ?_
      · intro f j c y hx _ hw
        show wX8_sweepDown_55_b z (wX8_sweepDown z n) Q (wX8_sweepDown_55 z (wX8_sweepDown z n) Q f) (some (ad (7, i))) (nI d) (nI j) _
        unfold wX8_sweepDown_55_b
        have hc := mem_kidsF.mp (List.mem_of_getElem? hx)
        have hpc : cpar A I c = some i := hc.2
        have hci : i < c := by
          by_cases ht : I 3 c = -1
          · rw [cpar_n ht] at hpc; cases hpc
          · rw [cpar_s hc.1 ht] at hpc
            have := (h.par hc.1 ht).2
            cases hpc
            exact this
        refine ⟨_, cg7_4 h.1 hi, _, ⟨rfl, c_lh h hl⟩, c_size h hl ⟨fun e => absurd e (lst_le hx (clist_len h.2)), fun _ => ⟨_, cg7_4 h.1 hi, _, ⟨rfl, c_lh h hl⟩, c_get h hl hx rfl ⟨cj7 h.1 hc.1, ?_⟩⟩⟩⟩
        rw [nI_1]
        refine ih c (d + 1) hc.1 (by omega) (by omega) y _ ?_
        intro v23 e23
        rw [e23, nI_1]
        exact hw
      · show wX8_sweepDown_55_b z (wX8_sweepDown z n) Q (wX8_sweepDown_55 z (wX8_sweepDown z n) Q 0) (some (ad (7, i))) (nI d) _ _
        unfold wX8_sweepDown_55_b
        exact ⟨_, cg7_4 h.1 hi, _, ⟨rfl, c_lh h hl⟩, c_size h hl ⟨fun _ => q0, fun e => absurd (Int32.le_refl _) e⟩⟩
    refine ⟨fun _ => ⟨_, cg7_1 h.1 hi, fun c => ?_, fun c => ?_⟩, fun c => absurd (show nI d ≤ nI 10 from nI_le (by omega) (by omega)) c⟩
    · have ht : I 3 i = -1 := by
        by_cases e : I 3 i = -1
        · exact e
        · rw [cpar_s hi e] at c; cases c
      intro v2 e2
      rw [e2]
      refine loop zz ?_
      have e3 : dnC I i zz = zz := if_pos ht
      rw [e3] at q
      exact q
    · have ht : ¬ I 3 i = -1 := fun e => c (by rw [cpar_n e]; rfl)
      have lp := (h.par hi ht).2
      have lpA : pI I i < A := by omega
      refine ⟨_, cg7_8 h.1 hi, _, cg7_1 h.1 hi, ?_⟩
      rw [cpar_s hi ht]
      refine ⟨_, cg7_8 h.1 lpA, c_partOf h hi ?_⟩
      rw [if_neg ht]
      refine ⟨_, cg7_8 h.1 hi, _, cw7_8 h hi, _, cg7_1 h.1 hi, ?_⟩
      rw [cpar_s hi ht]
      refine ⟨_, cg7_8 h.1 lpA, _, cw7_8 h lpA, ?_⟩
      intro v14 e14
      rw [e14]
      refine loop _ ?_
      have e3 : dnC I i zz = vp_updL (vp_updL zz i (zz i + ptF I i (zz i) (zz (pI I i)))) (pI I i) (vp_updL zz i (zz i + ptF I i (zz i) (zz (pI I i))) (pI I i) - ptF I i (zz i) (zz (pI I i))) := by
        rw [pk_uLn (show pI I i ≠ i by omega)]
        exact if_neg ht
      rw [e3] at q
      exact q
/-- a pool's sweep, in the class's order -/
def swC (A : Nat) (I : Nat → Nat → Int32) (t : Nat) (y : Nat → Int64) : Nat → Int64 := foldS (dnC I) (pre A (cpar A I) 12 t) (foldS (upS I) (post A (cpar A I) 12 t) y)
theorem c_sweep (h : cE ad nm A L F I) {zz : Nat → Int64} {t : Nat} (ht : t < A) {Q : Unit → jM → Prop} (q : Q () (cM z ad nm A L F I (swC A I t zz) K k μ0)) : wX8_sweep z (some (ad (7, t))) (cM z ad nm A L F I zz K k μ0) Q := by
  unfold wX8_sweep wX8_sweep_0
  exact c_sweepUp h 12 t 0 ht rfl (Nat.zero_le _) zz _ (c_sweepDown h 12 t 0 ht rfl (Nat.zero_le _) _ _ q)
theorem mem_ctops {t : Nat} : t ∈ ctops A I ↔ t < A ∧ I 3 t = -1 := by simp [ctops]
theorem c_sweepPools (h : cE ad nm A L F I) {zz : Nat → Int64} {Q : Unit → jM → Prop} (q : Q () (cM z ad nm A L F I (foldS (swC A I) (ctops A I) zz) K k μ0)) : wX3_sweepPools z (ad (1, 0)) (cM z ad nm A L F I zz K k μ0) Q := by
  have hl : clv A I 4 1 := Or.inl ⟨rfl, by decide⟩
  unfold wX3_sweepPools wX3_sweepPools_0
  intro v1 e1
  subst e1
  refine jforl (fun f j y => wX3_sweepPools_2 z (ad (1, 0)) Q f (nI j) (cM z ad nm A L F I y K k μ0)) (clist A L F I 4 1) (swC A I) zz ?_ ?_
  · intro f j t y hx _ hw
    show wX3_sweepPools_2_b z (ad (1, 0)) Q (wX3_sweepPools_2 z (ad (1, 0)) Q f) (nI j) _
    unfold wX3_sweepPools_2_b
    have ht := mem_ctops.mp (List.mem_of_getElem? hx)
    refine ⟨_, cg1_1 h.1, _, ⟨rfl, c_lh h hl⟩, c_size h hl ⟨fun e => absurd e (lst_le hx (clist_len h.2)), fun _ => ⟨_, cg1_1 h.1, _, ⟨rfl, c_lh h hl⟩, c_get h hl hx rfl ⟨cj7 h.1 ht.1, c_sweep h ht.1 ?_⟩⟩⟩⟩
    intro v12 e12
    rw [e12, nI_1]
    exact hw
  · show wX3_sweepPools_2_b z (ad (1, 0)) Q (wX3_sweepPools_2 z (ad (1, 0)) Q 0) _ _
    unfold wX3_sweepPools_2_b
    exact ⟨_, cg1_1 h.1, _, ⟨rfl, c_lh h hl⟩, c_size h hl ⟨fun _ => q, fun e => absurd (Int32.le_refl _) e⟩⟩
end SW
