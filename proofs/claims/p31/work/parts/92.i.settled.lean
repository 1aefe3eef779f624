/-! ===== behind the moves of a settlement day no bank can be eased, and pools are short only with all drawn ===== -/
def sdV (A L : Nat) (I : Nat → Nat → Int32) (y : Nat → Int64) : Prop :=
  (∀ k j, k < A → j < A → tI I j = tI I k → 0 < (y k).toInt → ¬ I 14 (bI I k) = -1 → (I 14 (bI I k)).toInt < (expF I A y (bI I k)).toInt → 0 ≤ (y j).toInt → ¬ (I 14 (bI I j) = -1 ∨ (expF I A y (bI I j)).toInt < (I 14 (bI I j)).toInt)) ∧
  ∀ l, l < L → 0 ≤ (y (pL I l)).toInt ∨ (y (70 + l)).toInt = (I 12 l).toInt
section SE
variable {A L F p q : Nat} {I : Nat → Nat → Int32} {y y' l : Nat → Int64} {d c n : Nat} {X : Int}
theorem ease_stop : ∀ (f : Nat) (y : Nat → Int64), easeEnds I A f y → nextE I A (easeF I A f y) = none
  | 0, _, h => h
  | f + 1, y, h => by
    unfold easeF
    cases g : nextE I A y with
    | none => exact g
    | some y' => exact ease_stop f y' (h y' g)
theorem giv_none : ∀ n, itr (givS I A y) n none = none → ∀ k, k < n → ¬ (0 < y k ∧ 0 < excF I A y (bI I k) ∧ ¬ getF I A y (tI I k) = none)
  | 0, _, k, hk => by omega
  | n + 1, h, k, hk => by
    have h : givS I A y n (itr (givS I A y) n none) = none := h
    cases g : itr (givS I A y) n none with
    | some o =>
      rw [g] at h
      rcases givS_or I A y n (some o) with e | e <;> rw [e] at h <;> cases h
    | none =>
      rw [g] at h
      by_cases e : k = n
      · rw [e]
        intro w
        rw [givS_pos ⟨w.1, w.2.1, w.2.2, fun o ho => by cases ho⟩] at h
        cases h
      · exact giv_none n g k (by omega)
theorem get_none : ∀ n, itr (getS I A y p) n none = none → ∀ k, k < n → ¬ (I 4 k = nI p ∧ 0 ≤ y k ∧ 0 < rmF I A y (bI I k))
  | 0, _, k, hk => by omega
  | n + 1, h, k, hk => by
    have h : getS I A y p n (itr (getS I A y p) n none) = none := h
    cases g : itr (getS I A y p) n none with
    | some o =>
      rw [g] at h
      rcases getS_or I A y p n (some o) with e | e <;> rw [e] at h <;> cases h
    | none =>
      rw [g] at h
      by_cases e : k = n
      · rw [e]
        intro w
        rw [getS_pos ⟨w.1, w.2.1, w.2.2, fun o ho => by cases ho⟩] at h
        cases h
      · exact get_none n g k (by omega)
theorem next_none (h : nextE I A y = none) : givF I A y = none := by
  cases g : givF I A y with
  | none => rfl
  | some i =>
    obtain ⟨-, -, -, i4⟩ := givF_some g
    unfold nextE at h
    rw [g] at h
    cases w : getF I A y (tI I i) with
    | none => exact absurd w i4
    | some j =>
      rw [show (some i).bind (fun i => (getF I A y (tI I i)).map (fun j => movF i j (amtF I A i j y) y)) = (getF I A y (tI I i)).map (fun j => movF i j (amtF I A i j y) y) from rfl, w] at h
      cases h
/-- no bank can be eased -/
theorem eased (hn : cEn A L F I) (hX0 : 0 ≤ X) (hX : X ≤ 1000000000000) (hb : bdX A X y) (h : nextE I A y = none) {k j : Nat} (hk : k < A) (hj : j < A) (ht : tI I j = tI I k) (h1 : 0 < (y k).toInt) (h2 : ¬ I 14 (bI I k) = -1) (h3 : (I 14 (bI I k)).toInt < (expF I A y (bI I k)).toInt) (h4 : 0 ≤ (y j).toInt) : ¬ (I 14 (bI I j) = -1 ∨ (expF I A y (bI I j)).toInt < (I 14 (bI I j)).toInt) := by
  intro h5
  have hx := bd_exOk (I := I) hn.1 hX0 hX hb
  have ak := hn.2.2.2.2.1 k hk
  have aj := hn.2.2.2.2.1 j hj
  refine giv_none A (next_none h) k hk ⟨?_, ?_, fun g => ?_⟩
  · rw [Int64.lt_iff_toInt_lt, i64_0]; exact h1
  · rw [Int64.lt_iff_toInt_lt, i64_0]; exact (exc_pos hx ak.2.2.2).mpr ⟨h2, h3⟩
  · refine get_none A g j hj ⟨by rw [aj.1, ht], ?_, ?_⟩
    · rw [Int64.le_iff_toInt_le, i64_0]; exact h4
    · rw [Int64.lt_iff_toInt_lt, i64_0]; exact (rm_pos hx aj.2.2.2).mpr h5
/-- easing leaves what isn't below 0 so -/
theorem ease_nn (hn : cEn A L F I) (hX0 : 0 ≤ X) (hX : X ≤ 900000000000) : ∀ (f : Nat) (y : Nat → Int64), bR A L I X y → ∀ m, m < A → 0 ≤ (y m).toInt → 0 ≤ (easeF I A f y m).toInt
  | 0, _, _, _, _, h => h
  | f + 1, y, hb, m, hm, h => by
    unfold easeF
    cases g : nextE I A y with
    | none => exact h
    | some y' =>
      have hA := hn.1
      have hb' := ease_step hA hn.2.1 hn.2.2.2.2.1 hX0 hX hb g
      refine ease_nn hn hX0 hX f y' hb' m hm ?_
      obtain ⟨i, j, i1, j1, b, e, p1, p2, p3, p4, p5, p6, -⟩ := nextE_st hA hn.2.2.2.2.1 (show 0 ≤ X + 60000000 by omega) (by omega) (bR_bd hn.2.1 hb) g
      have hij : i ≠ j := fun w => b (by rw [w])
      obtain ⟨-, m1, m2, -⟩ := mv_bd (bR_bd hn.2.1 hb) hA (by omega) (by omega) i1 j1 hij (v := amtF I A i j y) (by omega) (Or.inr (by omega))
      rw [e]
      by_cases c1 : m = i
      · rw [c1, m1]; omega
      · by_cases c2 : m = j
        · rw [c2, m2]; omega
        · rw [mov_o c1 c2]; exact h
theorem cov_fin {dr : Bool} : ∀ (f : Nat) (y : Nat → Int64), covEnds I L dr p f y → nextC I L dr p (covF I L dr p f y) = none
  | 0, _, h => h
  | f + 1, y, h => by
    unfold covF
    cases g : nextC I L dr p y with
    | none => exact g
    | some y' => exact cov_fin f y' (h y' g)
theorem nextC_some {dr : Bool} (hn : cEn A L F I) (hp : p < A) (h : nextC I L dr p y = some y') : ∃ k, k < L ∧ pL I k = p ∧ ¬ y p = 0 ∧ y' = covS I dr p k y := by
  unfold nextC at h
  split at h
  · cases h
  · rename_i h0
    cases g : nlF I L y p dr with
    | none => rw [g] at h; cases h
    | some k =>
      rw [g] at h
      cases h
      obtain ⟨g1, g2, -⟩ := nl_some hn hp g
      exact ⟨k, g1, g2, h0, rfl⟩
/-- covering a pool changes its top account and its lines alone -/
theorem covF_o {dr : Bool} (hn : cEn A L F I) (hp : p < A) {m : Nat} (h1 : m ≠ p) (h2 : ∀ k, k < L → pL I k = p → m ≠ 70 + k) : ∀ (f : Nat) (y : Nat → Int64), covF I L dr p f y m = y m
  | 0, _ => rfl
  | f + 1, y => by
    unfold covF
    cases g : nextC I L dr p y with
    | none => rfl
    | some y' =>
      obtain ⟨k, k1, k2, -, e⟩ := nextC_some hn hp g
      show covF I L dr p f y' m = y m
      rw [covF_o hn hp h1 h2 f y', e]
      unfold covS
      rw [pk_uLn h1, pk_uLn (h2 k k1 k2)]
/-- paying back leaves nothing below 0 -/
theorem covF_nn (hn : cEn A L F I) (hp : p < A) : ∀ (f : Nat) (y : Nat → Int64), drOk L I y → 0 ≤ (y p).toInt → 0 ≤ (covF I L false p f y p).toInt
  | 0, _, _, h => h
  | f + 1, y, hd, h => by
    have hA := hn.1
    unfold covF
    cases g : nextC I L false p y with
    | none => exact h
    | some y' =>
      obtain ⟨k, k1, k2, k3, e⟩ := nextC_some hn hp g
      have pos : 0 < (y p).toInt := by
        have : (y p).toInt ≠ 0 := fun w => k3 (Int64.toInt_inj.mp (w.trans i64_0.symm))
        omega
      have e2 : y' = pbC p k y := e.trans (covS_pb pos)
      obtain ⟨s1, -, s3, s4, -⟩ := pbC_st hd (show p < 10 by omega) k1 pos
      refine covF_nn hn hp f y' ?_ ?_
      · rw [e2]; exact pbC_ok hd (by omega) k1 pos
      · rw [e2, s1]; omega
theorem covP_eq {k : Nat} {w : Nat → Int64} : covP I L 6 k w = if I 3 k = -1 then covF I L (decide (w k < 0)) k 6 w else w := rfl
theorem covP_bR (hn : cEn A L F I) (hX0 : 0 ≤ X) (hX : X ≤ 900000000000) (h : bR A L I X y) : ∀ k, k ≤ A → bR A L I X (itr (covP I L 6) k y)
  | 0, _ => h
  | k + 1, hk => by
    have g := covP_bR hn hX0 hX h k (by omega)
    have hA := hn.1
    show bR A L I X (covP I L 6 k (itr (covP I L 6) k y))
    rw [covP_eq]
    split
    · have lo := bdX_lo (bR_bd hn.2.1 g) (show k < A by omega)
      rw [← (cv_eq hA hn.2.1 hn.2.2.2.2.2.2.1 (show k < A by omega) g.2.2 (by omega)).1]
      exact cv_bR hA hn.2.1 hX0 hX g (by omega)
    · exact g
/-- a pool behind covering: below 0 only if all is drawn -/
theorem covered (hn : cEn A L F I) (hX0 : 0 ≤ X) (hX : X ≤ 900000000000) (h : bR A L I X y) (he : ∀ k, k < A → I 3 k = -1 → covEnds I L (decide (itr (covP I L 6) k y k < 0)) k 6 (itr (covP I L 6) k y)) {l : Nat} (hl : l < L) : 0 ≤ (itr (covP I L 6) A y (pL I l)).toInt ∨ (itr (covP I L 6) A y (70 + l)).toInt = (I 12 l).toInt := by
  have hA := hn.1
  have hL := hn.2.1
  obtain ⟨e11, pA, p3⟩ := hn.2.2.2.2.2.2.1 l hl
  generalize hp : pL I l = p at e11 pA p3 ⊢
  have o : ∀ k s m, k < A → k ≠ p → (m = p ∨ m = 70 + l) → covP I L 6 k s m = s m := fun k s m hk hne hm => by
    unfold covP
    split
    · refine covF_o hn hk (by omega) (fun k' h1 h2 => ?_) 6 s
      rcases hm with hm | hm
      · omega
      · intro w
        have : k' = l := by omega
        rw [this, hp] at h2
        exact hne h2.symm
    · rfl
  have at1 : itr (covP I L 6) A y p = covP I L 6 p (itr (covP I L 6) p y) p := (itr_lone (f := covP I L 6) (m := p) (p := p) A y (fun k s hk hne => o k s p hk hne (Or.inl rfl))).1 pA
  have at2 : itr (covP I L 6) A y (70 + l) = covP I L 6 p (itr (covP I L 6) p y) (70 + l) := (itr_lone (f := covP I L 6) (m := 70 + l) (p := p) A y (fun k s hk hne => o k s _ hk hne (Or.inr rfl))).1 pA
  have hb := covP_bR hn hX0 hX h p (by omega)
  have hbA := covP_bR hn hX0 hX h A (Nat.le_refl A)
  have e := he p pA p3
  rw [at1, at2]
  have at3 := at2
  rw [covP_eq, if_pos p3] at at3 ⊢
  generalize itr (covP I L 6) p y = w at hb e at3 ⊢
  by_cases c : w p < 0
  · rw [decide_eq_true c] at e at3 ⊢
    have fin := cov_fin 6 w e
    generalize covF I L true p 6 w = u at fin at3 ⊢
    by_cases n0 : 0 ≤ (u p).toInt
    · exact Or.inl n0
    · right
      unfold nextC at fin
      rw [if_neg (fun g => n0 (by rw [g, i64_0]; exact Int.le_refl 0))] at fin
      have nn : nlF I L u p true = none := by
        cases g : nlF I L u p true with
        | none => rfl
        | some k => rw [g] at fin; cases fin
      have nc := (nl_best (I := I) (y := u) (p := p) (dr := true) L).1 nn l hl
      have d1 := hbA.2.2 l hl
      rw [at3] at d1
      have : ¬ u (70 + l) < (I 12 l).toInt64 := fun g => nc ⟨e11, by rw [if_pos rfl]; exact g⟩
      rw [Int64.lt_iff_toInt_lt, Int32.toInt_toInt64] at this
      omega
  · left
    rw [decide_eq_false c]
    refine covF_nn hn pA 6 w hb.2.2 ?_
    have : ¬ (w p).toInt < 0 := fun g => c (Int64.lt_iff_toInt_lt.mpr (by rw [i64_0]; exact g))
    omega
/-- behind the moves of a settlement day -/
theorem settle_sd (hn : cEn A L F I) (ham : amOk F I) (htg : tgOk A I) (hc : c ≤ 512) (hn23 : n ≤ 23) (hb : flB F I y) (h : bT A L F I c n X y) : sdV A L I (setlF I A L F 6 18 d y) := by
  have hA := hn.1
  have hL := hn.2.1
  obtain ⟨X2, -, -, g3, -, se, -⟩ := settle_eq (d := d) hn ham htg hc hn23 hb h
  obtain ⟨X', f1, f2⟩ := flows_bT (d := d) hn ham hc hn23 hb h F (Nat.le_refl F)
  have fb := flB_itr (d := d) hn hb F (Nat.le_refl F)
  have dn := dn_rng hn.2.2.1 fb
  have lim := bT_lim f2 hc hn23 dn
  obtain ⟨x0, -, fR⟩ := f2
  have sR : bR A L I X' (setl1 I A F d y) := (sweep_bR hn.2.2.2.1 htg hA hL x0 (by omega) fR).1
  obtain ⟨se1, se2⟩ := se
  have cR := covP_bR hn x0 (by omega) sR A (Nat.le_refl A)
  have fin := ease_stop 18 _ se2
  obtain ⟨X3, hX3⟩ : ∃ X3 : Int, X3 = X2 := ⟨_, rfl⟩
  have g3' := g3
  have eb := flB_itr (d := d) hn hb F (Nat.le_refl F)
  have bE : bdX A (X' + 60000000) (setlF I A L F 6 18 d y) := by
    have : ∀ f w, bR A L I X' w → bR A L I X' (easeF I A f w) := by
      intro f
      induction f with
      | zero => intro w hw; exact hw
      | succ f ih =>
        intro w hw
        unfold easeF
        cases g : nextE I A w with
        | none => exact hw
        | some w' => exact ih w' (ease_step hA hL hn.2.2.2.2.1 x0 (by omega) hw g)
    exact bR_bd hL (this 18 _ cR)
  refine ⟨fun k j hk hj ht h1 h2 h3 h4 => eased hn (by omega) (by omega) bE fin hk hj ht h1 h2 h3 h4, fun l hl => ?_⟩
  have pA := (hn.2.2.2.2.2.2.1 l hl).2.1
  have e70 : setlF I A L F 6 18 d y (70 + l) = itr (covP I L 6) A (setl1 I A F d y) (70 + l) := easeF_o hA (by omega) 18 _
  rw [e70]
  rcases covered hn x0 (by omega) sR se1 hl with g | g
  · exact Or.inl (ease_nn hn x0 (by omega) 18 _ cR _ pA g)
  · exact Or.inr g
theorem exp_congr (h : ∀ i, i < A → y' i = y i) {b : Nat} : expF I A y' b = expF I A y b := by
  unfold expF
  exact itr_fun A 0 (fun k s hk => by unfold expS; rw [h k hk])
theorem sd_congr (hn : cEn A L F I) (h : ∀ m, m < 10 ∨ (70 ≤ m ∧ m < 76) → y' m = y m) (s : sdV A L I y) : sdV A L I y' := by
  have hA := hn.1
  have hL := hn.2.1
  have e : ∀ i, i < A → y' i = y i := fun i hi => h i (by omega)
  refine ⟨fun k j hk hj ht h1 h2 h3 h4 => ?_, fun l hl => ?_⟩
  · rw [exp_congr e] at h3 ⊢
    rw [e k hk] at h1
    rw [e j hj] at h4
    exact s.1 k j hk hj ht h1 h2 h3 h4
  · have pA := (hn.2.2.2.2.2.2.1 l hl).2.1
    rw [e _ pA, h (70 + l) (by omega)]
    exact s.2 l hl
/-- behind a settlement day on which no interest is booked -/
theorem pass_sd (hc : cfg A L F I) (hcc : c ≤ 512) (hd : d < 460) (h : stD A L F I c d X y) (hs : stF I d = true) (h20 : ¬ (d + 1) % 20 = 0) : sdV A L I (passF I A L F 6 18 d (y, l)).1 := by
  have hn := hc.1
  have hA := hn.1
  have hL := hn.2.1
  have s := settle_sd (d := d) hn hc.2.2.2.1 hc.2.1 hcc (show d / 20 ≤ 23 by omega) h.2.2.1 h.1
  unfold passF
  rw [if_pos hs]
  unfold restF
  rw [if_neg (fun g => h20 ((rem20_0 (d := d) (by omega)).mp g))]
  refine sd_congr hn (fun m hm => ?_) s
  show dayW d (accF I A L (setlF I A L F 6 18 d y)) m = _
  rw [dayW_o (by omega)]
  exact accF_o hA hL (by omega)
end SE
