/-! ===== what a pool has, what is drawn for it, its interest, the cost of its lines: kept by all moves ===== -/
def gP (A L : Nat) (I : Nat → Nat → Int32) (p : Nat) (y : Nat → Int64) : Int64 := ps A I p y - y (60 + p) + s64 (fun l => if pL I l = p then y (82 + l) - y (70 + l) else 0) L
section GP
variable {A L F p q : Nat} {I : Nat → Nat → Int32} {y y' l : Nat → Int64} {d : Nat}
theorem gP_congr (h0 : ∀ i, i < A → y' i = y i) (h6 : y' (60 + q) = y (60 + q)) (h7 : ∀ l, l < L → y' (70 + l) = y (70 + l) ∧ y' (82 + l) = y (82 + l)) : gP A L I q y' = gP A L I q y := by
  unfold gP
  rw [ps_congr h0, h6, s64_congr (g := fun l => if pL I l = q then y (82 + l) - y (70 + l) else 0) L (fun l hl => by rw [(h7 l hl).1, (h7 l hl).2])]
/-- balances alone -/
theorem gP_bal (hA : A ≤ 10) (h : ∀ m, 10 ≤ m → y' m = y m) (e : ps A I q y' = ps A I q y) : gP A L I q y' = gP A L I q y := by
  unfold gP
  rw [e, h _ (by omega), s64_congr (g := fun l => if pL I l = q then y (82 + l) - y (70 + l) else 0) L (fun l hl => by rw [h _ (by omega), h _ (by omega)])]
theorem mov_o {i j m : Nat} {v : Int64} (h1 : m ≠ i) (h2 : m ≠ j) : movF i j v y m = y m := by
  unfold movF
  rw [pk_uLn h2, pk_uLn h1]
theorem gP_mov (hA : A ≤ 10) {i j : Nat} {v : Int64} (hi : i < A) (hj : j < A) (h : tI I i = tI I j) : gP A L I q (movF i j v y) = gP A L I q y :=
  gP_bal hA (fun m hm => mov_o (by omega) (by omega)) (ps_mov hi hj h)
theorem gP_sweep (hn : cEn A L F I) : gP A L I q (sweepF I A y) = gP A L I q y :=
  gP_bal hn.1 (fun m hm => sweepF_o hn.2.2.2.1 hn.1 hm) (ps_sweep hn)
/-- what is drawn, paid back -/
theorem gP_cov (hn : cEn A L F I) (hq : q < 10) {dr : Bool} {k : Nat} (hp : p < A) (h3 : I 3 p = -1) (hk : k < L) (hl : pL I k = p) : gP A L I q (covS I dr p k y) = gP A L I q y := by
  have hA := hn.1
  have hL := hn.2.1
  have ts := hn.selfp hp h3
  unfold covS
  generalize csg dr (camt I dr p k y) = c
  have e1 : ps A I q (vp_updL (vp_updL y (70 + k) (y (70 + k) + c)) p (y p + c)) = ps A I q y + (if p = q then c else 0) := by
    rw [ps_upd hp, ps_far (by omega), pk_uLn (by omega), ts]
    congr 1
    by_cases g : p = q
    · rw [if_pos g, if_pos g]
      grind
    · rw [if_neg g, if_neg g]
  have e2 : s64 (fun l => if pL I l = q then vp_updL (vp_updL y (70 + k) (y (70 + k) + c)) p (y p + c) (82 + l) - vp_updL (vp_updL y (70 + k) (y (70 + k) + c)) p (y p + c) (70 + l) else 0) L = s64 (fun l => if pL I l = q then y (82 + l) - y (70 + l) else 0) L - (if p = q then c else 0) := by
    rw [s64_one (i := k) (f := fun l => if pL I l = q then vp_updL (vp_updL y (70 + k) (y (70 + k) + c)) p (y p + c) (82 + l) - vp_updL (vp_updL y (70 + k) (y (70 + k) + c)) p (y p + c) (70 + l) else 0) (g := fun l => if pL I l = q then y (82 + l) - y (70 + l) else 0) L (fun j hj hne => by rw [pk_uLn (show 82 + j ≠ p by omega), pk_uLn (show 82 + j ≠ 70 + k by omega), pk_uLn (show 70 + j ≠ p by omega), pk_uLn (show 70 + j ≠ 70 + k by omega)]) hk]
    rw [pk_uLn (show 82 + k ≠ p by omega), pk_uLn (show 82 + k ≠ 70 + k by omega), pk_uLn (show 70 + k ≠ p by omega), pk_uLs, hl]
    by_cases g : p = q
    · rw [if_pos g, if_pos g, if_pos g]
      grind
    · rw [if_neg g, if_neg g, if_neg g]
      grind
  unfold gP
  rw [e1, e2, pk_uLn (show 60 + q ≠ p by omega), pk_uLn (show 60 + q ≠ 70 + k by omega)]
  grind
theorem nl_some {dr : Bool} {k : Nat} (hn : cEn A L F I) (hp : p < A) (h : nlF I L y p dr = some k) : k < L ∧ pL I k = p ∧ cand I y p dr k := by
  obtain ⟨-, h2⟩ := nl_best (I := I) (y := y) (p := p) (dr := dr) L
  obtain ⟨g1, g2, -⟩ := h2 k h
  have hA := hn.1
  obtain ⟨e1, e2, -⟩ := hn.2.2.2.2.2.2.1 k g1
  have := g2.1
  rw [e1] at this
  exact ⟨g1, (nI_eq (by omega) (by omega)).mp this, g2⟩
theorem gP_covF (hn : cEn A L F I) (hq : q < 10) {dr : Bool} (hp : p < A) (h3 : I 3 p = -1) : ∀ (f : Nat) (y : Nat → Int64), gP A L I q (covF I L dr p f y) = gP A L I q y
  | 0, _ => rfl
  | f + 1, y => by
    unfold covF
    cases h : nextC I L dr p y with
    | none => rfl
    | some y' =>
      show gP A L I q (covF I L dr p f y') = _
      rw [gP_covF hn hq hp h3 f y']
      unfold nextC at h
      split at h
      · cases h
      · cases g : nlF I L y p dr with
        | none => rw [g] at h; cases h
        | some k =>
          rw [g] at h
          cases h
          obtain ⟨g1, g2, -⟩ := nl_some hn hp g
          exact gP_cov hn hq hp h3 g1 g2
theorem gP_covP (hn : cEn A L F I) (hq : q < 10) {f : Nat} : gP A L I q (itr (covP I L f) A y) = gP A L I q y := by
  refine itr_bd (R := fun w => gP A L I q w = gP A L I q y) A y (fun k w hk h => ?_) rfl
  unfold covP
  split
  · rename_i c
    exact (gP_covF hn hq hk c f w).trans h
  · exact h
theorem next_mov (hn : cEn A L F I) {y' : Nat → Int64} (h : nextE I A y = some y') : ∃ i j, i < A ∧ j < A ∧ tI I j = tI I i ∧ y' = movF i j (amtF I A i j y) y := by
  have hA := hn.1
  unfold nextE at h
  cases g : givF I A y with
  | none => rw [g] at h; cases h
  | some i =>
    rw [g] at h
    cases w : getF I A y (tI I i) with
    | none => rw [show (some i).bind (fun i => (getF I A y (tI I i)).map (fun j => movF i j (amtF I A i j y) y)) = (getF I A y (tI I i)).map (fun j => movF i j (amtF I A i j y) y) from rfl, w] at h; cases h
    | some j =>
      rw [show (some i).bind (fun i => (getF I A y (tI I i)).map (fun j => movF i j (amtF I A i j y) y)) = (getF I A y (tI I i)).map (fun j => movF i j (amtF I A i j y) y) from rfl, w] at h
      cases h
      obtain ⟨i1, -⟩ := givF_some g
      obtain ⟨j1, j2, -⟩ := getF_some w
      have := (hn.2.2.2.2.1 j j1).1
      have ti := (hn.2.2.2.2.1 i i1).2.1
      have tj := (hn.2.2.2.2.1 j j1).2.1
      rw [this] at j2
      exact ⟨i, j, i1, j1, (nI_eq (by omega) (by omega)).mp j2, rfl⟩
theorem gP_ease (hn : cEn A L F I) : ∀ (f : Nat) (y : Nat → Int64), gP A L I q (easeF I A f y) = gP A L I q y
  | 0, _ => rfl
  | f + 1, y => by
    unfold easeF
    cases h : nextE I A y with
    | none => rfl
    | some y' =>
      show gP A L I q (easeF I A f y') = _
      rw [gP_ease hn f y']
      obtain ⟨i, j, i1, j1, t, rfl⟩ := next_mov hn h
      exact gP_mov hn.1 i1 j1 t.symm
theorem gP_flows (hn : cEn A L F I) (hw : fwOk F d I y) (hd : d ≤ 450) (hs : stF I d = true) (hq : q < 10) : gP A L I q (itr (flowS I d) F y) = gP A L I q y + s64 (fun k => if tI I k = q then scF I F y k (nI d) (nI d) else 0) A := by
  have hA := hn.1
  have hL := hn.2.1
  unfold gP
  rw [flows_ps hn hw hd hs F (Nat.le_refl F), ← sc_pool hn, flowS_o hn (Or.inl (by omega)) F (Nat.le_refl F), s64_congr (f := fun l => if pL I l = q then itr (flowS I d) F y (82 + l) - itr (flowS I d) F y (70 + l) else 0) (g := fun l => if pL I l = q then y (82 + l) - y (70 + l) else 0) L (fun l hl => by rw [flowS_o hn (Or.inl (by omega)) F (Nat.le_refl F), flowS_o hn (Or.inl (by omega)) F (Nat.le_refl F)])]
  grind
/-- the moves of a settlement day -/
theorem gP_setl (hn : cEn A L F I) (hw : fwOk F d I y) (hd : d ≤ 450) (hs : stF I d = true) (hq : q < 10) {fc fe : Nat} : gP A L I q (setlF I A L F fc fe d y) = gP A L I q y + s64 (fun k => if tI I k = q then scF I F y k (nI d) (nI d) else 0) A := by
  unfold setlF setl1
  rw [gP_ease hn, gP_covP hn hq, gP_sweep hn, gP_flows hn hw hd hs hq]
theorem gP_acc (hn : cEn A L F I) (hq : q < 10) : gP A L I q (accF I A L y) = gP A L I q y := by
  have hA := hn.1
  have hL := hn.2.1
  exact gP_congr (fun i hi => accF_o hA hL (by omega)) (accF_o hA hL (by omega)) (fun l hl => ⟨accF_o hA hL (by omega), accF_o hA hL (by omega)⟩)
end GP
