/-! ===== rows of accounts, lines and flows to come stay as they are when a day passes ===== -/
def dm (A L F m : Nat) : Prop := (∀ x, x < A → m ≠ x ∧ m ≠ 10 + x ∧ m ≠ 20 + x ∧ m ≠ 30 + x ∧ m ≠ 40 + x ∧ m ≠ 50 + x ∧ m ≠ 60 + x) ∧ (∀ l, l < L → m ≠ 70 + l ∧ m ≠ 76 + l ∧ m ≠ 82 + l) ∧ (∀ f, f < F → m ≠ 88 + f) ∧ m ≠ 108
section DE
variable {A L F : Nat} {I : Nat → Nat → Int32} {y l : Nat → Int64} {m d : Nat}
theorem dm_mov {a b : Nat} {v : Int64} {y : Nat → Int64} (ha : m ≠ a) (hb : m ≠ b) : movF a b v y m = y m := by
  unfold movF
  rw [pk_uLn hb, pk_uLn ha]
theorem dm_sweep (hn : cEn A L F I) (hm : dm A L F m) : sweepF I A y m = y m := by
  have hA := hn.1
  have hp : parOk A I := hn.2.2.2.1
  unfold sweepF
  have h1 : itd (upS I) A y m = y m := itd_bd (R := fun y' => y' m = y m) A y (fun k y' hk hr => by
    unfold upS
    split
    · rename_i c
      have := (pI_lt hp hA hk c.1).2
      rw [dm_mov (hm.1 k hk).1 (hm.1 _ (by omega)).1]
      exact hr
    · exact hr) rfl
  exact itr_bd (R := fun (y' : Nat → Int64) => y' m = y m) A _ (fun k y' hk hr => by
    show dnS I k y' m = y m
    unfold dnS
    split
    · rename_i c
      have := (pI_lt hp hA hk c.1).2
      rw [dm_mov (hm.1 _ (by omega)).1 (hm.1 k hk).1]
      exact hr
    · exact hr) h1
theorem dm_flows (hn : cEn A L F I) (hm : dm A L F m) : itr (flowS I d) F y m = y m := itr_bd (R := fun (y' : Nat → Int64) => y' m = y m) F y (fun k y' hk hr => by
  have fa := (hn.2.2.2.2.2.2.2.1 k hk).2
  show flowS I d k y' m = y m
  unfold flowS
  rw [flwF_other (hm.2.2.1 k hk) (hm.1 _ fa).1]
  exact hr) rfl
theorem dm_cov (hm : dm A L F m) {p : Nat} {dr : Bool} (hp : p < A) : ∀ (f : Nat) (y : Nat → Int64), covF I L dr p f y m = y m := by
  intro f
  induction f with
  | zero => intro y; rfl
  | succ f ih =>
    intro y
    unfold covF
    cases hc : nextC I L dr p y with
    | none => rfl
    | some y' =>
      show covF I L dr p f y' m = y m
      rw [ih]
      unfold nextC at hc
      by_cases h0 : y p = 0
      · rw [if_pos h0] at hc; cases hc
      · rw [if_neg h0] at hc
        cases hg : nlF I L y p dr with
        | none => rw [hg] at hc; cases hc
        | some g =>
          have lt : g < L := itr_lt (f := nlS I y p dr) (fun k o => nlS_or) L g hg
          rw [hg] at hc
          have e : covS I dr p g y = y' := Option.some.inj hc
          rw [← e]
          unfold covS
          rw [pk_uLn (hm.1 p hp).1, pk_uLn (hm.2.1 g lt).1]
theorem dm_ease (hm : dm A L F m) : ∀ (f : Nat) (y : Nat → Int64), easeF I A f y m = y m := by
  intro f
  induction f with
  | zero => intro y; rfl
  | succ f ih =>
    intro y
    unfold easeF
    cases hn : nextE I A y with
    | none => rfl
    | some y' =>
      show easeF I A f y' m = y m
      rw [ih]
      unfold nextE at hn
      cases hg : givF I A y with
      | none => rw [hg] at hn; cases hn
      | some i =>
        have gi := (givF_some hg).1
        rw [hg] at hn
        cases hj : getF I A y (tI I i) with
        | none => simp [hj] at hn
        | some j =>
          have gj := (getF_some hj).1
          have e : movF i j (amtF I A i j y) y = y' := by simpa [hj] using hn
          rw [← e]
          exact dm_mov (hm.1 i gi).1 (hm.1 j gj).1
theorem dm_setl (hn : cEn A L F I) (hm : dm A L F m) : setlF I A L F 6 18 d y m = y m := by
  unfold setlF setl1
  rw [dm_ease hm]
  have h1 : sweepF I A (itr (flowS I d) F y) m = y m := (dm_sweep hn hm).trans (dm_flows hn hm)
  exact itr_bd (R := fun (y' : Nat → Int64) => y' m = y m) A _ (fun k y' hk hr => by
    show covP I L 6 k y' m = y m
    unfold covP
    split
    · rw [dm_cov hm hk]; exact hr
    · exact hr) h1
theorem dm_acc (hm : dm A L F m) : accF I A L y m = y m := by
  unfold accF
  have h1 : itr (accS I A) A y m = y m := itr_bd (R := fun (y' : Nat → Int64) => y' m = y m) A y (fun k y' hk hr => by
    show accS I A k y' m = y m
    unfold accS
    split
    · refine itr_bd (R := fun (y'' : Nat → Int64) => y'' m = y m) A _ (fun j y'' hj hr2 => ?_) ?_
      · show wtS I k _ j y'' m = y m
        unfold wtS
        have w := hm.1 j hj
        rw [pk_uLn w.2.2.2.2.1, pk_uLn w.2.2.2.1]
        exact hr2
      · show acc0 I k _ y' m = y m
        unfold acc0
        have w := hm.1 k hk
        rw [pk_uLn w.2.2.1, pk_uLn w.2.1]
        exact hr
    · exact hr) rfl
  exact itr_bd (R := fun (y' : Nat → Int64) => y' m = y m) L _ (fun k y' hk hr => by
    show linS I k y' m = y m
    unfold linS
    rw [pk_uLn (hm.2.1 k hk).2.1]
    exact hr) h1
theorem dm_gets (hm : dm A L F m) {x : Nat} (hx : x < A) {v : Int64} {y : Nat → Int64} : getsF x v y m = y m := by
  have w := hm.1 x hx
  unfold getsF
  rw [pk_uLn w.2.2.2.2.2.1, pk_uLn w.1]
theorem dm_cen (hm : dm A L F m) (hA : 0 < A) {sg : Int32} : ∀ (c : Nat) (s : (Nat → Int64) × (Nat → Int64)), (cenF A sg c s).1 m = s.1 m := by
  intro c
  induction c with
  | zero => intro s; rfl
  | succ c ih =>
    intro s
    show (cenF A sg c (getsF (mostF s.2 A) sg.toInt64 s.1, vp_updL s.2 (mostF s.2 A) (-1))).1 m = s.1 m
    rw [ih]
    exact dm_gets hm (mostF_lt hA)
theorem dm_spl (hm : dm A L F m) (hA : 0 < A) {p wo : Nat} {amt : Int64} {sg : Int32} {s : (Nat → Int64) × (Nat → Int64)} : (splF I A p amt wo sg s).1 m = s.1 m := by
  unfold splF
  split
  · rfl
  · rw [dm_cen hm hA]
    show (itr (shS I p amt wo sg (wF I A s.1 p wo)) A (s.1, s.2, amt)).1 m = s.1 m
    exact itr_bd (R := fun (t : (Nat → Int64) × (Nat → Int64) × Int64) => t.1 m = s.1 m) A (s.1, s.2, amt) (fun k t hk hr => by
      show (shS I p amt wo sg (wF I A s.1 p wo) k t).1 m = s.1 m
      unfold shS
      split
      · show getsF k _ t.1 m = s.1 m
        rw [dm_gets hm hk]
        exact hr
      · exact hr) rfl
theorem dm_bk (hn : cEn A L F I) (hm : dm A L F m) {s : (Nat → Int64) × (Nat → Int64)} : (bkF I A L s).1 m = s.1 m := by
  unfold bkF
  show itr (lcS I) L (itr wzS A (itr (bkS I A) A s).1) m = s.1 m
  have h1 : (itr (bkS I A) A s).1 m = s.1 m := itr_bd (R := fun (t : (Nat → Int64) × (Nat → Int64)) => t.1 m = s.1 m) A s (fun k t hk hr => by
    show (bkS I A k t).1 m = s.1 m
    unfold bkS
    split
    · show bkW k _ _ _ m = s.1 m
      unfold bkW
      have w := hm.1 k hk
      rw [pk_uLn w.2.2.2.2.2.2, pk_uLn w.2.2.1, pk_uLn w.2.1, dm_spl hm (by omega), dm_spl hm (by omega)]
      exact hr
    · exact hr) rfl
  have h2 : itr wzS A (itr (bkS I A) A s).1 m = s.1 m := itr_bd (R := fun (t : Nat → Int64) => t m = s.1 m) A _ (fun k t hk hr => by
    show wzS k t m = s.1 m
    unfold wzS
    have w := hm.1 k hk
    rw [pk_uLn w.2.2.2.2.1, pk_uLn w.2.2.2.1]
    exact hr) h1
  exact itr_bd (R := fun (t : Nat → Int64) => t m = s.1 m) L _ (fun k t hk hr => by
    show lcS I k t m = s.1 m
    unfold lcS lcW
    have w := hm.2.1 k hk
    have g := (hn.2.2.2.2.2.2.1 k hk).2.1
    rw [pk_uLn (hm.1 _ g).1, pk_uLn w.2.2, pk_uLn w.2.1]
    exact hr) h2
theorem dm_pass (hn : cEn A L F I) (hm : dm A L F m) : (passF I A L F 6 18 d (y, l)).1 m = y m := by
  have h0 : (if stF I d = true then setlF I A L F 6 18 d y else y) m = y m := by
    split
    · exact dm_setl hn hm
    · rfl
  unfold passF restF
  split
  · show dayW d _ m = y m
    unfold dayW
    rw [pk_uLn hm.2.2.2, dm_bk hn hm]
    exact (dm_acc hm).trans h0
  · show dayW d _ m = y m
    unfold dayW
    rw [pk_uLn hm.2.2.2]
    exact (dm_acc hm).trans h0
theorem dm_dy (hn : cEn A L F I) (hm : dm A L F m) : ∀ t, (dyF I A L F d (y, l) t).1 m = y m := by
  intro t
  induction t with
  | zero => rfl
  | succ t ih =>
    show (passF I A L F 6 18 (d + t) (dyF I A L F d (y, l) t)).1 m = y m
    exact (dm_pass (l := (dyF I A L F d (y, l) t).2) hn hm).trans ih
end DE
