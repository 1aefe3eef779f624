/-! ===== booking interest gives out what is booked; what holds of interest, sums and weights, cost ===== -/
def iV (A : Nat) (I : Nat → Nat → Int32) (y : Nat → Int64) : Prop := ∀ p, cisp A I p → ps A I p (fun i => y (50 + i)) = y (60 + p)
def wI (A : Nat) (I : Nat → Nat → Int32) (y : Nat → Int64) : Prop := ∀ p, cisp A I p → ((∀ x, x < A → tI I x = p → y (30 + x) = 0) → (y (10 + p)).toInt < 3600000) ∧ ((∀ x, x < A → tI I x = p → y (40 + x) = 0) → (y (20 + p)).toInt < 3600000)
def cV (L d : Nat) (y : Nat → Int64) : Prop := ∀ l, l < L → 0 ≤ (y (82 + l)).toInt ∧ (y (82 + l)).toInt ≤ 100000 * d
section BG
variable {A L F p q : Nat} {I : Nat → Nat → Int32} {y y' l : Nat → Int64} {d : Nat}
theorem i64_nn {v : Int64} (h : v.toInt.toNat = 0) (h0 : 0 ≤ v.toInt) : v = 0 := Int64.toInt_inj.mp (by rw [i64_0]; omega)
/-- one side of a pool's booking -/
theorem spl_side (hn : cEn A L F I) {k s wo : Nat} (hk : k < A) (hs : s / 2 = k) (hwo : ∀ x, sw1 s x = wo + x) (hw1 : 30 ≤ wo) (hw2 : wo ≤ 40) (hw : ∀ x, x < A → 0 ≤ (y (wo + x)).toInt ∧ (y (wo + x)).toInt ≤ 200000000000) {S : Int64} (h0 : 0 ≤ S.toInt) (h1 : S.toInt ≤ 144000000000000) (hz : (∀ x, x < A → tI I x = k → y (wo + x) = 0) → S.toInt < 3600000) {sgI : Int32} :
    (∀ q, ps A I q (splF I A k (S / 3600000) wo sgI (y, l)).1 = ps A I q y + (if q = k then sgI.toInt64 * (S / 3600000) else 0) ∧ ps A I q (fun i => (splF I A k (S / 3600000) wo sgI (y, l)).1 (50 + i)) = ps A I q (fun i => y (50 + i)) + (if q = k then sgI.toInt64 * (S / 3600000) else 0)) ∧
    ∀ m, 10 ≤ m → m < 50 ∨ 60 ≤ m → (splF I A k (S / 3600000) wo sgI (y, l)).1 m = y m := by
  have hA := hn.1
  have ha : acOk A I := hn.2.2.2.2.1
  rw [div_year h0]
  have w' : ∀ x, x < A → tI I x = k → y (wo + x) = lN (y (wo + x)).toInt.toNat ∧ (y (wo + x)).toInt.toNat ≤ 200000000000 := fun x hx _ => by
    obtain ⟨a, b⟩ := hw x hx
    exact ⟨lN_of a, by omega⟩
  have al : S.toInt.toNat / 3600000 ≤ 40000000 := by omega
  refine ⟨spl_ps ha hA hk hs hwo hw1 hw2 (w := fun x => (y (wo + x)).toInt.toNat) w' al (fun z => ?_) (fun _ => 0) (fun _ => 0), fun m hm1 hm2 => ?_⟩
  · have := hz (fun x hx ht => i64_nn (z x hx ht) (hw x hx).1)
    omega
  · exact (spl_eq (y := y) (l := l) ha hA hk hs hwo hw1 hw2 (w := fun x => (y (wo + x)).toInt.toNat) w' al (sgI := sgI) (fun _ => 0) (fun _ => 0)).2.1 m (fun x hx _ => by omega)
/-- a pool's booking -/
theorem bkS_at (hn : cEn A L F I) {k : Nat} (hk : k < A) (h3 : I 3 k = -1) {s : (Nat → Int64) × (Nat → Int64)} (hw : ∀ x, x < A → (0 ≤ (s.1 (30 + x)).toInt ∧ (s.1 (30 + x)).toInt ≤ 200000000000) ∧ (0 ≤ (s.1 (40 + x)).toInt ∧ (s.1 (40 + x)).toInt ≤ 200000000000))
    (hs1 : 0 ≤ (s.1 (10 + k)).toInt ∧ (s.1 (10 + k)).toInt ≤ 144000000000000) (hs2 : 0 ≤ (s.1 (20 + k)).toInt ∧ (s.1 (20 + k)).toInt ≤ 144000000000000)
    (z1 : (∀ x, x < A → tI I x = k → s.1 (30 + x) = 0) → (s.1 (10 + k)).toInt < 3600000) (z2 : (∀ x, x < A → tI I x = k → s.1 (40 + x) = 0) → (s.1 (20 + k)).toInt < 3600000) :
    (∀ q, q < 10 → ps A I q (bkS I A k s).1 - (bkS I A k s).1 (60 + q) = ps A I q s.1 - s.1 (60 + q) ∧ ps A I q (fun i => (bkS I A k s).1 (50 + i)) - (bkS I A k s).1 (60 + q) = ps A I q (fun i => s.1 (50 + i)) - s.1 (60 + q)) ∧
    (∀ m, 10 ≤ m → m < 50 ∨ 60 ≤ m → m ≠ 10 + k → m ≠ 20 + k → m ≠ 60 + k → (bkS I A k s).1 m = s.1 m) ∧ (bkS I A k s).1 (10 + k) = s.1 (10 + k) - s.1 (10 + k) / 3600000 * 3600000 ∧ (bkS I A k s).1 (20 + k) = s.1 (20 + k) - s.1 (20 + k) / 3600000 * 3600000 := by
  have hA := hn.1
  obtain ⟨y, l⟩ := s
  have hw : ∀ x, x < A → (0 ≤ (y (30 + x)).toInt ∧ (y (30 + x)).toInt ≤ 200000000000) ∧ (0 ≤ (y (40 + x)).toInt ∧ (y (40 + x)).toInt ≤ 200000000000) := hw
  have hs1 : 0 ≤ (y (10 + k)).toInt ∧ (y (10 + k)).toInt ≤ 144000000000000 := hs1
  have hs2 : 0 ≤ (y (20 + k)).toInt ∧ (y (20 + k)).toInt ≤ 144000000000000 := hs2
  have z1 : (∀ x, x < A → tI I x = k → y (30 + x) = 0) → (y (10 + k)).toInt < 3600000 := z1
  have z2 : (∀ x, x < A → tI I x = k → y (40 + x) = 0) → (y (20 + k)).toInt < 3600000 := z2
  obtain ⟨a1, a2⟩ := spl_side (y := y) (l := l) hn hk (s := 2 * k) (by omega) (wo := 30) (fun x => sw1_0 (by omega)) (by omega) (by omega) (fun x hx => (hw x hx).1) hs1.1 hs1.2 z1 (sgI := 1)
  generalize hs : splF I A k (y (10 + k) / 3600000) 30 1 (y, l) = t at a1 a2
  have eb : bkS I A k (y, l) = (bkW k (y (10 + k) / 3600000) (y (20 + k) / 3600000) (splF I A k (y (20 + k) / 3600000) 40 (-1) t).1, (splF I A k (y (20 + k) / 3600000) 40 (-1) t).2) := by
    unfold bkS
    rw [if_pos h3, ← hs]
  obtain ⟨y1, l1⟩ := t
  have a1 : ∀ q, ps A I q y1 = ps A I q y + (if q = k then (1 : Int32).toInt64 * (y (10 + k) / 3600000) else 0) ∧ ps A I q (fun i => y1 (50 + i)) = ps A I q (fun i => y (50 + i)) + (if q = k then (1 : Int32).toInt64 * (y (10 + k) / 3600000) else 0) := a1
  have a2 : ∀ m, 10 ≤ m → m < 50 ∨ 60 ≤ m → y1 m = y m := a2
  obtain ⟨b1, b2⟩ := spl_side (y := y1) (l := l1) hn hk (s := 2 * k + 1) (by omega) (wo := 40) (fun x => sw1_1 (by omega)) (by omega) (by omega) (fun x hx => by rw [a2 (40 + x) (by omega) (by omega)]; exact (hw x hx).2) hs2.1 hs2.2 (fun z => z2 (fun x hx ht => by rw [← a2 (40 + x) (by omega) (by omega)]; exact z x hx ht)) (sgI := -1)
  generalize (splF I A k (y (20 + k) / 3600000) 40 (-1) (y1, l1)).1 = y2 at b1 b2 eb
  have g1 : ∀ m, 10 ≤ m → m < 50 ∨ 60 ≤ m → y2 m = y m := fun m h1 h2 => (b2 m h1 h2).trans (a2 m h1 h2)
  obtain ⟨cr, hcr⟩ : ∃ cr, cr = y (10 + k) / 3600000 := ⟨_, rfl⟩
  obtain ⟨db, hdb⟩ : ∃ db, db = y (20 + k) / 3600000 := ⟨_, rfl⟩
  rw [← hcr] at a1
  rw [← hdb] at b1
  rw [← hcr, ← hdb] at eb
  have eb1 : (bkS I A k (y, l)).1 = bkW k cr db y2 := by rw [eb]
  rw [eb1]
  have e1 : ((1 : Int32).toInt64 : Int64) = 1 := by decide
  have e2 : ((-1 : Int32).toInt64 : Int64) = -1 := by decide
  refine ⟨fun q hq => ?_, fun m h1 h2 h3 h4 h5 => ?_, ?_, ?_⟩
  · have k60 : bkW k cr db y2 (60 + q) = y (60 + q) + (if q = k then cr - db else 0) := by
      unfold bkW
      by_cases c : q = k
      · rw [c, pk_uLs, if_pos rfl, g1 _ (by omega) (by omega)]
      · rw [pk_uLn (by omega), pk_uLn (by omega), pk_uLn (by omega), g1 _ (by omega) (by omega), if_neg c, Int64.add_zero]
    have lo : ∀ m, m < 10 ∨ (50 ≤ m ∧ m < 60) → bkW k cr db y2 m = y2 m := fun m hm => by
      unfold bkW
      rw [pk_uLn (by omega), pk_uLn (by omega), pk_uLn (by omega)]
    have p1 : ps A I q (bkW k cr db y2) = ps A I q y2 := ps_congr (fun i hi => lo i (by omega))
    have p2 : ps A I q (fun i => bkW k cr db y2 (50 + i)) = ps A I q (fun i => y2 (50 + i)) := ps_congr (fun i hi => lo (50 + i) (by omega))
    show ps A I q (bkW k cr db y2) - bkW k cr db y2 (60 + q) = _ ∧ ps A I q (fun i => bkW k cr db y2 (50 + i)) - bkW k cr db y2 (60 + q) = _
    rw [p1, p2, k60, (b1 q).1, (b1 q).2, (a1 q).1, (a1 q).2, e1, e2]
    show _ = ps A I q y - y (60 + q) ∧ _ = ps A I q (fun i => y (50 + i)) - y (60 + q)
    by_cases c : q = k
    · rw [if_pos c, if_pos c, if_pos c]
      constructor <;> grind
    · rw [if_neg c, if_neg c, if_neg c]
      constructor <;> grind
  · show bkW k cr db y2 m = y m
    unfold bkW
    rw [pk_uLn h5, pk_uLn h4, pk_uLn h3]
    exact g1 m h1 h2
  · show bkW k cr db y2 (10 + k) = y (10 + k) - y (10 + k) / 3600000 * 3600000
    unfold bkW
    rw [pk_uLn (by omega), pk_uLn (by omega), pk_uLs, g1 _ (by omega) (by omega)]
  · show bkW k cr db y2 (20 + k) = y (20 + k) - y (20 + k) / 3600000 * 3600000
    unfold bkW
    rw [pk_uLn (by omega), pk_uLs, g1 _ (by omega) (by omega)]
/-- all pools' booking -/
theorem bkS_all (hn : cEn A L F I) (hs : smOk A y) (hw : wgOk A y) (hz : wI A I y) : ∀ n, n ≤ A →
    (∀ q, q < 10 → ps A I q (itr (bkS I A) n (y, l)).1 - (itr (bkS I A) n (y, l)).1 (60 + q) = ps A I q y - y (60 + q) ∧ ps A I q (fun i => (itr (bkS I A) n (y, l)).1 (50 + i)) - (itr (bkS I A) n (y, l)).1 (60 + q) = ps A I q (fun i => y (50 + i)) - y (60 + q)) ∧
    (∀ m, (30 ≤ m ∧ m < 50) ∨ 70 ≤ m → (itr (bkS I A) n (y, l)).1 m = y m) ∧ (∀ k, n ≤ k → k < A → (itr (bkS I A) n (y, l)).1 (10 + k) = y (10 + k) ∧ (itr (bkS I A) n (y, l)).1 (20 + k) = y (20 + k)) ∧
    ∀ k, k < n → I 3 k = -1 → ((itr (bkS I A) n (y, l)).1 (10 + k)).toInt < 3600000 ∧ ((itr (bkS I A) n (y, l)).1 (20 + k)).toInt < 3600000 := by
  have hA := hn.1
  intro n
  induction n with
  | zero => intro _; exact ⟨fun _ _ => ⟨rfl, rfl⟩, fun _ _ => rfl, fun _ _ _ => ⟨rfl, rfl⟩, fun k hk => by omega⟩
  | succ n ih =>
    intro hnA
    obtain ⟨i1, i2, i3, i4⟩ := ih (by omega)
    show (∀ q, q < 10 → ps A I q (bkS I A n (itr (bkS I A) n (y, l))).1 - (bkS I A n (itr (bkS I A) n (y, l))).1 (60 + q) = _ ∧ ps A I q (fun i => (bkS I A n (itr (bkS I A) n (y, l))).1 (50 + i)) - (bkS I A n (itr (bkS I A) n (y, l))).1 (60 + q) = _) ∧
      (∀ m, _ → (bkS I A n (itr (bkS I A) n (y, l))).1 m = _) ∧ (∀ k, _ → _ → (bkS I A n (itr (bkS I A) n (y, l))).1 (10 + k) = _ ∧ (bkS I A n (itr (bkS I A) n (y, l))).1 (20 + k) = _) ∧ ∀ k, _ → _ → ((bkS I A n (itr (bkS I A) n (y, l))).1 (10 + k)).toInt < 3600000 ∧ ((bkS I A n (itr (bkS I A) n (y, l))).1 (20 + k)).toInt < 3600000
    generalize itr (bkS I A) n (y, l) = s at i1 i2 i3 i4 ⊢
    by_cases h3 : I 3 n = -1
    · obtain ⟨v1, v2⟩ := hs n (by omega)
      obtain ⟨e1, e2⟩ := i3 n (Nat.le_refl n) (by omega)
      obtain ⟨u1, u2⟩ := hz n ⟨by omega, h3⟩
      obtain ⟨c1, c2, c3, c4⟩ := bkS_at (s := s) hn (show n < A by omega) h3 (fun x hx => by rw [i2 (30 + x) (by omega), i2 (40 + x) (by omega)]; exact hw x hx) (by rw [e1]; exact v1) (by rw [e2]; exact v2)
        (fun z => by rw [e1]; exact u1 (fun x hx ht => by rw [← i2 (30 + x) (by omega)]; exact z x hx ht)) (fun z => by rw [e2]; exact u2 (fun x hx ht => by rw [← i2 (40 + x) (by omega)]; exact z x hx ht))
      refine ⟨fun q hq => ⟨(c1 q hq).1.trans (i1 q hq).1, (c1 q hq).2.trans (i1 q hq).2⟩, fun m hm => (c2 m (by omega) (by omega) (by omega) (by omega) (by omega)).trans (i2 m hm), fun k h1 h2 => ?_, fun k h1 h2 => ?_⟩
      · rw [c2 (10 + k) (by omega) (by omega) (by omega) (by omega) (by omega), c2 (20 + k) (by omega) (by omega) (by omega) (by omega) (by omega)]
        exact i3 k (by omega) h2
      · by_cases e : k = n
        · rw [e, c3, c4, e1, e2, rem_year v1.1, rem_year v2.1, lN_nat (by omega), lN_nat (by omega)]
          omega
        · rw [c2 (10 + k) (by omega) (by omega) (by omega) (by omega) (by omega), c2 (20 + k) (by omega) (by omega) (by omega) (by omega) (by omega)]
          exact i4 k (by omega) h2
    · have e0 : bkS I A n s = s := if_neg h3
      rw [e0]
      refine ⟨i1, i2, fun k h1 h2 => i3 k (by omega) h2, fun k h1 h2 => ?_⟩
      by_cases e : k = n
      · rw [e] at h2; exact absurd h2 h3
      · exact i4 k (by omega) h2
/-! the lines' interest -/
theorem lcS_o {k m : Nat} (h1 : m ≠ 76 + k) (h2 : m ≠ 82 + k) (h3 : m ≠ pL I k) : lcS I k y m = y m := by
  unfold lcS lcW
  rw [pk_uLn h3, pk_uLn h2, pk_uLn h1]
theorem gP_lc (hn : cEn A L F I) (hq : q < 10) {k : Nat} (hk : k < L) : gP A L I q (lcS I k y) = gP A L I q y := by
  have hA := hn.1
  have hL := hn.2.1
  obtain ⟨-, pl, p3⟩ := hn.2.2.2.2.2.2.1 k hk
  have ts := hn.selfp pl p3
  unfold lcS lcW
  generalize y (76 + k) / 3600000 = c
  generalize y (76 + k) - c * 3600000 = r
  have e1 : ps A I q (vp_updL (vp_updL (vp_updL y (76 + k) r) (82 + k) (y (82 + k) + c)) (pL I k) (y (pL I k) - c)) = ps A I q y + (if pL I k = q then -c else 0) := by
    rw [ps_upd pl, ps_far (by omega), ps_far (by omega), pk_uLn (by omega), pk_uLn (by omega), ts]
    congr 1
    by_cases g : pL I k = q
    · rw [if_pos g, if_pos g]
      grind
    · rw [if_neg g, if_neg g]
  have e2 : s64 (fun l => if pL I l = q then vp_updL (vp_updL (vp_updL y (76 + k) r) (82 + k) (y (82 + k) + c)) (pL I k) (y (pL I k) - c) (82 + l) - vp_updL (vp_updL (vp_updL y (76 + k) r) (82 + k) (y (82 + k) + c)) (pL I k) (y (pL I k) - c) (70 + l) else 0) L = s64 (fun l => if pL I l = q then y (82 + l) - y (70 + l) else 0) L + (if pL I k = q then c else 0) := by
    rw [s64_one (i := k) (f := fun l => if pL I l = q then vp_updL (vp_updL (vp_updL y (76 + k) r) (82 + k) (y (82 + k) + c)) (pL I k) (y (pL I k) - c) (82 + l) - vp_updL (vp_updL (vp_updL y (76 + k) r) (82 + k) (y (82 + k) + c)) (pL I k) (y (pL I k) - c) (70 + l) else 0) (g := fun l => if pL I l = q then y (82 + l) - y (70 + l) else 0) L (fun j hj hne => by rw [pk_uLn (show 82 + j ≠ pL I k by omega), pk_uLn (show 82 + j ≠ 82 + k by omega), pk_uLn (show 82 + j ≠ 76 + k by omega), pk_uLn (show 70 + j ≠ pL I k by omega), pk_uLn (show 70 + j ≠ 82 + k by omega), pk_uLn (show 70 + j ≠ 76 + k by omega)]) hk]
    rw [pk_uLn (show 82 + k ≠ pL I k by omega), pk_uLs, pk_uLn (show 70 + k ≠ pL I k by omega), pk_uLn (show 70 + k ≠ 82 + k by omega), pk_uLn (show 70 + k ≠ 76 + k by omega)]
    by_cases g : pL I k = q
    · rw [if_pos g, if_pos g, if_pos g]
      grind
    · rw [if_neg g, if_neg g, if_neg g]
      grind
  unfold gP
  rw [e1, e2, pk_uLn (show 60 + q ≠ pL I k by omega), pk_uLn (show 60 + q ≠ 82 + k by omega), pk_uLn (show 60 + q ≠ 76 + k by omega)]
  by_cases g : pL I k = q
  · rw [if_pos g, if_pos g]
    grind
  · rw [if_neg g, if_neg g]
    grind
theorem lc_out (hn : cEn A L F I) {m : Nat} (hm : 10 ≤ m) (h : m < 76 ∨ 88 ≤ m) : ∀ n, n ≤ L → itr (lcS I) n y m = y m
  | 0, _ => rfl
  | n + 1, h2 => by
    have hA := hn.1
    have hL := hn.2.1
    have pl := (hn.2.2.2.2.2.2.1 n (by omega)).2.1
    show lcS I n (itr (lcS I) n y) m = y m
    rw [lcS_o (by omega) (by omega) (by omega)]
    exact lc_out hn hm h n (by omega)
/-- all of it -/
theorem bk_keeps (hn : cEn A L F I) (hs : smOk A y) (hw : wgOk A y) (hz : wI A I y) (hl : ∀ l, l < L → 0 ≤ (y (76 + l)).toInt ∧ (y (76 + l)).toInt ≤ 360000000000) (hi : iV A I y) (hd : d < 1000) (hc : cV L d y) :
    (∀ q, q < 10 → gP A L I q (bkF I A L (y, l)).1 = gP A L I q y) ∧ iV A I (bkF I A L (y, l)).1 ∧ wI A I (bkF I A L (y, l)).1 ∧ cV L (d + 1) (bkF I A L (y, l)).1 := by
  have hA := hn.1
  have hL := hn.2.1
  obtain ⟨b1, b2, -, b4⟩ := bkS_all (l := l) hn hs hw hz A (Nat.le_refl A)
  have fst : (bkF I A L (y, l)).1 = itr (lcS I) L (itr wzS A (itr (bkS I A) A (y, l)).1) := rfl
  rw [fst]
  generalize (itr (bkS I A) A (y, l)).1 = t at b1 b2 b4 ⊢
  obtain ⟨z1, z2⟩ := wz_at (y := t) A hA
  have zo : ∀ m, m < 30 ∨ 50 ≤ m → itr wzS A t m = t m := fun m hm => z2 m (fun x hx => by omega)
  generalize itr wzS A t = u at z1 zo ⊢
  have lo := fun m (h1 : 10 ≤ m) h2 => lc_out (y := u) hn h1 h2 L (Nat.le_refl L)
  refine ⟨fun q hq => ?_, fun p hp => ?_, fun p hp => ⟨fun _ => ?_, fun _ => ?_⟩, fun l hl' => ?_⟩
  · have e1 : gP A L I q (itr (lcS I) L u) = gP A L I q u := itr_bd (R := fun w => gP A L I q w = gP A L I q u) L u (fun k w hk h => (gP_lc hn hq hk).trans h) rfl
    have e2 : gP A L I q u = gP A L I q t := gP_congr (fun i hi => zo i (by omega)) (zo _ (by omega)) (fun l hl => ⟨zo _ (by omega), zo _ (by omega)⟩)
    rw [e1, e2]
    unfold gP
    rw [(b1 q hq).1, s64_congr (f := fun l => if pL I l = q then t (82 + l) - t (70 + l) else 0) (g := fun l => if pL I l = q then y (82 + l) - y (70 + l) else 0) L (fun l hl => by rw [b2 (82 + l) (by omega), b2 (70 + l) (by omega)])]
  · have pA := hp.1
    have e1 : ps A I p (fun i => itr (lcS I) L u (50 + i)) = ps A I p (fun i => t (50 + i)) := ps_congr (fun i hi => by rw [lo (50 + i) (by omega) (by omega), zo _ (by omega)])
    rw [e1, lo (60 + p) (by omega) (by omega), zo _ (by omega)]
    have := (b1 p (by omega)).2
    rw [hi p hp] at this
    grind
  · have pA := hp.1
    rw [lo (10 + p) (by omega) (by omega), zo _ (by omega)]
    exact (b4 p pA hp.2).1
  · have pA := hp.1
    rw [lo (20 + p) (by omega) (by omega), zo _ (by omega)]
    exact (b4 p pA hp.2).2
  · have st : itr (lcS I) L u (82 + l) = lcS I l (itr (lcS I) l u) (82 + l) := (itr_lone (f := lcS I) (m := 82 + l) (p := l) L u (fun k s hk hne => by
      have pl := (hn.2.2.2.2.2.2.1 k hk).2.1
      exact lcS_o (by omega) (by omega) (by omega))).1 hl'
    have pl := (hn.2.2.2.2.2.2.1 l hl').2.1
    have own : ∀ m, m = 76 + l ∨ m = 82 + l → itr (lcS I) l u m = u m := fun m hm => (itr_lone (f := lcS I) (m := m) (p := l) l u (fun k s hk hne => by
      have pl := (hn.2.2.2.2.2.2.1 k (by omega)).2.1
      exact lcS_o (by omega) (by omega) (by omega))).2 (Nat.le_refl l)
    have e : lcS I l (itr (lcS I) l u) (82 + l) = y (82 + l) + y (76 + l) / 3600000 := by
      have o1 := own _ (Or.inl rfl)
      have o2 := own _ (Or.inr rfl)
      generalize itr (lcS I) l u = s at o1 o2
      unfold lcS lcW
      rw [pk_uLn (by omega), pk_uLs, o1, o2, zo _ (by omega), zo _ (by omega), b2 _ (by omega), b2 _ (by omega)]
    obtain ⟨c1, c2⟩ := hc l hl'
    obtain ⟨l1, l2⟩ := hl l hl'
    have dv : (y (76 + l) / 3600000).toInt = ((y (76 + l)).toInt.toNat / 3600000 : Nat) := by rw [div_year l1, lN_nat (by omega)]
    rw [st, e, i64_add (by rw [dv]; omega) (by rw [dv]; omega), dv]
    omega
end BG
