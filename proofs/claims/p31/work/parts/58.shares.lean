/-! ===== an amount split: both ways give the same shares ===== -/
def onAt {σ : Type} (o : Option Nat) (S : Nat → σ → σ) (s : σ) : σ := match o with
  | some x => S x s
  | none => s
def opt0 (o : Option Nat) (G : Nat → Int) : Int := match o with
  | some x => G x
  | none => 0
theorem itr_onAt {σ : Type} (S : Nat → σ → σ) (l : List Nat) (y : σ) : ∀ m, itr (fun i s => onAt (l[i]?) S s) m y = foldS S (l.take m) y := by
  intro m
  induction m with
  | zero => rfl
  | succ m ih =>
    show onAt (l[m]?) S (itr (fun i s => onAt (l[i]?) S s) m y) = _
    rw [ih, List.take_succ, foldS_app]
    cases l[m]? with
    | none => rfl
    | some x => rfl
section SH
variable {A L F : Nat} {I : Nat → Nat → Int32} {y l : Nat → Int64}
theorem take_all {p : Nat} (hA : A ≤ 10) : (cmem A I p).take 10 = cmem A I p := List.take_of_length_le (cmem_len hA)
/-- a weight by its place, as a natural number -/
def wpl (A : Nat) (I : Nat → Nat → Int32) (p : Nat) (w : Nat → Nat) (i : Nat) : Nat := match (cmem A I p)[i]? with
  | some x => w x
  | none => 0
theorem wpl_s {p i x : Nat} {w : Nat → Nat} (h : (cmem A I p)[i]? = some x) : wpl A I p w i = w x := by unfold wpl; rw [h]
theorem wpl_n {p i : Nat} {w : Nat → Nat} (h : (cmem A I p)[i]? = none) : wpl A I p w i = 0 := by unfold wpl; rw [h]
theorem lN_0 : lN 0 = 0 := by decide
/-- a fold over a pool's members: by accounts, by places -/
theorem fold_members {σ : Type} (hA : A ≤ 10) {p : Nat} (S : Nat → σ → σ) (s : σ) : foldS S (cmem A I p) s = itr (fun k s => if tI I k = p then S k s else s) A s ∧ foldS S (cmem A I p) s = itr (fun i s => onAt ((cmem A I p)[i]?) S s) 10 s := by
  constructor
  · unfold cmem
    rw [foldS_filter, itr_foldS]
    refine foldS_congr _ _ (fun x _ s => ?_)
    by_cases e : tI I x = p
    · rw [if_pos (decide_eq_true e), if_pos e]
    · rw [if_neg (fun c => e (of_decide_eq_true c)), if_neg e]
  · rw [itr_onAt, take_all hA]
theorem itr_fun {σ : Type} {f g : Nat → σ → σ} : ∀ (n : Nat) (s : σ), (∀ k s, k < n → f k s = g k s) → itr f n s = itr g n s
  | 0, _, _ => rfl
  | n + 1, s, h => by
    show f n (itr f n s) = g n (itr g n s)
    rw [itr_fun n s (fun k s hk => h k s (by omega)), h n _ (by omega)]
theorem sm_itr (f : Nat → Int) : ∀ n, itr (fun k s => s + f k) n 0 = sm f n
  | 0 => rfl
  | n + 1 => by
    show itr (fun k s => s + f k) n 0 + f n = sm f n + f n
    rw [sm_itr f n]
theorem sm_places (hA : A ≤ 10) {p : Nat} (G : Nat → Int) : sm (fun x => if tI I x = p then G x else 0) A = sm (fun i => opt0 ((cmem A I p)[i]?) G) 10 := by
  obtain ⟨h1, h2⟩ := fold_members (I := I) hA (p := p) (fun x s => s + G x) (0 : Int)
  rw [← sm_itr, ← sm_itr]
  have e1 := itr_fun (f := fun k s => s + (if tI I k = p then G k else 0)) (g := fun k s => if tI I k = p then s + G k else s) A (0 : Int) (fun k s _ => by
    by_cases e : tI I k = p
    · simp only [if_pos e]
    · simp only [if_neg e, Int.add_zero])
  have e2 := itr_fun (f := fun k s => s + opt0 ((cmem A I p)[k]?) G) (g := fun i s => onAt ((cmem A I p)[i]?) (fun x s => s + G x) s) 10 (0 : Int) (fun i s _ => by
    cases h : (cmem A I p)[i]? with
    | none => exact Int.add_zero s
    | some x => rfl)
  exact e1.trans (h1.symm.trans (h2.trans e2.symm))
theorem mem4 (ha : acOk A I) (hA : A ≤ 10) {p k : Nat} (hp : p < A) (hk : k < A) : I 4 k = nI p ↔ tI I k = p := by
  obtain ⟨a1, a2, -, -⟩ := ha k hk
  rw [a1]
  exact nI_eq (by omega) (by omega)
theorem spl_eq (ha : acOk A I) (hA : A ≤ 10) {p s wo : Nat} (hp : p < A) (hs : s / 2 = p) (hwo : ∀ x, sw1 s x = wo + x) (hw1 : 30 ≤ wo) (hw2 : wo ≤ 40) {w : Nat → Nat} (hw : ∀ x, x < A → tI I x = p → y (wo + x) = lN (w x) ∧ w x ≤ 200000000000) {a : Nat} (hal : a ≤ 40000000) {sgI : Int32} (sh0 rm0 : Nat → Int64) :
    (∀ i x, (cmem A I p)[i]? = some x → (splF I A p (lN a) wo sgI (y, l)).1 x = y x + sgI.toInt64 * (splC (cwt A I y s) (lN a) sh0 rm0).1 i ∧ (splF I A p (lN a) wo sgI (y, l)).1 (50 + x) = y (50 + x) + sgI.toInt64 * (splC (cwt A I y s) (lN a) sh0 rm0).1 i) ∧
    (∀ m, (∀ x, x < A → tI I x = p → m ≠ x ∧ m ≠ 50 + x) → (splF I A p (lN a) wo sgI (y, l)).1 m = y m) ∧
    ∃ g : Nat → Nat, (∀ i, i < 10 → (splC (cwt A I y s) (lN a) sh0 rm0).1 i = lN (g i)) ∧ sn g 10 ≤ a := by
  have len := cmem_len (I := I) hA (p := p)
  -- the weights, by places
  have cw : ∀ i, cwt A I y s i = lN (wpl A I p w i) := by
    intro i
    unfold cwt
    rw [hs]
    cases hx : (cmem A I p)[i]? with
    | none => rw [wpl_n hx, lN_0]
    | some x =>
      obtain ⟨h1, h2⟩ := cmem_lt hx
      rw [wpl_s hx]
      show y (sw1 s x) = _
      rw [hwo]
      exact (hw x h1 h2).1
  have wle : ∀ i, wpl A I p w i ≤ 200000000000 := by
    intro i
    cases hx : (cmem A I p)[i]? with
    | none => rw [wpl_n hx]; omega
    | some x =>
      obtain ⟨h1, h2⟩ := cmem_lt hx
      rw [wpl_s hx]
      exact (hw x h1 h2).2
  have whole : itr (fun i s' => s' + cwt A I y s i) 10 0 = lN (sn (wpl A I p w) 10) := by
    have : ∀ n, itr (fun i s' => s' + cwt A I y s i) n 0 = lN (sn (wpl A I p w) n) := by
      intro n
      induction n with
      | zero => exact lN_0.symm
      | succ n ih =>
        show itr (fun i s' => s' + cwt A I y s i) n 0 + cwt A I y s n = lN (sn (wpl A I p w) n + wpl A I p w n)
        rw [ih, cw, lN_add]
    exact this 10
  have wsum : wF I A y p wo = lN (sn (wpl A I p w) 10) := by
    rw [← whole]
    obtain ⟨h1, h2⟩ := fold_members (I := I) hA (p := p) (fun x s' => s' + y (wo + x)) (0 : Int64)
    have e1 : wF I A y p wo = itr (fun k s' => if tI I k = p then s' + y (wo + k) else s') A 0 := by
      unfold wF
      refine itr_fun A 0 (fun k s' hk => ?_)
      unfold wS
      by_cases e : tI I k = p
      · rw [if_pos e, if_pos ((mem4 ha hA hp hk).mpr e)]
      · rw [if_neg e, if_neg (fun c => e ((mem4 ha hA hp hk).mp c)), Int64.add_zero]
    have e2 : itr (fun i s' => s' + cwt A I y s i) 10 0 = itr (fun i s' => onAt ((cmem A I p)[i]?) (fun x s' => s' + y (wo + x)) s') 10 0 := by
      refine itr_fun 10 0 (fun i s' _ => ?_)
      unfold cwt
      rw [hs]
      cases (cmem A I p)[i]? with
      | none => exact Int64.add_zero s'
      | some x => show s' + y (sw1 s x) = s' + y (wo + x); rw [hwo]
    rw [e1, e2, ← h1, h2]
  have wlim : sn (wpl A I p w) 10 ≤ 2000000000000 := by
    have := sn_le (f := wpl A I p w) (g := fun _ => 200000000000) 10 (fun j _ => wle j)
    have e : sn (fun _ => 200000000000) 10 = 2000000000000 := by decide
    omega
  have zr : ∀ i, i < 10 → zrF sh0 i = 0 := by
    intro i hi
    have : ∀ n, (∀ i, i < n → itr (fun i s' => vp_updL s' i 0) n sh0 i = 0) := by
      intro n
      induction n with
      | zero => intro i hi; omega
      | succ n ih =>
        intro i hi
        show vp_updL (itr (fun i s' => vp_updL s' i 0) n sh0) n 0 i = 0
        by_cases e : i = n
        · rw [e]; exact pk_uLs
        · rw [pk_uLn e]; exact ih i (by omega)
    exact this 10 i hi
  unfold splC splF
  show (∀ i x, _ → (if wF I A y p wo = 0 then (y, l) else _).1 x = _ ∧ _) ∧ _
  rw [whole]
  simp only [wsum]
  by_cases h0 : sn (wpl A I p w) 10 = 0
  · rw [h0, lN_0, if_pos rfl, if_neg (by decide)]
    refine ⟨fun i x hx => ?_, fun m _ => rfl, fun _ => 0, fun i hi => by rw [lN_0]; exact zr i hi, ?_⟩
    · have hi : i < 10 := Nat.lt_of_lt_of_le (List.getElem?_eq_some_iff.mp hx).1 len
      show y x = y x + _ * zrF sh0 i ∧ y (50 + x) = y (50 + x) + _ * zrF sh0 i
      rw [zr i hi, Int64.mul_zero, Int64.add_zero, Int64.add_zero]
      exact ⟨rfl, rfl⟩
    · have e : sn (fun _ => 0) 10 = 0 := by decide
      omega
  · have hpos : 0 < sn (wpl A I p w) 10 := by omega
    obtain ⟨par1, par2⟩ := parts_le (w := wpl A I p w) (a := a) hpos
    generalize hS : sn (wpl A I p w) 10 = S at h0 hpos par1 par2 wlim ⊢
    have cpos : (0 : Int64) < lN S := by rw [← lN_0]; exact (pk_lLT (by omega) (by omega)).mpr hpos
    have cne : ¬ lN S = 0 := fun e => by rw [e] at cpos; exact absurd cpos (by decide)
    rw [if_neg cne, if_pos cpos]
    have prod : ∀ v, v ≤ 200000000000 → a * v < 2 ^ 63 := by
      intro v hv
      have : a * v ≤ 40000000 * 200000000000 := Nat.mul_le_mul hal hv
      omega
    have dv : ∀ v, v ≤ 200000000000 → lN a * lN v / lN S = lN (a * v / S) := fun v hv => by
      rw [lN_mul, pk_lDiv (prod v hv) hpos (by omega)]
    have md : ∀ v, v ≤ 200000000000 → lN a * lN v - lN a * lN v / lN S * lN S = lN (a * v % S) := fun v hv => by
      rw [lN_mul, pk_lRem (prod v hv) hpos (by omega)]
    -- the class's shares
    have cl : ∀ n, n ≤ 10 → (∀ i, i < n → (itr (spS (cwt A I y s) (lN a) (lN S)) n (zrF sh0, rm0, lN a)).1 i = lN (a * wpl A I p w i / S) ∧ (itr (spS (cwt A I y s) (lN a) (lN S)) n (zrF sh0, rm0, lN a)).2.1 i = lN (a * wpl A I p w i % S)) ∧ (itr (spS (cwt A I y s) (lN a) (lN S)) n (zrF sh0, rm0, lN a)).2.2 = lN (a - sn (fun i => a * wpl A I p w i / S) n) := by
      intro n
      induction n with
      | zero => intro _; exact ⟨fun i hi => by omega, rfl⟩
      | succ n ih =>
        intro hn
        obtain ⟨i1, i2⟩ := ih (by omega)
        show (∀ i, i < n + 1 → (spS (cwt A I y s) (lN a) (lN S) n (itr (spS (cwt A I y s) (lN a) (lN S)) n (zrF sh0, rm0, lN a))).1 i = _ ∧ (spS (cwt A I y s) (lN a) (lN S) n (itr (spS (cwt A I y s) (lN a) (lN S)) n (zrF sh0, rm0, lN a))).2.1 i = _) ∧ (spS (cwt A I y s) (lN a) (lN S) n (itr (spS (cwt A I y s) (lN a) (lN S)) n (zrF sh0, rm0, lN a))).2.2 = _
        generalize itr (spS (cwt A I y s) (lN a) (lN S)) n (zrF sh0, rm0, lN a) = t at i1 i2 ⊢
        unfold spS
        rw [cw n, md _ (wle n), dv _ (wle n)]
        refine ⟨fun i hi => ?_, ?_⟩
        · show vp_updL t.1 n _ i = _ ∧ vp_updL t.2.1 n _ i = _
          by_cases e : i = n
          · rw [e, pk_uLs, pk_uLs]; exact ⟨rfl, rfl⟩
          · rw [pk_uLn e, pk_uLn e]; exact i1 i (by omega)
        · show t.2.2 - lN (a * wpl A I p w n / S) = lN (a - (sn (fun i => a * wpl A I p w i / S) n + a * wpl A I p w n / S))
          have m1 := sn_mono (f := fun i => a * wpl A I p w i / S) (show n + 1 ≤ 10 by omega)
          have m2 : sn (fun i => a * wpl A I p w i / S) (n + 1) = sn (fun i => a * wpl A I p w i / S) n + a * wpl A I p w n / S := rfl
          rw [i2, lN_sub (by omega)]
          congr 1
          omega
    obtain ⟨c1, c2⟩ := cl 10 (Nat.le_refl _)
    -- the reference's
    have rf : ∀ n, n ≤ A → (∀ x, x < n → tI I x = p → (itr (shS I p (lN a) wo sgI (lN S)) n (y, l, lN a)).1 x = y x + sgI.toInt64 * lN (a * w x / S) ∧ (itr (shS I p (lN a) wo sgI (lN S)) n (y, l, lN a)).1 (50 + x) = y (50 + x) + sgI.toInt64 * lN (a * w x / S) ∧ (itr (shS I p (lN a) wo sgI (lN S)) n (y, l, lN a)).2.1 x = lN (a * w x % S)) ∧
        (∀ x, x < n → tI I x ≠ p → (itr (shS I p (lN a) wo sgI (lN S)) n (y, l, lN a)).2.1 x = -1) ∧ (∀ m, (∀ x, x < n → tI I x = p → m ≠ x ∧ m ≠ 50 + x) → (itr (shS I p (lN a) wo sgI (lN S)) n (y, l, lN a)).1 m = y m) ∧
        (itr (shS I p (lN a) wo sgI (lN S)) n (y, l, lN a)).2.2 = itr (fun k s' => if tI I k = p then s' - lN a * y (wo + k) / lN S else s') n (lN a) := by
      intro n
      induction n with
      | zero => intro _; exact ⟨fun x hx => by omega, fun x hx => by omega, fun m _ => rfl, rfl⟩
      | succ n ih =>
        intro hn
        obtain ⟨i1, i2, i3, i4⟩ := ih (by omega)
        show (∀ x, x < n + 1 → tI I x = p → (shS I p (lN a) wo sgI (lN S) n (itr (shS I p (lN a) wo sgI (lN S)) n (y, l, lN a))).1 x = _ ∧ (shS I p (lN a) wo sgI (lN S) n (itr (shS I p (lN a) wo sgI (lN S)) n (y, l, lN a))).1 (50 + x) = _ ∧ (shS I p (lN a) wo sgI (lN S) n (itr (shS I p (lN a) wo sgI (lN S)) n (y, l, lN a))).2.1 x = _) ∧
          (∀ x, x < n + 1 → tI I x ≠ p → (shS I p (lN a) wo sgI (lN S) n (itr (shS I p (lN a) wo sgI (lN S)) n (y, l, lN a))).2.1 x = -1) ∧ (∀ m, (∀ x, x < n + 1 → tI I x = p → m ≠ x ∧ m ≠ 50 + x) → (shS I p (lN a) wo sgI (lN S) n (itr (shS I p (lN a) wo sgI (lN S)) n (y, l, lN a))).1 m = y m) ∧
          (shS I p (lN a) wo sgI (lN S) n (itr (shS I p (lN a) wo sgI (lN S)) n (y, l, lN a))).2.2 = (if tI I n = p then itr (fun k s' => if tI I k = p then s' - lN a * y (wo + k) / lN S else s') n (lN a) - lN a * y (wo + n) / lN S else itr (fun k s' => if tI I k = p then s' - lN a * y (wo + k) / lN S else s') n (lN a))
        generalize itr (shS I p (lN a) wo sgI (lN S)) n (y, l, lN a) = t at i1 i2 i3 i4 ⊢
        rw [← i4]
        have nA : n < A := by omega
        unfold shS
        by_cases e : tI I n = p
        · obtain ⟨wn1, wn2⟩ := hw n nA e
          have rd : t.1 (wo + n) = lN (w n) := by
            rw [i3 (wo + n) (fun x hx _ => by omega)]
            exact wn1
          rw [if_pos ((mem4 ha hA hp nA).mpr e), rd, md _ wn2, dv _ wn2, wn1, if_pos e, dv _ wn2]
          refine ⟨fun x hx ht => ?_, fun x hx ht => ?_, fun m hm => ?_, rfl⟩
          · show getsF n (sgI.toInt64 * lN (a * w n / S)) t.1 x = _ ∧ getsF n (sgI.toInt64 * lN (a * w n / S)) t.1 (50 + x) = _ ∧ vp_updL t.2.1 n _ x = _
            unfold getsF
            by_cases e2 : x = n
            · subst e2
              rw [pk_uLn (show x ≠ 50 + x by omega), pk_uLs, pk_uLs, pk_uLs, i3 x (fun x' hx' _ => by omega), i3 (50 + x) (fun x' hx' _ => by omega)]
              exact ⟨rfl, rfl, rfl⟩
            · rw [pk_uLn (show x ≠ 50 + n by omega), pk_uLn e2, pk_uLn (show 50 + x ≠ 50 + n by omega), pk_uLn (show 50 + x ≠ n by omega), pk_uLn e2]
              exact i1 x (by omega) ht
          · have e2 : x ≠ n := fun v => ht (by rw [v]; exact e)
            show vp_updL t.2.1 n _ x = -1
            rw [pk_uLn e2]
            exact i2 x (by omega) ht
          · obtain ⟨m1, m2⟩ := hm n (by omega) e
            show getsF n _ t.1 m = y m
            unfold getsF
            rw [pk_uLn m2, pk_uLn m1]
            exact i3 m (fun x hx ht => hm x (by omega) ht)
        · rw [if_neg (fun c => e ((mem4 ha hA hp nA).mp c)), if_neg e]
          refine ⟨fun x hx ht => ?_, fun x hx ht => ?_, fun m hm => i3 m (fun x hx ht => hm x (by omega) ht), rfl⟩
          · have e2 : x ≠ n := fun v => e (by rw [← v]; exact ht)
            show t.1 x = _ ∧ t.1 (50 + x) = _ ∧ vp_updL t.2.1 n (-1) x = _
            rw [pk_uLn e2]
            exact i1 x (by omega) ht
          · show vp_updL t.2.1 n (-1) x = -1
            by_cases e2 : x = n
            · rw [e2]; exact pk_uLs
            · rw [pk_uLn e2]; exact i2 x (by omega) ht
    obtain ⟨r1, r2, r3, r4⟩ := rf A (Nat.le_refl _)
    -- both leave the same number of cents
    have cents : (itr (shS I p (lN a) wo sgI (lN S)) A (y, l, lN a)).2.2 = lN (a - sn (fun i => a * wpl A I p w i / S) 10) := by
      rw [r4, ← c2]
      obtain ⟨h1, h2⟩ := fold_members (I := I) hA (p := p) (fun x s' => s' - lN a * y (wo + x) / lN S) (lN a)
      rw [← h1, h2]
      have : ∀ n, (itr (spS (cwt A I y s) (lN a) (lN S)) n (zrF sh0, rm0, lN a)).2.2 = itr (fun i s' => onAt ((cmem A I p)[i]?) (fun x s' => s' - lN a * y (wo + x) / lN S) s') n (lN a) := by
        intro n
        induction n with
        | zero => rfl
        | succ n ih =>
          show (itr (spS (cwt A I y s) (lN a) (lN S)) n (zrF sh0, rm0, lN a)).2.2 - lN a * cwt A I y s n / lN S = onAt ((cmem A I p)[n]?) (fun x s' => s' - lN a * y (wo + x) / lN S) (itr (fun i s' => onAt ((cmem A I p)[i]?) (fun x s' => s' - lN a * y (wo + x) / lN S) s') n (lN a))
          rw [ih]
          cases hx : (cmem A I p)[n]? with
          | none =>
            have ec : cwt A I y s n = 0 := by unfold cwt; rw [hs, hx]
            rw [ec]
            show _ - lN a * 0 / lN S = _
            have e0 : lN a * 0 / lN S = 0 := by
              rw [← lN_0, lN_mul, pk_lDiv (by omega) hpos (by omega), Nat.mul_zero, Nat.zero_div]
            rw [e0, Int64.sub_zero]
            rfl
          | some x =>
            have ec : cwt A I y s n = y (wo + x) := by
              unfold cwt
              rw [hs, hx]
              show y (sw1 s x) = y (wo + x)
              rw [hwo]
            rw [ec]
            rfl
      exact (this 10).symm
    have hc10 : sn (fun i => if 0 < a * wpl A I p w i % S then 1 else 0) 10 ≤ 10 := by
      have := sn_le (f := fun i => if 0 < a * wpl A I p w i % S then 1 else 0) (g := fun _ => 1) 10 (fun j _ => by
        show (if 0 < a * wpl A I p w j % S then 1 else 0) ≤ 1
        split <;> omega)
      have e : sn (fun _ => 1) 10 = 10 := by decide
      omega
    rw [cents]
    generalize hN : a - sn (fun i => a * wpl A I p w i / S) 10 = N at par2 c2
    have n1 : (lN N).toNatClampNeg = N := by
      show (lN N).toInt.toNat = N
      rw [lN_toInt (by omega)]
      exact Int.toNat_natCast N
    have n2 : gcN (itr (spS (cwt A I y s) (lN a) (lN S)) 10 (zrF sh0, rm0, lN a)).2.2 = N := by
      unfold gcN
      rw [c2, lN_toInt (by omega), Int.toNat_natCast]
      omega
    rw [n1, n2]
    generalize itr (spS (cwt A I y s) (lN a) (lN S)) 10 (zrF sh0, rm0, lN a) = ct at c1 c2
    generalize itr (shS I p (lN a) wo sgI (lN S)) A (y, l, lN a) = rt at r1 r2 r3 r4
    have rel : spR A I p sgI.toInt64 y (ct.1, ct.2.1) (rt.1, rt.2.1) := by
      refine ⟨fun i x hx => ?_, r2, fun i hi hx => ?_, r3⟩
      · obtain ⟨h1, h2⟩ := cmem_lt hx
        have hi : i < 10 := Nat.lt_of_lt_of_le (List.getElem?_eq_some_iff.mp hx).1 len
        obtain ⟨q1, q2, q3⟩ := r1 x h1 h2
        obtain ⟨q4, q5⟩ := c1 i hi
        rw [wpl_s hx] at q4 q5
        show rt.2.1 x = ct.2.1 i ∧ rt.1 x = y x + _ * ct.1 i ∧ rt.1 (50 + x) = y (50 + x) + _ * ct.1 i
        rw [q4, q5]
        exact ⟨q3, q1, q2⟩
      · show ct.2.1 i ≤ 0
        rw [(c1 i hi).2, wpl_n hx, Nat.mul_zero, Nat.zero_mod, lN_0]
        exact Int64.le_refl _
    have pos : N ≤ psF ct.2.1 := by
      have e : psF ct.2.1 = sn (fun i => if 0 < a * wpl A I p w i % S then 1 else 0) 10 := by
        unfold psF
        refine sn_congr 10 (fun i hi => ?_)
        show (if 0 < ct.2.1 i then 1 else 0) = _
        rw [(c1 i hi).2]
        have lm : a * wpl A I p w i % S < S := Nat.mod_lt _ hpos
        by_cases g : 0 < a * wpl A I p w i % S
        · rw [if_pos g, if_pos]
          rw [← lN_0]
          exact (pk_lLT (by omega) (by omega)).mpr g
        · rw [if_neg g, if_neg]
          intro c
          rw [← lN_0] at c
          exact g ((pk_lLT (by omega) (by omega)).mp c)
      omega
    obtain ⟨⟨f1, -, -, f4⟩, g, g1, g2⟩ := rounds_eq (y := y) hA (p := p) (sgI := sgI) N (ct.1, ct.2.1) (rt.1, rt.2.1) (fun i => a * wpl A I p w i / S) rel pos (fun i hi => (c1 i hi).1)
    refine ⟨fun i x hx => ⟨(f1 i x hx).2.1, (f1 i x hx).2.2⟩, f4, g, g1, ?_⟩
    omega
end SH
