/-! ===== an amount split is given out whole ===== -/
section SW2
variable {A L F : Nat} {I : Nat → Nat → Int32} {y l : Nat → Int64}
/-- what an account gets, told by what its pool has -/
theorem ps_gets {k q : Nat} {v : Int64} {y : Nat → Int64} (hA : A ≤ 10) (hk : k < A) : ps A I q (getsF k v y) = ps A I q y + (if tI I k = q then v else 0) ∧ ps A I q (fun i => getsF k v y (50 + i)) = ps A I q (fun i => y (50 + i)) + (if tI I k = q then v else 0) := by
  constructor
  · unfold getsF
    rw [ps_far (by omega), ps_upd hk]
    congr 1
    by_cases e : tI I k = q
    · rw [if_pos e, if_pos e]
      grind
    · rw [if_neg e, if_neg e]
  · have e : ps A I q (fun i => getsF k v y (50 + i)) = ps A I q (vp_updL (fun i => y (50 + i)) k (y (50 + k) + v)) := by
      refine ps_congr (fun i hi => ?_)
      unfold getsF
      by_cases c : i = k
      · rw [c, pk_uLs, pk_uLs]
      · rw [pk_uLn (show 50 + i ≠ 50 + k by omega), pk_uLn (show 50 + i ≠ k by omega), pk_uLn c]
    rw [e, ps_upd hk]
    congr 1
    by_cases e : tI I k = q
    · rw [if_pos e, if_pos e]
      grind
    · rw [if_neg e, if_neg e]
/-- shares and what is left are the amount -/
theorem sh_ps (ha : acOk A I) (hA : A ≤ 10) {p wo : Nat} (hp : p < A) {sgI : Int32} {amt all : Int64} : ∀ n, n ≤ A → ∀ q,
    ps A I q (itr (shS I p amt wo sgI all) n (y, l, amt)).1 + (if q = p then sgI.toInt64 * (itr (shS I p amt wo sgI all) n (y, l, amt)).2.2 else 0) = ps A I q y + (if q = p then sgI.toInt64 * amt else 0) ∧
    ps A I q (fun i => (itr (shS I p amt wo sgI all) n (y, l, amt)).1 (50 + i)) + (if q = p then sgI.toInt64 * (itr (shS I p amt wo sgI all) n (y, l, amt)).2.2 else 0) = ps A I q (fun i => y (50 + i)) + (if q = p then sgI.toInt64 * amt else 0) := by
  intro n
  induction n with
  | zero => intro _ q; exact ⟨rfl, rfl⟩
  | succ n ih =>
    intro hn q
    obtain ⟨i1, i2⟩ := ih (by omega) q
    show ps A I q (shS I p amt wo sgI all n (itr (shS I p amt wo sgI all) n (y, l, amt))).1 + (if q = p then sgI.toInt64 * (shS I p amt wo sgI all n (itr (shS I p amt wo sgI all) n (y, l, amt))).2.2 else 0) = _ ∧ ps A I q (fun i => (shS I p amt wo sgI all n (itr (shS I p amt wo sgI all) n (y, l, amt))).1 (50 + i)) + (if q = p then sgI.toInt64 * (shS I p amt wo sgI all n (itr (shS I p amt wo sgI all) n (y, l, amt))).2.2 else 0) = _
    generalize itr (shS I p amt wo sgI all) n (y, l, amt) = t at i1 i2 ⊢
    unfold shS
    by_cases e : tI I n = p
    · rw [if_pos ((mem4 ha hA hp (show n < A by omega)).mpr e)]
      show ps A I q (getsF n (sgI.toInt64 * (amt * t.1 (wo + n) / all)) t.1) + (if q = p then sgI.toInt64 * (t.2.2 - amt * t.1 (wo + n) / all) else 0) = _ ∧ ps A I q (fun i => getsF n (sgI.toInt64 * (amt * t.1 (wo + n) / all)) t.1 (50 + i)) + (if q = p then sgI.toInt64 * (t.2.2 - amt * t.1 (wo + n) / all) else 0) = _
      obtain ⟨g1, g2⟩ := ps_gets (I := I) (q := q) (v := sgI.toInt64 * (amt * t.1 (wo + n) / all)) (y := t.1) hA (show n < A by omega)
      rw [g1, g2, e]
      generalize amt * t.1 (wo + n) / all = v
      by_cases c : q = p
      · rw [if_pos c] at i1 i2
        rw [if_pos c.symm, if_pos c, ← i1, ← i2]
        constructor <;> grind
      · rw [if_neg c] at i1 i2
        rw [if_neg (fun g => c g.symm), if_neg c, ← i1, ← i2]
        constructor <;> grind
    · rw [if_neg (fun c => e ((mem4 ha hA hp (show n < A by omega)).mp c))]
      exact ⟨i1, i2⟩
/-- the cents that are left go to accounts of the pool -/
theorem cen_ps (hA : A ≤ 10) {p : Nat} {sgI : Int32} : ∀ (n : Nat) (c r : (Nat → Int64) × (Nat → Int64)) (f : Nat → Nat), spR A I p sgI.toInt64 y c r → n ≤ psF c.2 → (∀ i, i < 10 → c.1 i = lN (f i)) → ∀ q,
    ps A I q (cenF A sgI n r).1 = ps A I q r.1 + (if q = p then sgI.toInt64 * lN n else 0) ∧ ps A I q (fun i => (cenF A sgI n r).1 (50 + i)) = ps A I q (fun i => r.1 (50 + i)) + (if q = p then sgI.toInt64 * lN n else 0) := by
  intro n
  induction n with
  | zero =>
    intro c r f _ _ _ q
    have z : (if q = p then sgI.toInt64 * lN 0 else 0) = 0 := by rw [lN_0, Int64.mul_zero]; split <;> rfl
    rw [z, Int64.add_zero, Int64.add_zero]
    exact ⟨rfl, rfl⟩
  | succ n ih =>
    intro c r f h hn hf q
    obtain ⟨k, hk, ek, hm, hp⟩ := round_eq hA h (by omega)
    have ktop := (cmem_lt hm).2
    have hi10 := mostF_lt (l := c.2) (A := 10) (by omega)
    have hcp := cp_dec hi10 hp
    obtain ⟨h1, g, g1, -⟩ := rounds_eq hA (p := p) (sgI := sgI) 1 c r f h (by omega) hf
    have e1 : itr (fun _ s => gcR s) 1 c = gcR c := rfl
    have e2 : cenF A sgI 1 r = (getsF (mostF r.2 A) sgI.toInt64 r.1, vp_updL r.2 (mostF r.2 A) (-1)) := rfl
    have e3 : cenF A sgI (n + 1) r = cenF A sgI n (getsF (mostF r.2 A) sgI.toInt64 r.1, vp_updL r.2 (mostF r.2 A) (-1)) := rfl
    rw [e1, e2] at h1
    rw [e1] at g1
    have e4 : (gcR c).2 = vp_updL c.2 (mostF c.2 10) (-1) := rfl
    obtain ⟨u1, u2⟩ := ih (gcR c) (getsF (mostF r.2 A) sgI.toInt64 r.1, vp_updL r.2 (mostF r.2 A) (-1)) g h1 (by rw [e4]; omega) g1 q
    obtain ⟨v1, v2⟩ := ps_gets (I := I) (q := q) (v := sgI.toInt64) (y := r.1) hA hk
    rw [e3, u1, u2]
    show ps A I q (getsF (mostF r.2 A) sgI.toInt64 r.1) + _ = _ ∧ ps A I q (fun i => getsF (mostF r.2 A) sgI.toInt64 r.1 (50 + i)) + _ = _
    rw [ek, v1, v2, ktop, ← lN_1]
    by_cases cq : q = p
    · rw [if_pos cq.symm, if_pos cq, if_pos cq]
      constructor <;> grind
    · rw [if_neg (fun g => cq g.symm), if_neg cq, if_neg cq]
      constructor <;> grind
theorem spl_ps (ha : acOk A I) (hA : A ≤ 10) {p s wo : Nat} (hp : p < A) (hs : s / 2 = p) (hwo : ∀ x, sw1 s x = wo + x) (hw1 : 30 ≤ wo) (hw2 : wo ≤ 40) {w : Nat → Nat} (hw : ∀ x, x < A → tI I x = p → y (wo + x) = lN (w x) ∧ w x ≤ 200000000000) {a : Nat} (hal : a ≤ 40000000) (hz : (∀ x, x < A → tI I x = p → w x = 0) → a = 0) {sgI : Int32} (sh0 rm0 : Nat → Int64) :
    ∀ q, ps A I q (splF I A p (lN a) wo sgI (y, l)).1 = ps A I q y + (if q = p then sgI.toInt64 * lN a else 0) ∧ ps A I q (fun i => (splF I A p (lN a) wo sgI (y, l)).1 (50 + i)) = ps A I q (fun i => y (50 + i)) + (if q = p then sgI.toInt64 * lN a else 0) := by
  have len := cmem_len (I := I) hA (p := p)
  -- the weights, by places
  have cw : ∀ i, cwt A I y s i = lN (wpl A I p w i) := by
    intro i
    unfold cwt
    rw [hs]
    cases hx : (cmem A I p)[i]? with
    | none => rw [wpl_n hx, lN_0]
    | some x =>
      obtain ⟨h1, h2⟩ := cmem_lt hx
      rw [wpl_s hx]
      show y (sw1 s x) = _
      rw [hwo]
      exact (hw x h1 h2).1
  have wle : ∀ i, wpl A I p w i ≤ 200000000000 := by
    intro i
    cases hx : (cmem A I p)[i]? with
    | none => rw [wpl_n hx]; omega
    | some x =>
      obtain ⟨h1, h2⟩ := cmem_lt hx
      rw [wpl_s hx]
      exact (hw x h1 h2).2
  have whole : itr (fun i s' => s' + cwt A I y s i) 10 0 = lN (sn (wpl A I p w) 10) := by
    have : ∀ n, itr (fun i s' => s' + cwt A I y s i) n 0 = lN (sn (wpl A I p w) n) := by
      intro n
      induction n with
      | zero => exact lN_0.symm
      | succ n ih =>
        show itr (fun i s' => s' + cwt A I y s i) n 0 + cwt A I y s n = lN (sn (wpl A I p w) n + wpl A I p w n)
        rw [ih, cw, lN_add]
    exact this 10
  have wsum : wF I A y p wo = lN (sn (wpl A I p w) 10) := by
    rw [← whole]
    obtain ⟨h1, h2⟩ := fold_members (I := I) hA (p := p) (fun x s' => s' + y (wo + x)) (0 : Int64)
    have e1 : wF I A y p wo = itr (fun k s' => if tI I k = p then s' + y (wo + k) else s') A 0 := by
      unfold wF
      refine itr_fun A 0 (fun k s' hk => ?_)
      unfold wS
      by_cases e : tI I k = p
      · rw [if_pos e, if_pos ((mem4 ha hA hp hk).mpr e)]
      · rw [if_neg e, if_neg (fun c => e ((mem4 ha hA hp hk).mp c)), Int64.add_zero]
    have e2 : itr (fun i s' => s' + cwt A I y s i) 10 0 = itr (fun i s' => onAt ((cmem A I p)[i]?) (fun x s' => s' + y (wo + x)) s') 10 0 := by
      refine itr_fun 10 0 (fun i s' _ => ?_)
      unfold cwt
      rw [hs]
      cases (cmem A I p)[i]? with
      | none => exact Int64.add_zero s'
      | some x => show s' + y (sw1 s x) = s' + y (wo + x); rw [hwo]
    rw [e1, e2, ← h1, h2]
  have wlim : sn (wpl A I p w) 10 ≤ 2000000000000 := by
    have := sn_le (f := wpl A I p w) (g := fun _ => 200000000000) 10 (fun j _ => wle j)
    have e : sn (fun _ => 200000000000) 10 = 2000000000000 := by decide
    omega
  have zr : ∀ i, i < 10 → zrF sh0 i = 0 := by
    intro i hi
    have : ∀ n, (∀ i, i < n → itr (fun i s' => vp_updL s' i 0) n sh0 i = 0) := by
      intro n
      induction n with
      | zero => intro i hi; omega
      | succ n ih =>
        intro i hi
        show vp_updL (itr (fun i s' => vp_updL s' i 0) n sh0) n 0 i = 0
        by_cases e : i = n
        · rw [e]; exact pk_uLs
        · rw [pk_uLn e]; exact ih i (by omega)
    exact this 10 i hi
  have e0 : splF I A p (lN a) wo sgI (y, l) = (if wF I A y p wo = 0 then (y, l) else cenF A sgI (itr (shS I p (lN a) wo sgI (wF I A y p wo)) A (y, l, lN a)).2.2.toNatClampNeg ((itr (shS I p (lN a) wo sgI (wF I A y p wo)) A (y, l, lN a)).1, (itr (shS I p (lN a) wo sgI (wF I A y p wo)) A (y, l, lN a)).2.1)) := rfl
  rw [e0, wsum]
  by_cases h0 : sn (wpl A I p w) 10 = 0
  · have a0 : a = 0 := hz (fun x hx ht => by
      obtain ⟨i, hi, hl⟩ := cmem_place hx ht
      have := sn_at (f := wpl A I p w) (i := i) (n := 10) (by omega)
      rw [wpl_s hi] at this
      omega)
    rw [h0, lN_0, if_pos rfl, a0, lN_0, Int64.mul_zero]
    intro q
    have z : (if q = p then (0 : Int64) else 0) = 0 := by split <;> rfl
    rw [z, Int64.add_zero, Int64.add_zero]
    exact ⟨rfl, rfl⟩
  · have hpos : 0 < sn (wpl A I p w) 10 := by omega
    obtain ⟨par1, par2⟩ := parts_le (w := wpl A I p w) (a := a) hpos
    generalize hS : sn (wpl A I p w) 10 = S at h0 hpos par1 par2 wlim ⊢
    have cpos : (0 : Int64) < lN S := by rw [← lN_0]; exact (pk_lLT (by omega) (by omega)).mpr hpos
    have cne : ¬ lN S = 0 := fun e => by rw [e] at cpos; exact absurd cpos (by decide)
    rw [if_neg cne]
    have prod : ∀ v, v ≤ 200000000000 → a * v < 2 ^ 63 := by
      intro v hv
      have : a * v ≤ 40000000 * 200000000000 := Nat.mul_le_mul hal hv
      omega
    have dv : ∀ v, v ≤ 200000000000 → lN a * lN v / lN S = lN (a * v / S) := fun v hv => by
      rw [lN_mul, pk_lDiv (prod v hv) hpos (by omega)]
    have md : ∀ v, v ≤ 200000000000 → lN a * lN v - lN a * lN v / lN S * lN S = lN (a * v % S) := fun v hv => by
      rw [lN_mul, pk_lRem (prod v hv) hpos (by omega)]
    -- the class's shares
    have cl : ∀ n, n ≤ 10 → (∀ i, i < n → (itr (spS (cwt A I y s) (lN a) (lN S)) n (zrF sh0, rm0, lN a)).1 i = lN (a * wpl A I p w i / S) ∧ (itr (spS (cwt A I y s) (lN a) (lN S)) n (zrF sh0, rm0, lN a)).2.1 i = lN (a * wpl A I p w i % S)) ∧ (itr (spS (cwt A I y s) (lN a) (lN S)) n (zrF sh0, rm0, lN a)).2.2 = lN (a - sn (fun i => a * wpl A I p w i / S) n) := by
      intro n
      induction n with
      | zero => intro _; exact ⟨fun i hi => by omega, rfl⟩
      | succ n ih =>
        intro hn
        obtain ⟨i1, i2⟩ := ih (by omega)
        show (∀ i, i < n + 1 → (spS (cwt A I y s) (lN a) (lN S) n (itr (spS (cwt A I y s) (lN a) (lN S)) n (zrF sh0, rm0, lN a))).1 i = _ ∧ (spS (cwt A I y s) (lN a) (lN S) n (itr (spS (cwt A I y s) (lN a) (lN S)) n (zrF sh0, rm0, lN a))).2.1 i = _) ∧ (spS (cwt A I y s) (lN a) (lN S) n (itr (spS (cwt A I y s) (lN a) (lN S)) n (zrF sh0, rm0, lN a))).2.2 = _
        generalize itr (spS (cwt A I y s) (lN a) (lN S)) n (zrF sh0, rm0, lN a) = t at i1 i2 ⊢
        unfold spS
        rw [cw n, md _ (wle n), dv _ (wle n)]
        refine ⟨fun i hi => ?_, ?_⟩
        · show vp_updL t.1 n _ i = _ ∧ vp_updL t.2.1 n _ i = _
          by_cases e : i = n
          · rw [e, pk_uLs, pk_uLs]; exact ⟨rfl, rfl⟩
          · rw [pk_uLn e, pk_uLn e]; exact i1 i (by omega)
        · show t.2.2 - lN (a * wpl A I p w n / S) = lN (a - (sn (fun i => a * wpl A I p w i / S) n + a * wpl A I p w n / S))
          have m1 := sn_mono (f := fun i => a * wpl A I p w i / S) (show n + 1 ≤ 10 by omega)
          have m2 : sn (fun i => a * wpl A I p w i / S) (n + 1) = sn (fun i => a * wpl A I p w i / S) n + a * wpl A I p w n / S := rfl
          rw [i2, lN_sub (by omega)]
          congr 1
          omega
    obtain ⟨c1, c2⟩ := cl 10 (Nat.le_refl _)
    -- the reference's
    have rf : ∀ n, n ≤ A → (∀ x, x < n → tI I x = p → (itr (shS I p (lN a) wo sgI (lN S)) n (y, l, lN a)).1 x = y x + sgI.toInt64 * lN (a * w x / S) ∧ (itr (shS I p (lN a) wo sgI (lN S)) n (y, l, lN a)).1 (50 + x) = y (50 + x) + sgI.toInt64 * lN (a * w x / S) ∧ (itr (shS I p (lN a) wo sgI (lN S)) n (y, l, lN a)).2.1 x = lN (a * w x % S)) ∧
        (∀ x, x < n → tI I x ≠ p → (itr (shS I p (lN a) wo sgI (lN S)) n (y, l, lN a)).2.1 x = -1) ∧ (∀ m, (∀ x, x < n → tI I x = p → m ≠ x ∧ m ≠ 50 + x) → (itr (shS I p (lN a) wo sgI (lN S)) n (y, l, lN a)).1 m = y m) ∧
        (itr (shS I p (lN a) wo sgI (lN S)) n (y, l, lN a)).2.2 = itr (fun k s' => if tI I k = p then s' - lN a * y (wo + k) / lN S else s') n (lN a) := by
      intro n
      induction n with
      | zero => intro _; exact ⟨fun x hx => by omega, fun x hx => by omega, fun m _ => rfl, rfl⟩
      | succ n ih =>
        intro hn
        obtain ⟨i1, i2, i3, i4⟩ := ih (by omega)
        show (∀ x, x < n + 1 → tI I x = p → (shS I p (lN a) wo sgI (lN S) n (itr (shS I p (lN a) wo sgI (lN S)) n (y, l, lN a))).1 x = _ ∧ (shS I p (lN a) wo sgI (lN S) n (itr (shS I p (lN a) wo sgI (lN S)) n (y, l, lN a))).1 (50 + x) = _ ∧ (shS I p (lN a) wo sgI (lN S) n (itr (shS I p (lN a) wo sgI (lN S)) n (y, l, lN a))).2.1 x = _) ∧
          (∀ x, x < n + 1 → tI I x ≠ p → (shS I p (lN a) wo sgI (lN S) n (itr (shS I p (lN a) wo sgI (lN S)) n (y, l, lN a))).2.1 x = -1) ∧ (∀ m, (∀ x, x < n + 1 → tI I x = p → m ≠ x ∧ m ≠ 50 + x) → (shS I p (lN a) wo sgI (lN S) n (itr (shS I p (lN a) wo sgI (lN S)) n (y, l, lN a))).1 m = y m) ∧
          (shS I p (lN a) wo sgI (lN S) n (itr (shS I p (lN a) wo sgI (lN S)) n (y, l, lN a))).2.2 = (if tI I n = p then itr (fun k s' => if tI I k = p then s' - lN a * y (wo + k) / lN S else s') n (lN a) - lN a * y (wo + n) / lN S else itr (fun k s' => if tI I k = p then s' - lN a * y (wo + k) / lN S else s') n (lN a))
        generalize itr (shS I p (lN a) wo sgI (lN S)) n (y, l, lN a) = t at i1 i2 i3 i4 ⊢
        rw [← i4]
        have nA : n < A := by omega
        unfold shS
        by_cases e : tI I n = p
        · obtain ⟨wn1, wn2⟩ := hw n nA e
          have rd : t.1 (wo + n) = lN (w n) := by
            rw [i3 (wo + n) (fun x hx _ => by omega)]
            exact wn1
          rw [if_pos ((mem4 ha hA hp nA).mpr e), rd, md _ wn2, dv _ wn2, wn1, if_pos e, dv _ wn2]
          refine ⟨fun x hx ht => ?_, fun x hx ht => ?_, fun m hm => ?_, rfl⟩
          · show getsF n (sgI.toInt64 * lN (a * w n / S)) t.1 x = _ ∧ getsF n (sgI.toInt64 * lN (a * w n / S)) t.1 (50 + x) = _ ∧ vp_updL t.2.1 n _ x = _
            unfold getsF
            by_cases e2 : x = n
            · subst e2
              rw [pk_uLn (show x ≠ 50 + x by omega), pk_uLs, pk_uLs, pk_uLs, i3 x (fun x' hx' _ => by omega), i3 (50 + x) (fun x' hx' _ => by omega)]
              exact ⟨rfl, rfl, rfl⟩
            · rw [pk_uLn (show x ≠ 50 + n by omega), pk_uLn e2, pk_uLn (show 50 + x ≠ 50 + n by omega), pk_uLn (show 50 + x ≠ n by omega), pk_uLn e2]
              exact i1 x (by omega) ht
          · have e2 : x ≠ n := fun v => ht (by rw [v]; exact e)
            show vp_updL t.2.1 n _ x = -1
            rw [pk_uLn e2]
            exact i2 x (by omega) ht
          · obtain ⟨m1, m2⟩ := hm n (by omega) e
            show getsF n _ t.1 m = y m
            unfold getsF
            rw [pk_uLn m2, pk_uLn m1]
            exact i3 m (fun x hx ht => hm x (by omega) ht)
        · rw [if_neg (fun c => e ((mem4 ha hA hp nA).mp c)), if_neg e]
          refine ⟨fun x hx ht => ?_, fun x hx ht => ?_, fun m hm => i3 m (fun x hx ht => hm x (by omega) ht), rfl⟩
          · have e2 : x ≠ n := fun v => e (by rw [← v]; exact ht)
            show t.1 x = _ ∧ t.1 (50 + x) = _ ∧ vp_updL t.2.1 n (-1) x = _
            rw [pk_uLn e2]
            exact i1 x (by omega) ht
          · show vp_updL t.2.1 n (-1) x = -1
            by_cases e2 : x = n
            · rw [e2]; exact pk_uLs
            · rw [pk_uLn e2]; exact i2 x (by omega) ht
    obtain ⟨r1, r2, r3, r4⟩ := rf A (Nat.le_refl _)
    -- both leave the same number of cents
    have cents : (itr (shS I p (lN a) wo sgI (lN S)) A (y, l, lN a)).2.2 = lN (a - sn (fun i => a * wpl A I p w i / S) 10) := by
      rw [r4, ← c2]
      obtain ⟨h1, h2⟩ := fold_members (I := I) hA (p := p) (fun x s' => s' - lN a * y (wo + x) / lN S) (lN a)
      rw [← h1, h2]
      have : ∀ n, (itr (spS (cwt A I y s) (lN a) (lN S)) n (zrF sh0, rm0, lN a)).2.2 = itr (fun i s' => onAt ((cmem A I p)[i]?) (fun x s' => s' - lN a * y (wo + x) / lN S) s') n (lN a) := by
        intro n
        induction n with
        | zero => rfl
        | succ n ih =>
          show (itr (spS (cwt A I y s) (lN a) (lN S)) n (zrF sh0, rm0, lN a)).2.2 - lN a * cwt A I y s n / lN S = onAt ((cmem A I p)[n]?) (fun x s' => s' - lN a * y (wo + x) / lN S) (itr (fun i s' => onAt ((cmem A I p)[i]?) (fun x s' => s' - lN a * y (wo + x) / lN S) s') n (lN a))
          rw [ih]
          cases hx : (cmem A I p)[n]? with
          | none =>
            have ec : cwt A I y s n = 0 := by unfold cwt; rw [hs, hx]
            rw [ec]
            show _ - lN a * 0 / lN S = _
            have e0 : lN a * 0 / lN S = 0 := by
              rw [← lN_0, lN_mul, pk_lDiv (by omega) hpos (by omega), Nat.mul_zero, Nat.zero_div]
            rw [e0, Int64.sub_zero]
            rfl
          | some x =>
            have ec : cwt A I y s n = y (wo + x) := by
              unfold cwt
              rw [hs, hx]
              show y (sw1 s x) = y (wo + x)
              rw [hwo]
            rw [ec]
            rfl
      exact (this 10).symm
    have hc10 : sn (fun i => if 0 < a * wpl A I p w i % S then 1 else 0) 10 ≤ 10 := by
      have := sn_le (f := fun i => if 0 < a * wpl A I p w i % S then 1 else 0) (g := fun _ => 1) 10 (fun j _ => by
        show (if 0 < a * wpl A I p w j % S then 1 else 0) ≤ 1
        split <;> omega)
      have e : sn (fun _ => 1) 10 = 10 := by decide
      omega
    have shh := sh_ps (y := y) (l := l) ha hA hp (wo := wo) (sgI := sgI) (amt := lN a) (all := lN S) A (Nat.le_refl _)
    rw [cents] at shh ⊢
    generalize hN : a - sn (fun i => a * wpl A I p w i / S) 10 = N at par2 c2 shh ⊢
    have n1 : (lN N).toNatClampNeg = N := by
      show (lN N).toInt.toNat = N
      rw [lN_toInt (by omega)]
      exact Int.toNat_natCast N
    have n2 : gcN (itr (spS (cwt A I y s) (lN a) (lN S)) 10 (zrF sh0, rm0, lN a)).2.2 = N := by
      unfold gcN
      rw [c2, lN_toInt (by omega), Int.toNat_natCast]
      omega
    rw [n1]
    generalize itr (spS (cwt A I y s) (lN a) (lN S)) 10 (zrF sh0, rm0, lN a) = ct at c1 c2
    generalize itr (shS I p (lN a) wo sgI (lN S)) A (y, l, lN a) = rt at r1 r2 r3 r4 shh ⊢
    have rel : spR A I p sgI.toInt64 y (ct.1, ct.2.1) (rt.1, rt.2.1) := by
      refine ⟨fun i x hx => ?_, r2, fun i hi hx => ?_, r3⟩
      · obtain ⟨h1, h2⟩ := cmem_lt hx
        have hi : i < 10 := Nat.lt_of_lt_of_le (List.getElem?_eq_some_iff.mp hx).1 len
        obtain ⟨q1, q2, q3⟩ := r1 x h1 h2
        obtain ⟨q4, q5⟩ := c1 i hi
        rw [wpl_s hx] at q4 q5
        show rt.2.1 x = ct.2.1 i ∧ rt.1 x = y x + _ * ct.1 i ∧ rt.1 (50 + x) = y (50 + x) + _ * ct.1 i
        rw [q4, q5]
        exact ⟨q3, q1, q2⟩
      · show ct.2.1 i ≤ 0
        rw [(c1 i hi).2, wpl_n hx, Nat.mul_zero, Nat.zero_mod, lN_0]
        exact Int64.le_refl _
    have pos : N ≤ psF ct.2.1 := by
      have e : psF ct.2.1 = sn (fun i => if 0 < a * wpl A I p w i % S then 1 else 0) 10 := by
        unfold psF
        refine sn_congr 10 (fun i hi => ?_)
        show (if 0 < ct.2.1 i then 1 else 0) = _
        rw [(c1 i hi).2]
        have lm : a * wpl A I p w i % S < S := Nat.mod_lt _ hpos
        by_cases g : 0 < a * wpl A I p w i % S
        · rw [if_pos g, if_pos]
          rw [← lN_0]
          exact (pk_lLT (by omega) (by omega)).mpr g
        · rw [if_neg g, if_neg]
          intro c
          rw [← lN_0] at c
          exact g ((pk_lLT (by omega) (by omega)).mp c)
      omega
    intro q
    obtain ⟨s1, s2⟩ := shh q
    obtain ⟨u1, u2⟩ := cen_ps (y := y) hA (p := p) (sgI := sgI) N (ct.1, ct.2.1) (rt.1, rt.2.1) (fun i => a * wpl A I p w i / S) rel pos (fun i hi => (c1 i hi).1) q
    rw [u1, u2]
    exact ⟨s1, s2⟩
end SW2
