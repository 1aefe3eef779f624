/-! ===== booking interest: the class's way and the reference's ===== -/
theorem lN_of {v : Int64} (h : 0 ≤ v.toInt) : v = lN v.toInt.toNat := by
  have h2 := Int64.toInt_lt v
  refine Int64.toInt_inj.mp ?_
  rw [pk_lT (by omega)]
  omega
theorem lN_nat {n : Nat} (h : n < 2 ^ 63) : (lN n).toInt = (n : Int) := pk_lT h
section BO
variable {A L F : Nat} {I : Nat → Nat → Int32} {y l : Nat → Int64} {X : Int}
theorem getsF_o {x m : Nat} {v : Int64} (h1 : m ≠ x) (h2 : m ≠ 50 + x) : getsF x v y m = y m := by
  unfold getsF
  rw [pk_uLn h2, pk_uLn h1]
theorem bkT_at (hA : A ≤ 10) {s : Nat} {sh : Nat → Int64} : ∀ n, n ≤ 10 →
    (∀ i x, i < n → (cmem A I (s / 2))[i]? = some x → itr (bkT A I s sh) n y x = y x + (sgS s).toInt64 * sh i ∧ itr (bkT A I s sh) n y (50 + x) = y (50 + x) + (sgS s).toInt64 * sh i ∧ itr (bkT A I s sh) n y (sw1 s x) = 0) ∧
    (∀ m, (∀ i x, i < n → (cmem A I (s / 2))[i]? = some x → m ≠ x ∧ m ≠ 50 + x ∧ m ≠ sw1 s x) → itr (bkT A I s sh) n y m = y m) := by
  intro n
  induction n with
  | zero => intro _; exact ⟨fun i x hi => by omega, fun m _ => rfl⟩
  | succ n ih =>
    intro hn
    obtain ⟨i1, i2⟩ := ih (by omega)
    show (∀ i x, i < n + 1 → _ → bkT A I s sh n (itr (bkT A I s sh) n y) x = _ ∧ bkT A I s sh n (itr (bkT A I s sh) n y) (50 + x) = _ ∧ bkT A I s sh n (itr (bkT A I s sh) n y) (sw1 s x) = 0) ∧ (∀ m, _ → bkT A I s sh n (itr (bkT A I s sh) n y) m = y m)
    generalize itr (bkT A I s sh) n y = t at i1 i2 ⊢
    unfold bkT
    cases hx : (cmem A I (s / 2))[n]? with
    | none =>
      refine ⟨fun i x hi hix => ?_, fun m hm => i2 m (fun i x hi => hm i x (by omega))⟩
      have : i ≠ n := fun e => by rw [e, hx] at hix; cases hix
      exact i1 i x (by omega) hix
    | some z =>
      have hz := (cmem_lt hx).1
      have rz := sw1_rng (s := s) (x := z) (by omega)
      refine ⟨fun i x hi hix => ?_, fun m hm => ?_⟩
      · have hxA := (cmem_lt hix).1
        have rx := sw1_rng (s := s) (x := x) (by omega)
        show vp_updL (getsF z _ t) (sw1 s z) 0 x = _ ∧ vp_updL (getsF z _ t) (sw1 s z) 0 (50 + x) = _ ∧ vp_updL (getsF z _ t) (sw1 s z) 0 (sw1 s x) = 0
        by_cases e : i = n
        · subst e
          have : x = z := Option.some.inj (hix.symm.trans hx)
          subst this
          have t1 : t x = y x := i2 x (fun j x' hj hx' => by
            have hne : x ≠ x' := fun v => by have := cmem_inj hx (by rw [v]; exact hx'); omega
            have r' := sw1_rng (s := s) (x := x') (by have := (cmem_lt hx').1; omega)
            exact ⟨hne, by omega, by omega⟩)
          have t2 : t (50 + x) = y (50 + x) := i2 (50 + x) (fun j x' hj hx' => by
            have hne : x ≠ x' := fun v => by have := cmem_inj hx (by rw [v]; exact hx'); omega
            have hx'A := (cmem_lt hx').1
            have r' := sw1_rng (s := s) (x := x') (by omega)
            exact ⟨by omega, by omega, by omega⟩)
          rw [pk_uLn (show x ≠ sw1 s x by omega), pk_uLn (show 50 + x ≠ sw1 s x by omega), pk_uLs]
          unfold getsF
          rw [pk_uLn (show x ≠ 50 + x by omega), pk_uLs, pk_uLs, t1, t2]
          exact ⟨rfl, rfl, rfl⟩
        · have hne : x ≠ z := fun v => e (cmem_inj hix (by rw [v]; exact hx))
          obtain ⟨q1, q2, q3⟩ := i1 i x (by omega) hix
          rw [pk_uLn (show x ≠ sw1 s z by omega), pk_uLn (show 50 + x ≠ sw1 s z by omega), pk_uLn (fun v => hne (sw1_inj v)), getsF_o hne (by omega), getsF_o (by omega) (by omega), getsF_o (by omega) (by omega)]
          exact ⟨q1, q2, q3⟩
      · obtain ⟨u1, u2, u3⟩ := hm n z (by omega) hx
        show vp_updL (getsF z _ t) (sw1 s z) 0 m = y m
        rw [pk_uLn u3, getsF_o u1 u2]
        exact i2 m (fun i x hi => hm i x (by omega))
/-- what is asked of sums and weights when interest is booked -/
def wgOk (A : Nat) (y : Nat → Int64) : Prop := ∀ x, x < A → (0 ≤ (y (30 + x)).toInt ∧ (y (30 + x)).toInt ≤ 200000000000) ∧ (0 ≤ (y (40 + x)).toInt ∧ (y (40 + x)).toInt ≤ 200000000000)
def smOk (A : Nat) (y : Nat → Int64) : Prop := ∀ p, p < A → (0 ≤ (y (10 + p)).toInt ∧ (y (10 + p)).toInt ≤ 144000000000000) ∧ (0 ≤ (y (20 + p)).toInt ∧ (y (20 + p)).toInt ≤ 144000000000000)
theorem year_int : (3600000 : Int64) = lN 3600000 := by decide
theorem div_year {v : Int64} (h0 : 0 ≤ v.toInt) : v / 3600000 = lN (v.toInt.toNat / 3600000) := by
  have h2 := Int64.toInt_lt v
  rw [year_int]
  conv => lhs; rw [lN_of h0]
  rw [pk_lDiv (by omega) (by omega) (by omega)]
theorem rem_year {v : Int64} (h0 : 0 ≤ v.toInt) : v - v / 3600000 * 3600000 = lN (v.toInt.toNat % 3600000) := by
  have h2 := Int64.toInt_lt v
  rw [year_int]
  conv => lhs; rw [lN_of h0]
  rw [pk_lRem (by omega) (by omega) (by omega)]
/-- one side of a pool, in the class and in the reference -/
theorem side_eq (ha : acOk A I) (hA : A ≤ 10) {p s wo : Nat} (hp : p < A) (hs : s / 2 = p) (hwo : ∀ x, sw1 s x = wo + x) (hw1 : 30 ≤ wo) (hw2 : wo ≤ 40) {yc : Nat → Int64} {K : Nat → Nat → Int64}
    (e1 : ∀ m, m < 10 ∨ (50 ≤ m ∧ m < 60) → yc m = y m) (e2 : ∀ x, x < A → tI I x = p → yc (sw1 s x) = y (wo + x)) (hw : ∀ x, x < A → tI I x = p → 0 ≤ (y (wo + x)).toInt ∧ (y (wo + x)).toInt ≤ 200000000000) {S : Int64} (e3 : yc (sz1 s) = S) (h0 : 0 ≤ S.toInt) (h1 : S.toInt ≤ 144000000000000) :
    (∀ m, m < 10 ∨ (50 ≤ m ∧ m < 60) → (bkSide A I s (yc, K)).1 m = (splF I A p (S / 3600000) wo (sgS s) (y, l)).1 m) ∧
    (bkSide A I s (yc, K)).1 (sz1 s) = S - S / 3600000 * 3600000 ∧ (∀ x, x < A → tI I x = p → (bkSide A I s (yc, K)).1 (sw1 s x) = 0) ∧
    (∀ m, 10 ≤ m → m < 50 ∨ 60 ≤ m → m ≠ sz1 s → (∀ x, x < A → tI I x = p → m ≠ sw1 s x) → (bkSide A I s (yc, K)).1 m = yc m) ∧
    (∀ m, 10 ≤ m → m < 50 ∨ 60 ≤ m → (splF I A p (S / 3600000) wo (sgS s) (y, l)).1 m = y m) ∧
    (bkSide A I s (yc, K)).2 4 s = K 4 s + S / 3600000 ∧ (∀ a b, ¬ (a = 4 ∧ b = s) → a < 100 ∨ 300 ≤ a → (bkSide A I s (yc, K)).2 a b = K a b) ∧
    ∃ g : Nat → Nat, sn g 10 ≤ S.toInt.toNat / 3600000 ∧ ∀ x, x < A → (tI I x ≠ p → (splF I A p (S / 3600000) wo (sgS s) (y, l)).1 x = y x) ∧ ∀ i, (cmem A I p)[i]? = some x → (splF I A p (S / 3600000) wo (sgS s) (y, l)).1 x = y x + (sgS s).toInt64 * lN (g i) := by
  have sp2 : s / 2 < 10 := by omega
  have rz := sz1_rng sp2
  have len := cmem_len (I := I) hA (p := p)
  have dv := div_year h0
  have al : S.toInt.toNat / 3600000 ≤ 40000000 := by omega
  have w' : ∀ x, x < A → tI I x = p → y (wo + x) = lN (y (wo + x)).toInt.toNat ∧ (y (wo + x)).toInt.toNat ≤ 200000000000 := fun x hx ht => by
    obtain ⟨a, b⟩ := hw x hx ht
    exact ⟨lN_of a, by omega⟩
  have cwe : cwt A I (bkY s yc) s = cwt A I y s := by
    funext i
    unfold cwt
    rw [hs]
    cases hx : (cmem A I p)[i]? with
    | none => rfl
    | some x =>
      obtain ⟨a, b⟩ := cmem_lt hx
      have rx := sw1_rng (s := s) (x := x) (by omega)
      show bkY s yc (sw1 s x) = y (sw1 s x)
      unfold bkY
      rw [pk_uLn (by omega), e2 x a b, hwo]
  obtain ⟨q1, q2, g, q3, q4⟩ := spl_eq (y := y) (l := l) ha hA hp hs hwo hw1 hw2 w' al (sgI := sgS s) (bkK s yc K (100 + s)) (bkK s yc K (200 + s))
  have rr : bkR A I s (yc, K) = splC (cwt A I y s) (lN (S.toInt.toNat / 3600000)) (bkK s yc K (100 + s)) (bkK s yc K (200 + s)) := by
    unfold bkR
    show splC (cwt A I (bkY s yc) s) (yc (sz1 s) / 3600000) _ _ = _
    rw [cwe, e3, dv]
  rw [dv]
  obtain ⟨b1, b2⟩ := bkT_at (I := I) (y := bkY s yc) hA (s := s) (sh := (bkR A I s (yc, K)).1) 10 (Nat.le_refl _)
  rw [hs] at b1 b2
  have by1 : ∀ m, m ≠ sz1 s → bkY s yc m = yc m := fun m hm => pk_uLn hm
  have fst : (bkSide A I s (yc, K)).1 = itr (bkT A I s (bkR A I s (yc, K)).1) 10 (bkY s yc) := rfl
  have snd : (bkSide A I s (yc, K)).2 = sK (bkK s yc K) s (bkR A I s (yc, K)).1 (bkR A I s (yc, K)).2 := rfl
  rw [fst, snd]
  have place : ∀ x, x < A → tI I x = p → ∃ i, (cmem A I p)[i]? = some x ∧ i < 10 := fun x hx ht => by
    obtain ⟨i, hi, hl⟩ := cmem_place hx ht
    exact ⟨i, hi, by omega⟩
  refine ⟨fun m hm => ?_, ?_, fun x hx ht => ?_, fun m hm1 hm2 hm3 hm4 => ?_, fun m hm1 hm2 => ?_, ?_, fun a b hab hr => ?_, g, q4, fun x hx => ⟨fun ht => ?_, fun i hi => ?_⟩⟩
  · have own : ∀ x, x < A → tI I x = p → itr (bkT A I s (bkR A I s (yc, K)).1) 10 (bkY s yc) x = (splF I A p (lN (S.toInt.toNat / 3600000)) wo (sgS s) (y, l)).1 x ∧ itr (bkT A I s (bkR A I s (yc, K)).1) 10 (bkY s yc) (50 + x) = (splF I A p (lN (S.toInt.toNat / 3600000)) wo (sgS s) (y, l)).1 (50 + x) := by
      intro x hx ht
      obtain ⟨i, hi, hi10⟩ := place x hx ht
      obtain ⟨c1, c2, -⟩ := b1 i x hi10 hi
      obtain ⟨d1, d2⟩ := q1 i x hi
      rw [c1, c2, d1, d2, rr, by1 x (by omega), by1 (50 + x) (by omega), e1 x (Or.inl (by omega)), e1 (50 + x) (Or.inr (by omega))]
      exact ⟨rfl, rfl⟩
    by_cases c : ∃ x, x < A ∧ tI I x = p ∧ (m = x ∨ m = 50 + x)
    · obtain ⟨x, hx, ht, e⟩ := c
      rcases e with e | e
      · rw [e]; exact (own x hx ht).1
      · rw [e]; exact (own x hx ht).2
    · rw [q2 m (fun x hx ht => ⟨fun e => c ⟨x, hx, ht, Or.inl e⟩, fun e => c ⟨x, hx, ht, Or.inr e⟩⟩), b2 m (fun i x hi hx => by
        obtain ⟨a, b⟩ := cmem_lt hx
        have rx := sw1_rng (s := s) (x := x) (by omega)
        exact ⟨fun e => c ⟨x, a, b, Or.inl e⟩, fun e => c ⟨x, a, b, Or.inr e⟩, by omega⟩), by1 m (by omega), e1 m hm]
  · rw [b2 (sz1 s) (fun i x hi hx => by
      obtain ⟨a, b⟩ := cmem_lt hx
      have rx := sw1_rng (s := s) (x := x) (by omega)
      exact ⟨by omega, by omega, by omega⟩)]
    unfold bkY
    rw [pk_uLs, e3, dv]
  · obtain ⟨i, hi, hi10⟩ := place x hx ht
    exact (b1 i x hi10 hi).2.2
  · rw [b2 m (fun i x hi hx => by
      obtain ⟨a, b⟩ := cmem_lt hx
      exact ⟨by omega, by omega, hm4 x a b⟩), by1 m hm3]
  · exact q2 m (fun x hx ht => ⟨by omega, by omega⟩)
  · rw [sK_o (by omega) (by omega)]
    unfold bkK
    rw [upK_at, e3, dv]
  · rw [sK_o (by omega) (by omega)]
    unfold bkK
    exact upK_ne hab
  · exact q2 x (fun x' hx' ht' => ⟨fun e => ht (by rw [e]; exact ht'), by omega⟩)
  · have hi10 : i < 10 := Nat.lt_of_lt_of_le (List.getElem?_eq_some_iff.mp hi).1 len
    rw [(q1 i x hi).1, q3 i hi10]
/-- how shares change what balances are together -/
theorem share_bd (hA : A ≤ 10) {p : Nat} {q : Nat → Int64} {sgI : Int32} (hsg : sgI = 1 ∨ sgI = -1) {g : Nat → Nat} {a : Nat} (hg : sn g 10 ≤ a) (ha : a ≤ 40000000) (hX0 : 0 ≤ X) (hX : X ≤ 1000000000000) (hb : bdX A X y)
    (h : ∀ x, x < A → (tI I x ≠ p → q x = y x) ∧ ∀ i, (cmem A I p)[i]? = some x → q x = y x + sgI.toInt64 * lN (g i)) :
    (sgI = 1 → bS A q ≤ bS A y + a ∧ bN A q ≤ bN A y) ∧ (sgI = -1 → bS A q ≤ bS A y ∧ bN A q ≤ bN A y + a) := by
  have len := cmem_len (I := I) hA (p := p)
  have gle : ∀ i, i < 10 → g i ≤ 40000000 := fun i hi => by
    have := sn_at (f := g) hi
    omega
  have snI : ∀ n, sm (fun i => (g i : Int)) n = (sn g n : Int) := by
    intro n
    induction n with
    | zero => rfl
    | succ n ih =>
      show sm (fun i => (g i : Int)) n + (g n : Int) = ((sn g n + g n : Nat) : Int)
      rw [ih]
      omega
  -- what a member gets
  have val : ∀ x i, (cmem A I p)[i]? = some x → (sgI = 1 → (q x).toInt = (y x).toInt + g i) ∧ (sgI = -1 → (q x).toInt = (y x).toInt - g i) := by
    intro x i hi
    have hx := (cmem_lt hi).1
    have hi10 : i < 10 := Nat.lt_of_lt_of_le (List.getElem?_eq_some_iff.mp hi).1 len
    have l1 := bdX_lo hb hx
    have l2 := bdX_hi hb hA hx
    have l3 := gle i hi10
    have e := (h x hx).2 i hi
    have n1 : (lN (g i)).toInt = (g i : Int) := lN_nat (by omega)
    constructor
    · intro c
      rw [e, c, sg64_1, Int64.one_mul, i64_add (by omega) (by omega), n1]
    · intro c
      rw [e, c, sg64_n, neg1_mul, ← Int64.sub_eq_add_neg, i64_sub (by omega) (by omega), n1]
  -- sums by places
  have tot : ∀ (G : Nat → Int), (∀ (x i : Nat), (cmem A I p)[i]? = some x → G x ≤ g i) → sm (fun x => if tI I x = p then G x else 0) A ≤ a := by
    intro G hG
    rw [sm_places hA]
    have := sm_le (f := fun i => opt0 ((cmem A I p)[i]?) G) (g := fun i => (g i : Int)) 10 (fun i hi => by
      show opt0 ((cmem A I p)[i]?) G ≤ (g i : Int)
      cases hx : (cmem A I p)[i]? with
      | none => show (0 : Int) ≤ _; omega
      | some x => exact hG x i hx)
    rw [snI] at this
    omega
  have dif : ∀ (f1 f2 : Nat → Int) (c : Int), (∀ x, x < A → tI I x ≠ p → f1 x ≤ f2 x) → sm (fun x => if tI I x = p then f1 x - f2 x else 0) A ≤ c → sm f1 A ≤ sm f2 A + c := by
    intro f1 f2 c h1 h2
    have := sm_le (f := f1) (g := fun x => f2 x + (if tI I x = p then f1 x - f2 x else 0)) A (fun x hx => by
      show f1 x ≤ f2 x + (if tI I x = p then f1 x - f2 x else 0)
      by_cases e : tI I x = p
      · rw [if_pos e]; omega
      · rw [if_neg e]; have := h1 x hx e; omega)
    rw [sm_add] at this
    omega
  have neg0 : ∀ (G : Nat → Int), (∀ (x i : Nat), (cmem A I p)[i]? = some x → G x ≤ 0) → sm (fun x => if tI I x = p then G x else 0) A ≤ 0 := by
    intro G hG
    have := sm_le (f := fun x => if tI I x = p then G x else 0) (g := fun _ => 0) A (fun x hx => by
      show (if tI I x = p then G x else 0) ≤ 0
      by_cases e : tI I x = p
      · obtain ⟨i, hi, -⟩ := cmem_place hx e
        rw [if_pos e]
        exact hG x i hi
      · rw [if_neg e]; exact Int.le_refl _)
    rw [sm_const] at this
    omega
  constructor
  · intro c
    constructor
    · exact dif _ _ _ (fun x hx ht => by show (q x).toInt ≤ (y x).toInt; rw [(h x hx).1 ht]; exact Int.le_refl _) (tot _ (fun x i hi => by have := (val x i hi).1 c; omega))
    · have := dif (fun x => ng (q x).toInt) (fun x => ng (y x).toInt) 0 (fun x hx ht => by show ng (q x).toInt ≤ ng (y x).toInt; rw [(h x hx).1 ht]; exact Int.le_refl _) (neg0 _ (fun x i hi => by
        have := (val x i hi).1 c
        have m := ng_mono (v := (y x).toInt) (w := (q x).toInt) (by omega)
        omega))
      unfold bN
      omega
  · intro c
    constructor
    · have := dif (fun x => (q x).toInt) (fun x => (y x).toInt) 0 (fun x hx ht => by show (q x).toInt ≤ (y x).toInt; rw [(h x hx).1 ht]; exact Int.le_refl _) (neg0 _ (fun x i hi => by
        have := (val x i hi).2 c
        omega))
      unfold bS
      omega
    · exact dif _ _ _ (fun x hx ht => by show ng (q x).toInt ≤ ng (y x).toInt; rw [(h x hx).1 ht]; exact Int.le_refl _) (tot _ (fun x i hi => by
        have := (val x i hi).2 c
        have m := ng_sub (v := (y x).toInt) (w := g i) (by omega)
        rw [this]
        omega))
end BO
