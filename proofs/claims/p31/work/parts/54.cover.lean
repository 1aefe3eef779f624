/-! ===== covering: the class's order and the reference's ===== -/
/-- a line stands before another one -/
def lnB (I : Nat → Nat → Int32) (a b : Nat) : Prop := I 13 a < I 13 b ∨ (I 13 a = I 13 b ∧ a < b)
section CV
variable {A L F : Nat} {I : Nat → Nat → Int32} {y : Nat → Int64} {p : Nat}
theorem lnB_asymm {a b : Nat} (h : lnB I a b) : ¬ lnB I b a := by
  rintro (h2 | ⟨e2, l2⟩)
  · rcases h with h | ⟨e, l⟩
    · exact Int32.lt_irrefl (Int32.lt_trans h h2)
    · rw [e] at h2; exact Int32.lt_irrefl h2
  · rcases h with h | ⟨e, l⟩
    · rw [e2] at h; exact Int32.lt_irrefl h
    · omega
theorem lnB_le {a b : Nat} (h : lnB I a b) : I 13 a ≤ I 13 b := by
  rcases h with h | ⟨e, -⟩
  · exact Int32.le_of_lt h
  · rw [e]; exact Int32.le_refl _
theorem lt_le32 {a b c : Int32} (h : a < b) (h2 : b ≤ c) : a < c := by
  rw [Int32.lt_iff_toInt_lt] at h ⊢
  rw [Int32.le_iff_toInt_le] at h2
  omega
theorem le_lt32 {a b : Int32} (h : a ≤ b) : a < b ∨ a = b := by
  rw [Int32.le_iff_toInt_le] at h
  by_cases c : a.toInt = b.toInt
  · exact Or.inr (Int32.toInt_inj.mp c)
  · exact Or.inl (Int32.lt_iff_toInt_lt.mpr (by omega))
theorem cins_pw {x : Nat} : ∀ l : List Nat, (∀ a ∈ l, a < x) → l.Pairwise (lnB I) → (cins I x l).Pairwise (lnB I)
  | [], _, _ => List.pairwise_singleton _ _
  | a :: l, hx, hp => by
    have hp' := List.pairwise_cons.mp hp
    unfold cins
    split
    · rename_i c
      refine List.pairwise_cons.mpr ⟨fun b hb => ?_, cins_pw l (fun b hb => hx b (List.mem_cons_of_mem _ hb)) hp'.2⟩
      rcases mem_cins.mp hb with rfl | hb
      · rcases le_lt32 c with c | c
        · exact Or.inl c
        · exact Or.inr ⟨c, hx a List.mem_cons_self⟩
      · exact hp'.1 b hb
    · rename_i c
      have c := Int32.not_le.mp c
      refine List.pairwise_cons.mpr ⟨fun b hb => ?_, hp⟩
      rcases List.mem_cons.mp hb with rfl | hb
      · exact Or.inl c
      · exact Or.inl (lt_le32 c (lnB_le (hp'.1 b hb)))
theorem crk_pw : ∀ L, (crk I p L).Pairwise (lnB I)
  | 0 => List.Pairwise.nil
  | L + 1 => by
    unfold crk
    split
    · exact cins_pw _ (fun a ha => (mem_crk.mp ha).1) (crk_pw L)
    · exact crk_pw L
def cand (I : Nat → Nat → Int32) (y : Nat → Int64) (p : Nat) (dr : Bool) (k : Nat) : Prop := I 11 k = nI p ∧ (if dr then y (70 + k) < (I 12 k).toInt64 else 0 < y (70 + k))
def btr (I : Nat → Nat → Int32) (dr : Bool) (a b : Nat) : Prop := if dr then lnB I a b else lnB I b a
theorem nl_best {dr : Bool} : ∀ n, (itr (nlS I y p dr) n none = none → ∀ k, k < n → ¬ cand I y p dr k) ∧ (∀ g, itr (nlS I y p dr) n none = some g → g < n ∧ cand I y p dr g ∧ ∀ k, k < n → cand I y p dr k → k ≠ g → btr I dr g k) := by
  intro n
  induction n with
  | zero => exact ⟨fun _ k hk => by omega, fun g hg => by cases hg⟩
  | succ n ih =>
    obtain ⟨ih1, ih2⟩ := ih
    show (nlS I y p dr n (itr (nlS I y p dr) n none) = none → _) ∧ (∀ g, nlS I y p dr n (itr (nlS I y p dr) n none) = some g → _)
    generalize itr (nlS I y p dr) n none = o at ih1 ih2 ⊢
    by_cases c : cand I y p dr n ∧ (∀ g, o = some g → (if dr then I 13 n < I 13 g else I 13 g ≤ I 13 n))
    · rw [nlS_pos c]
      refine ⟨fun e => (by cases e), fun g hg => ?_⟩
      cases hg
      refine ⟨by omega, c.1, fun k hk hc hne => ?_⟩
      have hkn : k < n := by omega
      cases o with
      | none => exact absurd hc (ih1 rfl k hkn)
      | some g =>
        obtain ⟨g1, g2, g3⟩ := ih2 g rfl
        have b := c.2 g rfl
        unfold btr at g3 ⊢
        cases dr with
        | true =>
          simp only [if_true] at b g3 ⊢
          by_cases e : k = g
          · rw [e]; exact Or.inl b
          · exact Or.inl (lt_le32 b (lnB_le (g3 k hkn hc e)))
        | false =>
          simp only [Bool.false_eq_true, if_false] at b g3 ⊢
          have le : I 13 k ≤ I 13 n := by
            by_cases e : k = g
            · rw [e]; exact b
            · exact Int32.le_trans (lnB_le (g3 k hkn hc e)) b
          rcases le_lt32 le with w | w
          · exact Or.inl w
          · exact Or.inr ⟨w, hkn⟩
    · rw [nlS_neg c]
      have hn : cand I y p dr n → ∃ g, o = some g ∧ btr I dr g n := by
        intro hc
        cases o with
        | none => exact absurd ⟨hc, fun g hg => by cases hg⟩ c
        | some g =>
          refine ⟨g, rfl, ?_⟩
          have g1 := (ih2 g rfl).1
          have nb : ¬ (if dr then I 13 n < I 13 g else I 13 g ≤ I 13 n) := fun b => c ⟨hc, fun g' hg' => by cases hg'; exact b⟩
          unfold btr
          cases dr with
          | true =>
            simp only [if_true] at nb ⊢
            rcases le_lt32 (Int32.not_lt.mp nb) with w | w
            · exact Or.inl w
            · exact Or.inr ⟨w, g1⟩
          | false =>
            simp only [Bool.false_eq_true, if_false] at nb ⊢
            exact Or.inl (Int32.not_le.mp nb)
      refine ⟨fun e k hk hc => ?_, fun g hg => ?_⟩
      · by_cases w : k = n
        · rw [w] at hc
          obtain ⟨g, hg, -⟩ := hn hc
          rw [e] at hg
          cases hg
        · exact ih1 e k (by omega) hc
      · obtain ⟨g1, g2, g3⟩ := ih2 g hg
        refine ⟨by omega, g2, fun k hk hc hne => ?_⟩
        by_cases w : k = n
        · rw [w] at hc ⊢
          obtain ⟨g', hg', hb⟩ := hn hc
          rw [hg] at hg'
          cases hg'
          exact hb
        · exact g3 k (by omega) hc hne
theorem btr_asymm {dr : Bool} {a b : Nat} (h : btr I dr a b) : ¬ btr I dr b a := by
  unfold btr at h ⊢
  cases dr with
  | true => exact lnB_asymm h
  | false => exact lnB_asymm h
theorem nl_eq {dr : Bool} {a : Nat} (ha : a < L) (hc : cand I y p dr a) (hb : ∀ k, k < L → cand I y p dr k → k ≠ a → btr I dr a k) : nlF I L y p dr = some a := by
  unfold nlF
  obtain ⟨h1, h2⟩ := nl_best (I := I) (y := y) (p := p) (dr := dr) L
  cases ho : itr (nlS I y p dr) L none with
  | none => exact absurd hc (h1 ho a ha)
  | some g =>
    obtain ⟨g1, g2, g3⟩ := h2 g ho
    by_cases e : g = a
    · rw [e]
    · exact absurd (g3 a ha hc (Ne.symm e)) (btr_asymm (hb g g1 g2 e))
theorem nl_none {dr : Bool} (h : ∀ k, k < L → ¬ cand I y p dr k) : nlF I L y p dr = none := by
  unfold nlF
  cases ho : itr (nlS I y p dr) L none with
  | none => rfl
  | some g =>
    obtain ⟨g1, g2, -⟩ := (nl_best (I := I) (y := y) (p := p) (dr := dr) L).2 g ho
    exact absurd g2 (h g g1)
/-- drawn amounts are within limits -/
def drOk (L : Nat) (I : Nat → Nat → Int32) (y : Nat → Int64) : Prop := ∀ l, l < L → 0 ≤ (y (70 + l)).toInt ∧ (y (70 + l)).toInt ≤ (I 12 l).toInt ∧ (I 12 l).toInt ≤ 10000000
def lnOk2 (A L : Nat) (I : Nat → Nat → Int32) : Prop := ∀ l, l < L → I 11 l = nI (pL I l) ∧ pL I l < A ∧ I 3 (pL I l) = -1
theorem cand_crk (hA : A ≤ 10) (hl : lnOk2 A L I) {dr : Bool} (hp : p < A) {k : Nat} (hk : k < L) (h : I 11 k = nI p) : k ∈ crk I p L := by
  obtain ⟨a1, a2, -⟩ := hl k hk
  exact mem_crk.mpr ⟨hk, (nI_eq (by omega) (by omega)).mp (a1.symm.trans h)⟩
/-! drawing -/
def drA (I : Nat → Nat → Int32) (p l : Nat) (y : Nat → Int64) : Int64 := if (I 12 l).toInt64 - y (70 + l) < (if (0 : Int64) < -(y p) then -(y p) else 0) then (I 12 l).toInt64 - y (70 + l) else (if (0 : Int64) < -(y p) then -(y p) else 0)
theorem drC_def {l : Nat} : drC I p l y = vp_updL (vp_updL y (70 + l) (y (70 + l) + drA I p l y)) p (y p + drA I p l y) := rfl
theorem lim_int {l : Nat} : (I 12 l).toInt64.toInt = (I 12 l).toInt := Int32.toInt_toInt64 _
theorem av_int (hd : drOk L I y) {l : Nat} (hl : l < L) : ((I 12 l).toInt64 - y (70 + l)).toInt = (I 12 l).toInt - (y (70 + l)).toInt := by
  obtain ⟨d1, d2, d3⟩ := hd l hl
  rw [i64_sub (by rw [lim_int]; omega) (by rw [lim_int]; omega), lim_int]
theorem drA_0 (hd : drOk L I y) {l : Nat} (hl : l < L) (h : ¬ (0 : Int64) < -(y p)) : drA I p l y = 0 := by
  obtain ⟨d1, d2, d3⟩ := hd l hl
  unfold drA
  rw [if_neg h, if_neg]
  intro c
  have c := Int64.lt_iff_toInt_lt.mp c
  rw [av_int hd hl, i64_0] at c
  omega
theorem drC_id {l : Nat} (h : drA I p l y = 0) : drC I p l y = y := by
  rw [drC_def, h, Int64.add_zero, Int64.add_zero, updL_same, updL_same]
theorem foldS_id {σ : Type} {f : Nat → σ → σ} {s : σ} : ∀ l : List Nat, (∀ x ∈ l, f x s = s) → foldS f l s = s
  | [], _ => rfl
  | a :: l, h => by
    rw [foldS_cons, h a List.mem_cons_self]
    exact foldS_id l (fun x hx => h x (List.mem_cons_of_mem _ hx))
theorem drA_int (hd : drOk L I y) {l : Nat} (hl : l < L) (h1 : -4611686018427387904 ≤ (y p).toInt) (hn : (y p).toInt < 0) : (drA I p l y = -(y p) ∧ -(y p).toInt ≤ (I 12 l).toInt - (y (70 + l)).toInt ∧ (drA I p l y).toInt = -(y p).toInt) ∨ (drA I p l y = (I 12 l).toInt64 - y (70 + l) ∧ (I 12 l).toInt - (y (70 + l)).toInt < -(y p).toInt ∧ (drA I p l y).toInt = (I 12 l).toInt - (y (70 + l)).toInt) := by
  have en : (-(y p)).toInt = -(y p).toInt := i64_neg (by omega)
  have hpos : (0 : Int64) < -(y p) := by rw [Int64.lt_iff_toInt_lt, en, i64_0]; omega
  unfold drA
  rw [if_pos hpos]
  by_cases c : (I 12 l).toInt64 - y (70 + l) < -(y p)
  · rw [if_pos c]
    have c := Int64.lt_iff_toInt_lt.mp c
    rw [av_int hd hl, en] at c
    exact Or.inr ⟨rfl, c, av_int hd hl⟩
  · rw [if_neg c]
    have c := Int64.le_iff_toInt_le.mp (Int64.not_lt.mp c)
    rw [av_int hd hl, en] at c
    exact Or.inl ⟨rfl, c, en⟩
theorem covS_dr (hd : drOk L I y) {l : Nat} (hl : l < L) (h1 : -4611686018427387904 ≤ (y p).toInt) (hn : (y p).toInt < 0) : covS I true p l y = drC I p l y := by
  have e : camt I true p l y = drA I p l y := by
    unfold camt
    rw [if_pos rfl]
    rcases drA_int hd hl h1 hn with ⟨e, c, -⟩ | ⟨e, c, -⟩
    · rw [e, if_pos]
      rw [Int64.le_iff_toInt_le, i64_neg (by omega), av_int hd hl]
      exact c
    · rw [e, if_neg]
      rw [Int64.le_iff_toInt_le, i64_neg (by omega), av_int hd hl]
      omega
  unfold covS csg
  rw [if_pos rfl, e, drC_def]
theorem cov_stop {dr : Bool} (h : nextC I L dr p y = none) : ∀ f, covF I L dr p f y = y ∧ covEnds I L dr p f y
  | 0 => ⟨rfl, h⟩
  | f + 1 => ⟨by unfold covF; rw [h], fun y' hy' => by rw [h] at hy'; cases hy'⟩
theorem drC_st (hd : drOk L I y) (hp10 : p < 10) {l : Nat} (hl : l < L) (h1 : -4611686018427387904 ≤ (y p).toInt) (hn : (y p).toInt < 0) : (drC I p l y p).toInt = (y p).toInt + (drA I p l y).toInt ∧ (drC I p l y (70 + l)).toInt = (y (70 + l)).toInt + (drA I p l y).toInt ∧ 0 ≤ (drA I p l y).toInt ∧ (drA I p l y).toInt ≤ -(y p).toInt ∧ (drA I p l y).toInt ≤ (I 12 l).toInt - (y (70 + l)).toInt := by
  obtain ⟨d1, d2, d3⟩ := hd l hl
  have b : 0 ≤ (drA I p l y).toInt ∧ (drA I p l y).toInt ≤ -(y p).toInt ∧ (drA I p l y).toInt ≤ (I 12 l).toInt - (y (70 + l)).toInt := by
    rcases drA_int hd hl h1 hn with ⟨-, c, e⟩ | ⟨-, c, e⟩ <;> omega
  refine ⟨?_, ?_, b⟩
  · rw [drC_def, pk_uLs, i64_add (by omega) (by omega)]
  · rw [drC_def, pk_uLn (by omega), pk_uLs, i64_add (by omega) (by omega)]
theorem drC_o {l m : Nat} (h1 : m ≠ 70 + l) (h2 : m ≠ p) : drC I p l y m = y m := by
  rw [drC_def, pk_uLn h2, pk_uLn h1]
theorem drC_ok (hd : drOk L I y) (hp10 : p < 10) {l : Nat} (hl : l < L) (h1 : -4611686018427387904 ≤ (y p).toInt) (hn : (y p).toInt < 0) : drOk L I (drC I p l y) := by
  obtain ⟨s1, s2, s3, s4, s5⟩ := drC_st hd hp10 hl h1 hn
  intro m hm
  obtain ⟨d1, d2, d3⟩ := hd m hm
  by_cases e : m = l
  · rw [e] at d1 d2 d3 ⊢
    omega
  · rw [drC_o (show 70 + m ≠ 70 + l by omega) (by omega)]
    exact ⟨d1, d2, d3⟩
theorem draw_eq (hA : A ≤ 10) (hl : lnOk2 A L I) (hp : p < A) : ∀ (suf pr : List Nat) (y : Nat → Int64), crk I p L = pr ++ suf → drOk L I y → -4611686018427387904 ≤ (y p).toInt → (y p).toInt ≤ 0 → (∀ l ∈ pr, (y (70 + l)).toInt = (I 12 l).toInt) → ∀ f, suf.length ≤ f →
    covF I L true p f y = foldS (drC I p) suf y ∧ covEnds I L true p f y := by
  have zero : ∀ (y : Nat → Int64), (y p).toInt = 0 → y p = 0 := fun y h => Int64.toInt_inj.mp (h.trans i64_0.symm)
  have idl : ∀ (l : List Nat) (y : Nat → Int64), (∀ x ∈ l, x < L) → drOk L I y → (y p).toInt = 0 → foldS (drC I p) l y = y := by
    intro l y hlL hd h0
    refine foldS_id l (fun x hx => drC_id (drA_0 hd (hlL x hx) ?_))
    rw [zero y h0]
    decide
  have nxt0 : ∀ (y : Nat → Int64), (y p).toInt = 0 → nextC I L true p y = none := fun y h0 => by unfold nextC; rw [if_pos (zero y h0)]
  intro suf
  induction suf with
  | nil =>
    intro pr y hs hd h1 h2 hf f _
    refine cov_stop ?_ f
    unfold nextC
    split
    · rfl
    · rw [nl_none (fun k hk hc => ?_)]
      · rfl
      · have hm := cand_crk hA hl (dr := true) hp hk hc.1
        rw [hs, List.append_nil] at hm
        have h3 := hf k hm
        have h4 := Int64.lt_iff_toInt_lt.mp (show y (70 + k) < (I 12 k).toInt64 from hc.2)
        rw [lim_int] at h4
        omega
  | cons a t ih =>
    intro pr y hs hd h1 h2 hf f hlen
    have mem : ∀ x ∈ a :: t, x < L := fun x hx => (mem_crk.mp (by rw [hs]; exact List.mem_append_right _ hx)).1
    have haL := mem a List.mem_cons_self
    obtain ⟨d1, d2, d3⟩ := hd a haL
    by_cases h0 : (y p).toInt = 0
    · rw [idl (a :: t) y mem hd h0]
      exact cov_stop (nxt0 y h0) f
    have hn : (y p).toInt < 0 := by omega
    rw [foldS_cons]
    have hs2 : crk I p L = (pr ++ [a]) ++ t := by rw [hs, List.append_assoc]; rfl
    have pw := crk_pw (I := I) (p := p) L
    rw [hs] at pw
    obtain ⟨-, pw2, pw3⟩ := List.pairwise_append.mp pw
    have pw2 := List.pairwise_cons.mp pw2
    by_cases hfull : (y (70 + a)).toInt = (I 12 a).toInt
    · have e0 : (I 12 a).toInt64 - y (70 + a) = 0 := by
        refine Int64.toInt_inj.mp ?_
        rw [av_int hd haL, i64_0]
        omega
      have ei : drA I p a y = 0 := by
        rcases drA_int hd haL h1 hn with ⟨-, c, e⟩ | ⟨e, -, -⟩
        · omega
        · rw [e, e0]
      rw [drC_id ei]
      refine ih (pr ++ [a]) y hs2 hd h1 h2 (fun l hm => ?_) f (by rw [List.length_cons] at hlen; omega)
      rcases List.mem_append.mp hm with h | h
      · exact hf l h
      · rw [List.mem_singleton.mp h]; exact hfull
    · obtain ⟨a1, a2, -⟩ := hl a haL
      have hpa : pL I a = p := (mem_crk.mp (by rw [hs]; exact List.mem_append_right _ List.mem_cons_self)).2
      have nl : nlF I L y p true = some a := by
        refine nl_eq haL ⟨by rw [a1, hpa], ?_⟩ (fun k hk hc hne => ?_)
        · show y (70 + a) < (I 12 a).toInt64
          rw [Int64.lt_iff_toInt_lt, lim_int]
          omega
        · have hm := cand_crk hA hl (dr := true) hp hk hc.1
          rw [hs] at hm
          show lnB I a k
          rcases List.mem_append.mp hm with h | h
          · have h3 := hf k h
            have h4 := Int64.lt_iff_toInt_lt.mp (show y (70 + k) < (I 12 k).toInt64 from hc.2)
            rw [lim_int] at h4
            omega
          · rcases List.mem_cons.mp h with h | h
            · exact absurd h hne
            · exact pw2.1 k h
      have nx : nextC I L true p y = some (drC I p a y) := by
        unfold nextC
        rw [if_neg (fun e => by rw [e] at hn; exact absurd hn (by decide)), nl, ← covS_dr hd haL h1 hn]
        rfl
      cases f with
      | zero => rw [List.length_cons] at hlen; omega
      | succ f =>
        rw [List.length_cons] at hlen
        obtain ⟨s1, s2, s3, s4, s5⟩ := drC_st hd (by omega) haL h1 hn
        have hd2 := drC_ok hd (show p < 10 by omega) haL h1 hn
        have goal2 : covF I L true p f (drC I p a y) = foldS (drC I p) t (drC I p a y) ∧ covEnds I L true p f (drC I p a y) := by
          by_cases z : (drC I p a y p).toInt = 0
          · rw [idl t _ (fun x hx => mem x (List.mem_cons_of_mem _ hx)) hd2 z]
            exact cov_stop (nxt0 _ z) f
          · refine ih (pr ++ [a]) (drC I p a y) hs2 hd2 (by omega) (by omega) (fun l hm => ?_) f (by omega)
            rcases List.mem_append.mp hm with h | h
            · have hne : l ≠ a := fun e => by
                have := pw3 l h a List.mem_cons_self
                rw [e] at this
                exact lnB_asymm this this
              rw [drC_o (show 70 + l ≠ 70 + a by omega) (by omega)]
              exact hf l h
            · rw [List.mem_singleton.mp h]
              rcases drA_int hd haL h1 hn with ⟨-, c, e⟩ | ⟨-, c, e⟩
              · omega
              · omega
        refine ⟨?_, fun y' hy' => ?_⟩
        · show (match nextC I L true p y with | none => y | some y' => covF I L true p f y') = _
          rw [nx]
          exact goal2.1
        · rw [nx] at hy'
          cases hy'
          exact goal2.2
/-! paying back -/
def pbA (p l : Nat) (y : Nat → Int64) : Int64 := if y (70 + l) < (if (0 : Int64) < y p then y p else 0) then y (70 + l) else (if (0 : Int64) < y p then y p else 0)
theorem pbC_def {l : Nat} : pbC p l y = vp_updL (vp_updL y (70 + l) (y (70 + l) - pbA p l y)) p (y p - pbA p l y) := rfl
theorem pbA_0 (hd : drOk L I y) {l : Nat} (hl : l < L) (h : ¬ (0 : Int64) < y p) : pbA p l y = 0 := by
  obtain ⟨d1, d2, d3⟩ := hd l hl
  unfold pbA
  rw [if_neg h, if_neg]
  intro c
  have c := Int64.lt_iff_toInt_lt.mp c
  rw [i64_0] at c
  omega
theorem pbC_id {l : Nat} (h : pbA p l y = 0) : pbC p l y = y := by
  rw [pbC_def, h, Int64.sub_zero, Int64.sub_zero, updL_same, updL_same]
theorem pbA_int {l : Nat} (hn : 0 < (y p).toInt) : (pbA p l y = y p ∧ (y p).toInt ≤ (y (70 + l)).toInt) ∨ (pbA p l y = y (70 + l) ∧ (y (70 + l)).toInt < (y p).toInt) := by
  have hpos : (0 : Int64) < y p := by rw [Int64.lt_iff_toInt_lt, i64_0]; exact hn
  unfold pbA
  rw [if_pos hpos]
  by_cases c : y (70 + l) < y p
  · rw [if_pos c]
    exact Or.inr ⟨rfl, Int64.lt_iff_toInt_lt.mp c⟩
  · rw [if_neg c]
    exact Or.inl ⟨rfl, Int64.le_iff_toInt_le.mp (Int64.not_lt.mp c)⟩
theorem covS_pb {l : Nat} (hn : 0 < (y p).toInt) : covS I false p l y = pbC p l y := by
  have e : camt I false p l y = pbA p l y := by
    unfold camt
    rw [if_neg (by decide)]
    rcases pbA_int (l := l) hn with ⟨e, c⟩ | ⟨e, c⟩
    · rw [e, if_pos (Int64.le_iff_toInt_le.mpr c)]
    · rw [e, if_neg (fun w => by have := Int64.le_iff_toInt_le.mp w; omega)]
  unfold covS csg
  rw [if_neg (by decide), e, pbC_def, ← Int64.sub_eq_add_neg, ← Int64.sub_eq_add_neg]
theorem pbC_st (hd : drOk L I y) (hp10 : p < 10) {l : Nat} (hl : l < L) (hn : 0 < (y p).toInt) : (pbC p l y p).toInt = (y p).toInt - (pbA p l y).toInt ∧ (pbC p l y (70 + l)).toInt = (y (70 + l)).toInt - (pbA p l y).toInt ∧ 0 ≤ (pbA p l y).toInt ∧ (pbA p l y).toInt ≤ (y p).toInt ∧ (pbA p l y).toInt ≤ (y (70 + l)).toInt := by
  obtain ⟨d1, d2, d3⟩ := hd l hl
  have h2 := Int64.toInt_lt (y p)
  have b : 0 ≤ (pbA p l y).toInt ∧ (pbA p l y).toInt ≤ (y p).toInt ∧ (pbA p l y).toInt ≤ (y (70 + l)).toInt := by
    rcases pbA_int (l := l) hn with ⟨e, c⟩ | ⟨e, c⟩ <;> rw [e] <;> omega
  refine ⟨?_, ?_, b⟩
  · rw [pbC_def, pk_uLs, i64_sub (by omega) (by omega)]
  · rw [pbC_def, pk_uLn (by omega), pk_uLs, i64_sub (by omega) (by omega)]
theorem pbC_o {l m : Nat} (h1 : m ≠ 70 + l) (h2 : m ≠ p) : pbC p l y m = y m := by
  rw [pbC_def, pk_uLn h2, pk_uLn h1]
theorem pbC_ok (hd : drOk L I y) (hp10 : p < 10) {l : Nat} (hl : l < L) (hn : 0 < (y p).toInt) : drOk L I (pbC p l y) := by
  obtain ⟨s1, s2, s3, s4, s5⟩ := pbC_st hd hp10 hl hn
  intro m hm
  obtain ⟨d1, d2, d3⟩ := hd m hm
  by_cases e : m = l
  · rw [e] at d1 d2 d3 ⊢
    omega
  · rw [pbC_o (show 70 + m ≠ 70 + l by omega) (by omega)]
    exact ⟨d1, d2, d3⟩
theorem back_eq (hA : A ≤ 10) (hl : lnOk2 A L I) (hp : p < A) : ∀ (suf pr : List Nat) (y : Nat → Int64), (crk I p L).reverse = pr ++ suf → drOk L I y → 0 ≤ (y p).toInt → (∀ l ∈ pr, (y (70 + l)).toInt = 0) → ∀ f, suf.length ≤ f →
    covF I L false p f y = foldS (pbC p) suf y ∧ covEnds I L false p f y := by
  have zero : ∀ (y : Nat → Int64), (y p).toInt = 0 → y p = 0 := fun y h => Int64.toInt_inj.mp (h.trans i64_0.symm)
  have idl : ∀ (l : List Nat) (y : Nat → Int64), (∀ x ∈ l, x < L) → drOk L I y → (y p).toInt = 0 → foldS (pbC p) l y = y := by
    intro l y hlL hd h0
    refine foldS_id l (fun x hx => pbC_id (pbA_0 hd (hlL x hx) ?_))
    rw [zero y h0]
    decide
  have nxt0 : ∀ (y : Nat → Int64), (y p).toInt = 0 → nextC I L false p y = none := fun y h0 => by unfold nextC; rw [if_pos (zero y h0)]
  intro suf
  induction suf with
  | nil =>
    intro pr y hs hd h2 hf f _
    refine cov_stop ?_ f
    unfold nextC
    split
    · rfl
    · rw [nl_none (fun k hk hc => ?_)]
      · rfl
      · have hm := List.mem_reverse.mpr (cand_crk hA hl (dr := false) hp hk hc.1)
        rw [hs, List.append_nil] at hm
        have h3 := hf k hm
        have h4 := Int64.lt_iff_toInt_lt.mp (show 0 < y (70 + k) from hc.2)
        rw [i64_0] at h4
        omega
  | cons a t ih =>
    intro pr y hs hd h2 hf f hlen
    have mem : ∀ x ∈ a :: t, x < L := fun x hx => (mem_crk.mp (List.mem_reverse.mp (by rw [hs]; exact List.mem_append_right _ hx))).1
    have haL := mem a List.mem_cons_self
    obtain ⟨d1, d2, d3⟩ := hd a haL
    by_cases h0 : (y p).toInt = 0
    · rw [idl (a :: t) y mem hd h0]
      exact cov_stop (nxt0 y h0) f
    have hn : 0 < (y p).toInt := by omega
    rw [foldS_cons]
    have hs2 : (crk I p L).reverse = (pr ++ [a]) ++ t := by rw [hs, List.append_assoc]; rfl
    have pw := List.pairwise_reverse.mpr (List.Pairwise.imp (S := fun a b => lnB I a b) (fun h => h) (crk_pw (I := I) (p := p) L))
    rw [hs] at pw
    obtain ⟨-, pw2, pw3⟩ := List.pairwise_append.mp pw
    have pw2 := List.pairwise_cons.mp pw2
    by_cases hfull : (y (70 + a)).toInt = 0
    · have ei : pbA p a y = 0 := by
        rcases pbA_int (l := a) hn with ⟨-, c⟩ | ⟨e, -⟩
        · omega
        · rw [e]; exact Int64.toInt_inj.mp (hfull.trans i64_0.symm)
      rw [pbC_id ei]
      refine ih (pr ++ [a]) y hs2 hd h2 (fun l hm => ?_) f (by rw [List.length_cons] at hlen; omega)
      rcases List.mem_append.mp hm with h | h
      · exact hf l h
      · rw [List.mem_singleton.mp h]; exact hfull
    · obtain ⟨a1, a2, -⟩ := hl a haL
      have hpa : pL I a = p := (mem_crk.mp (List.mem_reverse.mp (by rw [hs]; exact List.mem_append_right _ List.mem_cons_self))).2
      have nl : nlF I L y p false = some a := by
        refine nl_eq haL ⟨by rw [a1, hpa], ?_⟩ (fun k hk hc hne => ?_)
        · show 0 < y (70 + a)
          rw [Int64.lt_iff_toInt_lt, i64_0]
          omega
        · have hm := List.mem_reverse.mpr (cand_crk hA hl (dr := false) hp hk hc.1)
          rw [hs] at hm
          show lnB I k a
          rcases List.mem_append.mp hm with h | h
          · have h3 := hf k h
            have h4 := Int64.lt_iff_toInt_lt.mp (show 0 < y (70 + k) from hc.2)
            rw [i64_0] at h4
            omega
          · rcases List.mem_cons.mp h with h | h
            · exact absurd h hne
            · exact pw2.1 k h
      have nx : nextC I L false p y = some (pbC p a y) := by
        unfold nextC
        rw [if_neg (fun e => by rw [e] at hn; exact absurd hn (by decide)), nl, ← covS_pb (I := I) hn]
        rfl
      cases f with
      | zero => rw [List.length_cons] at hlen; omega
      | succ f =>
        rw [List.length_cons] at hlen
        obtain ⟨s1, s2, s3, s4, s5⟩ := pbC_st hd (by omega) haL hn
        have hd2 := pbC_ok hd (show p < 10 by omega) haL hn
        have goal2 : covF I L false p f (pbC p a y) = foldS (pbC p) t (pbC p a y) ∧ covEnds I L false p f (pbC p a y) := by
          by_cases z : (pbC p a y p).toInt = 0
          · rw [idl t _ (fun x hx => mem x (List.mem_cons_of_mem _ hx)) hd2 z]
            exact cov_stop (nxt0 _ z) f
          · refine ih (pr ++ [a]) (pbC p a y) hs2 hd2 (by omega) (fun l hm => ?_) f (by omega)
            rcases List.mem_append.mp hm with h | h
            · have hne : l ≠ a := fun e => by
                have := pw3 l h a List.mem_cons_self
                rw [e] at this
                exact lnB_asymm this this
              rw [pbC_o (show 70 + l ≠ 70 + a by omega) (by omega)]
              exact hf l h
            · rw [List.mem_singleton.mp h]
              rcases pbA_int (l := a) hn with ⟨e, c⟩ | ⟨e, c⟩
              · rw [e] at s1; omega
              · rw [e] at s2; omega
        refine ⟨?_, fun y' hy' => ?_⟩
        · show (match nextC I L false p y with | none => y | some y' => covF I L false p f y') = _
          rw [nx]
          exact goal2.1
        · rw [nx] at hy'
          cases hy'
          exact goal2.2
theorem cv_eq (hA : A ≤ 10) (hL : L ≤ 6) (hl : lnOk2 A L I) (hp : p < A) (hd : drOk L I y) (h1 : -4611686018427387904 ≤ (y p).toInt) : cvC L I p y = covF I L (decide (y p < 0)) p 6 y ∧ covEnds I L (decide (y p < 0)) p 6 y := by
  have len : (crk I p L).length ≤ 6 := Nat.le_trans (crk_len L) hL
  have mem : ∀ x ∈ crk I p L, x < L := fun x hx => (mem_crk.mp hx).1
  unfold cvC
  by_cases c : y p < 0
  · have hn := Int64.lt_iff_toInt_lt.mp c
    rw [i64_0] at hn
    rw [decide_eq_true c]
    obtain ⟨e, en⟩ := draw_eq hA hl hp (crk I p L) [] y rfl hd h1 (by omega) (fun l hm => by cases hm) 6 len
    rw [e]
    refine ⟨foldS_id _ (fun x hx => pbC_id ?_), en⟩
    -- behind the drawing the balance isn't above 0
    have keep : ∀ (l : List Nat), (∀ x ∈ l, x < L) → ∀ (y : Nat → Int64), drOk L I y → -4611686018427387904 ≤ (y p).toInt → (y p).toInt ≤ 0 → drOk L I (foldS (drC I p) l y) ∧ (foldS (drC I p) l y p).toInt ≤ 0 := by
      intro l
      induction l with
      | nil => intro _ y hd _ h2; exact ⟨hd, h2⟩
      | cons a t ih =>
        intro hm y hd h1 h2
        rw [foldS_cons]
        by_cases h0 : (y p).toInt = 0
        · have e0 : y p = 0 := Int64.toInt_inj.mp (h0.trans i64_0.symm)
          rw [drC_id (drA_0 hd (hm a List.mem_cons_self) (by rw [e0]; decide))]
          exact ih (fun x hx => hm x (List.mem_cons_of_mem _ hx)) y hd h1 h2
        · obtain ⟨s1, s2, s3, s4, s5⟩ := drC_st hd (show p < 10 by omega) (hm a List.mem_cons_self) h1 (by omega)
          exact ih (fun x hx => hm x (List.mem_cons_of_mem _ hx)) _ (drC_ok hd (by omega) (hm a List.mem_cons_self) h1 (by omega)) (by omega) (by omega)
    obtain ⟨k1, k2⟩ := keep (crk I p L) mem y hd h1 (by omega)
    refine pbA_0 k1 (mem x (List.mem_reverse.mp hx)) (fun w => ?_)
    have := Int64.lt_iff_toInt_lt.mp w
    rw [i64_0] at this
    omega
  · have hn := Int64.le_iff_toInt_le.mp (Int64.not_lt.mp c)
    rw [i64_0] at hn
    rw [decide_eq_false c]
    have e0 : foldS (drC I p) (crk I p L) y = y := foldS_id _ (fun x hx => drC_id (drA_0 hd (mem x hx) (fun w => by
      have w := Int64.lt_iff_toInt_lt.mp w
      rw [i64_neg (by omega), i64_0] at w
      omega)))
    rw [e0]
    obtain ⟨e, en⟩ := back_eq hA hl hp (crk I p L).reverse [] y rfl hd hn (fun l hm => by cases hm) 6 (by rw [List.length_reverse]; exact len)
    exact ⟨e.symm, en⟩
end CV
