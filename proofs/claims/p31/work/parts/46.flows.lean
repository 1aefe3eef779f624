/-! ===== the class: settlement days, due flows, lines ===== -/
/-- flows' times: how many are done, of how many -/
def flB (F : Nat) (I : Nat → Nat → Int32) (zz : Nat → Int64) : Prop := ∀ f, f < F → ∃ m t : Nat, m ≤ t ∧ t ≤ 30 ∧ zz (88 + f) = lN m ∧ I 19 f = nI t
section FL
variable {z : Nat × Nat} {ad : Nat × Nat → Nat} {nm : Nat → Nat × Nat} {A L F : Nat} {I : Nat → Nat → Int32} {K : Nat → Nat → Int64} {k : Nat → Nat → Int32} {μ0 : jM}
theorem cC3 {zz : Nat → Int64} : cC z ad A L F I zz K k (3, 0) = some (.inl (2, 451, .inl (I 20))) := rfl
theorem ca3 (h : cOk ad nm A L F I) {zz : Nat → Int64} : cM z ad nm A L F I zz K k μ0 (ad (3, 0)) = some (.inl (2, 451, .inl (I 20))) := cM_at h cC3
theorem c_settles (h : cE ad nm A L F I) {zz : Nat → Int64} {d : Nat} {x : Int32} (hx : x = nI d) (hd : d ≤ 450 ∨ (d < 2 ^ 31 ∧ I 20 d = 0)) {Q : Int32 → jM → Prop} (q : Q (bI1 (stF I d)) (cM z ad nm A L F I zz K k μ0)) : wX2_settles z (ad (2, 0)) x (cM z ad nm A L F I zz K k μ0) Q := by
  subst hx
  have hd31 : d < 2 ^ 31 := by omega
  unfold wX2_settles wX2_settles_0
  unfold stF at q
  have w27 : ∀ t0 : Int32, (t0 = 0 ↔ I 20 d = 0) → wX2_settles_27 z (ad (2, 0)) Q (nI d) t0 (cM z ad nm A L F I zz K k μ0) := by
    intro t0 ht
    unfold wX2_settles_27
    refine ⟨fun c => ?_, fun c => ⟨fun e => ?_, fun e => ?_⟩⟩
    · rw [decide_eq_false (fun y => y c)] at q; exact q
    · rw [decide_eq_false (fun y => e (ht.mpr y)), Bool.and_false] at q; exact q
    · rw [decide_eq_true c, decide_eq_true (ht.mp e)] at q; exact q
  refine ⟨fun c => absurd c (nI_pos hd31), fun _ => ⟨_, cg2_0 h.1, 451, jal_at (ca3 h.1) (by decide), fun c => ?_, fun c => ⟨_, cg2_0 h.1, I 20 d, ?_, fun e => w27 0 ⟨fun _ => e, fun _ => rfl⟩, fun e => w27 1 ⟨fun y => absurd y (by decide), fun y => absurd y e⟩⟩⟩⟩
  · have h450 : ¬ d ≤ 450 := fun e => absurd (show nI 451 ≤ nI d from c) (nI_ge (by omega) (by omega))
    have h0 : I 20 d = 0 := by
      rcases hd with hd | hd
      · exact absurd hd h450
      · exact hd.2
    exact w27 0 ⟨fun _ => h0, fun _ => rfl⟩
  · have h450 : d < 451 := by
      by_cases e : d < 451
      · exact e
      · exact absurd (show nI 451 ≤ nI d from nI_le (by omega) hd31) c
    exact jai_at (ca3 h.1) h450 (by decide) rfl
theorem c_bookUpTo (h : cE ad nm A L F I) {d f : Nat} (hf : f < F) (t : Nat) (ht : t ≤ 30) (hI : I 19 f = nI t) : ∀ (n m : Nat) (zz : Nat → Int64) (Q : Unit → jM → Prop), m + n = t → zz (88 + f) = lN m → Q () (cM z ad nm A L F I (flwF I d f n zz) K k μ0) → ∃ c, wX4_bookUpTo_0 z (ad (21, f)) Q c (nI d) (cM z ad nm A L F I zz K k μ0) := by
  have hA := h.2.1
  obtain ⟨ef, lf⟩ := h.2.2.2.2.2.2.2.2.1 f hf
  intro n
  induction n with
  | zero =>
    intro m zz Q hm hz q
    refine ⟨1, ?_⟩
    show wX4_bookUpTo_0_b z (ad (21, f)) Q (wX4_bookUpTo_0 z (ad (21, f)) Q 0) (nI d) _
    unfold wX4_bookUpTo_0_b
    refine ⟨_, cg21_4 h.1 hf, fun _ => q, fun c => absurd ?_ c⟩
    rw [hz, hI, lN_i, show m = t by omega]
    show nI t - nI t ≤ 0
    rw [Int32.sub_self]
    exact Int32.le_refl _
  | succ n ih =>
    intro m zz Q hm hz q
    have hlt : m < t := by omega
    have e19 : I 19 f - (zz (88 + f)).toInt32 = nI (t - m) := by
      rw [hz, hI, lN_i]
      have : nI t = nI (t - m) + nI m := by rw [nI_add, Nat.sub_add_cancel (by omega)]
      rw [this, Int32.add_sub_cancel]
    have e64 : (I 19 f).toInt64 = lN t := by rw [hI]; exact nI_l (by omega)
    unfold flwF at q
    by_cases c : flwC I d f zz
    · rw [if_pos c] at q
      have hz2 : flwS I f zz (88 + f) = lN (m + 1) := by
        unfold flwS
        rw [pk_uLs, hz, lN_1]
      obtain ⟨g, w⟩ := ih (m + 1) (flwS I f zz) Q (by omega) hz2 q
      refine ⟨g + 1, ?_⟩
      show wX4_bookUpTo_0_b z (ad (21, f)) Q (wX4_bookUpTo_0 z (ad (21, f)) Q g) (nI d) _
      unfold wX4_bookUpTo_0_b
      refine ⟨_, cg21_4 h.1 hf, fun e => absurd (e19 ▸ e) (nI_nle (by omega) (by omega)), fun _ => ⟨_, cg21_3 h.1 hf, fun e => absurd c.2 (Int32.not_le.mpr e), fun _ => ⟨_, cg21_0 h.1 hf, _, cg7_8 h.1 lf, _, cg21_1 h.1 hf, _, cw7_8 h lf, _, cg21_3 h.1 hf, _, cg21_2 h.1 hf, ?_⟩⟩⟩
      have u1 : ∀ v, vp_updL zz (fA I f) v (88 + f) = zz (88 + f) := fun v => pk_uLn (by omega)
      rw [u1]
      obtain ⟨μ1, w1, w2, w3⟩ := cw21_34 (z := z) (zz := vp_updL zz (fA I f) (zz (fA I f) + (I 16 f).toInt64)) (K := K) (k := k) (μ0 := μ0) h hf (v := I 17 f + (zz (88 + f)).toInt32 * I 18 f + I 18 f) (w := I 19 f - (zz (88 + f)).toInt32 - 1) (x := zz (88 + f) + 1) (by
        rw [hz, lN_1, lN_i, lN_i, nI_succ, Int32.add_mul, Int32.one_mul, Int32.add_assoc]) (by
        rw [hz, lN_1, lN_i, lN_i, nI_succ, Int32.sub_sub])
      have w2' : jg μ1 (some (ad (21, f))) 7 4 = some (.int (I 19 f - (zz (88 + f)).toInt32)) := (w2 4 (by decide)).trans (by
        show some (Value.int (I 19 f - (vp_updL zz (fA I f) (zz (fA I f) + (I 16 f).toInt64) (88 + f)).toInt32)) = _
        rw [u1])
      exact ⟨μ1, w1, _, w2', _, w3, w⟩
    · rw [if_neg c] at q
      refine ⟨1, ?_⟩
      show wX4_bookUpTo_0_b z (ad (21, f)) Q (wX4_bookUpTo_0 z (ad (21, f)) Q 0) (nI d) _
      unfold wX4_bookUpTo_0_b
      refine ⟨_, cg21_4 h.1 hf, fun _ => q, fun _ => ⟨_, cg21_3 h.1 hf, fun _ => q, fun e => absurd ⟨?_, Int32.not_lt.mp e⟩ c⟩⟩
      rw [hz, e64]
      exact (lN_lt (by omega) (by omega)).mpr hlt
/-- what a flow's payments change -/
theorem flwS_done {f j : Nat} {zz : Nat → Int64} (hj : j ≠ 88 + f) (hja : j ≠ fA I f) : flwS I f zz j = zz j := by
  unfold flwS
  rw [pk_uLn hj, pk_uLn hja]
theorem flwF_other {d f j : Nat} (hj : j ≠ 88 + f) (hja : j ≠ fA I f) : ∀ (n : Nat) (zz : Nat → Int64), flwF I d f n zz j = zz j := by
  intro n
  induction n with
  | zero => intro zz; rfl
  | succ n ih =>
    intro zz
    unfold flwF
    split
    · rw [ih, flwS_done hj hja]
    · rfl
theorem flwF_own {d f t : Nat} (ht : t ≤ 30) (hI : I 19 f = nI t) (hfa : fA I f < 10) : ∀ (n m : Nat) (zz : Nat → Int64), m ≤ t → zz (88 + f) = lN m → ∃ m', m ≤ m' ∧ m' ≤ t ∧ flwF I d f n zz (88 + f) = lN m' := by
  intro n
  induction n with
  | zero => intro m zz hm hz; exact ⟨m, Nat.le_refl _, hm, hz⟩
  | succ n ih =>
    intro m zz hm hz
    unfold flwF
    split
    · rename_i c
      have hlt : m < t := by
        have c1 := c.1
        rw [hz, hI, nI_l (by omega)] at c1
        exact (lN_lt (by omega) (by omega)).mp c1
      have hz2 : flwS I f zz (88 + f) = lN (m + 1) := by
        unfold flwS
        rw [pk_uLs, hz, lN_1]
      obtain ⟨m', h1, h2, h3⟩ := ih (m + 1) _ (by omega) hz2
      exact ⟨m', by omega, h2, h3⟩
    · exact ⟨m, Nat.le_refl _, hm, hz⟩
theorem flB_step (hn : cEn A L F I) {d f : Nat} (hf : f < F) {zz : Nat → Int64} (hb : flB F I zz) : flB F I (flowS I d f zz) := by
  intro g hg
  obtain ⟨m, t, h1, h2, h3, h4⟩ := hb g hg
  have hA := hn.1
  have fa := (hn.2.2.2.2.2.2.2.1 f hf).2
  by_cases e : g = f
  · subst e
    obtain ⟨m', a, b, c⟩ := flwF_own (d := d) h2 h4 (by omega) (flwN I g zz) m zz h1 h3
    exact ⟨m', t, b, h2, c, h4⟩
  · refine ⟨m, t, h1, h2, ?_, h4⟩
    unfold flowS
    rw [flwF_other (by omega) (by omega)]
    exact h3
theorem flB_itr (hn : cEn A L F I) {d : Nat} {zz : Nat → Int64} (hb : flB F I zz) : ∀ n, n ≤ F → flB F I (itr (flowS I d) n zz) := by
  intro n
  induction n with
  | zero => intro _; exact hb
  | succ n ih => intro hn2; exact flB_step hn (by omega) (ih (by omega))
theorem flwN_eq {f m t : Nat} {zz : Nat → Int64} (ht : t ≤ 30) (h1 : m ≤ t) (h3 : zz (88 + f) = lN m) (h4 : I 19 f = nI t) : m + flwN I f zz = t := by
  unfold flwN
  rw [h3, h4, nI_l (by omega), lN_toInt (by omega), lN_toInt (by omega)]
  omega
theorem c_bookDueFlows (h : cE ad nm A L F I) {zz : Nat → Int64} (hb : flB F I zz) {d : Nat} (hd : zz 108 = lN d) {Q : Unit → jM → Prop} (q : Q () (cM z ad nm A L F I (itr (flowS I d) F zz) K k μ0)) : wX3_bookDueFlows z (ad (1, 0)) (cM z ad nm A L F I zz K k μ0) Q := by
  have hl : clv A I 4 3 := Or.inl ⟨rfl, by decide⟩
  have h20 := h.2.2.2.1
  have hA := h.2.1
  unfold wX3_bookDueFlows wX3_bookDueFlows_0
  intro v1 e1
  subst e1
  have e108 : ∀ j, j ≤ F → itr (flowS I d) j zz 108 = lN d := by
    intro j
    induction j with
    | zero => intro _; exact hd
    | succ j ih =>
      intro hj
      have fa := (h.2.2.2.2.2.2.2.2.1 j (by omega)).2
      show flowS I d j (itr (flowS I d) j zz) 108 = _
      unfold flowS
      rw [flwF_other (by omega) (by omega)]
      exact ih (by omega)
  refine jfor (fun f j y => wX3_bookDueFlows_2 z (ad (1, 0)) Q f (nI j) (cM z ad nm A L F I y K k μ0)) F (flowS I d) zz ?_ ?_
  · intro f j hj hw
    have hbj := flB_itr h.2 (d := d) hb j (by omega)
    have e8 := e108 j (by omega)
    have hw : wX3_bookDueFlows_2 z (ad (1, 0)) Q f (nI (j + 1)) (cM z ad nm A L F I (flowS I d j (itr (flowS I d) j zz)) K k μ0) := hw
    generalize itr (flowS I d) j zz = y at hw hbj e8 ⊢
    show wX3_bookDueFlows_2_b z (ad (1, 0)) Q (wX3_bookDueFlows_2 z (ad (1, 0)) Q f) (nI j) _
    unfold wX3_bookDueFlows_2_b
    have hx : (clist A L F I 4 3)[j]? = some j := by
      show (List.range F)[j]? = some j
      exact List.getElem?_range hj
    obtain ⟨m, t, h1, h2, h3, h4⟩ := hbj j hj
    refine ⟨_, cg1_3 h.1, _, ⟨rfl, c_lh h hl⟩, c_size h hl ⟨fun e => absurd e (lst_le hx (clist_len h.2)), fun _ => ⟨_, cg1_3 h.1, _, ⟨rfl, c_lh h hl⟩, c_get h hl hx rfl ⟨cj21 h.1 hj, _, cg1_6 h.1, _, ⟨rfl, ch21 h.1 hj⟩, ?_⟩⟩⟩⟩
    rw [e8, lN_i]
    refine c_bookUpTo h hj t h2 h4 (flwN I j y) m y _ (flwN_eq h2 h1 h3 h4) h3 ?_
    intro v14 e14
    rw [e14, nI_1]
    exact hw
  · show wX3_bookDueFlows_2_b z (ad (1, 0)) Q (wX3_bookDueFlows_2 z (ad (1, 0)) Q 0) (nI F) _
    unfold wX3_bookDueFlows_2_b
    refine ⟨_, cg1_3 h.1, _, ⟨rfl, c_lh h hl⟩, c_size h hl ?_⟩
    have e : (clist A L F I 4 3).length = F := List.length_range
    rw [e]
    exact ⟨fun _ => q, fun e => absurd (Int32.le_refl _) e⟩
/-- what a line gives, what it gets back -/
def drC (I : Nat → Nat → Int32) (p l : Nat) (y : Nat → Int64) : Nat → Int64 :=
  vp_updL (vp_updL y (70 + l) (y (70 + l) + (if (I 12 l).toInt64 - y (70 + l) < (if (0 : Int64) < -(y p) then -(y p) else 0) then (I 12 l).toInt64 - y (70 + l) else (if (0 : Int64) < -(y p) then -(y p) else 0)))) p (y p + (if (I 12 l).toInt64 - y (70 + l) < (if (0 : Int64) < -(y p) then -(y p) else 0) then (I 12 l).toInt64 - y (70 + l) else (if (0 : Int64) < -(y p) then -(y p) else 0)))
def pbC (p l : Nat) (y : Nat → Int64) : Nat → Int64 :=
  vp_updL (vp_updL y (70 + l) (y (70 + l) - (if y (70 + l) < (if (0 : Int64) < y p then y p else 0) then y (70 + l) else (if (0 : Int64) < y p then y p else 0)))) p (y p - (if y (70 + l) < (if (0 : Int64) < y p then y p else 0) then y (70 + l) else (if (0 : Int64) < y p then y p else 0)))
theorem mem_cins {x y : Nat} : ∀ {l : List Nat}, y ∈ cins I x l ↔ y = x ∨ y ∈ l := by
  intro l
  induction l with
  | nil => simp [cins]
  | cons a l ih =>
    unfold cins
    split
    · rw [List.mem_cons, ih, List.mem_cons]
      constructor
      · rintro (h | h | h)
        · exact Or.inr (Or.inl h)
        · exact Or.inl h
        · exact Or.inr (Or.inr h)
      · rintro (h | h | h)
        · exact Or.inr (Or.inl h)
        · exact Or.inl h
        · exact Or.inr (Or.inr h)
    · rw [List.mem_cons]
theorem mem_crk {p y : Nat} : ∀ {L : Nat}, y ∈ crk I p L ↔ y < L ∧ pL I y = p := by
  intro L
  induction L with
  | zero => simp [crk]
  | succ L ih =>
    unfold crk
    split
    · rename_i c
      rw [mem_cins, ih]
      constructor
      · rintro (rfl | h)
        · exact ⟨by omega, c⟩
        · exact ⟨by omega, h.2⟩
      · intro h
        by_cases e : y = L
        · exact Or.inl e
        · exact Or.inr ⟨by omega, h.2⟩
    · rename_i c
      rw [ih]
      constructor
      · intro h; exact ⟨by omega, h.2⟩
      · intro h
        by_cases e : y = L
        · subst e; exact absurd h.2 c
        · exact ⟨by omega, h.2⟩
theorem c_drawMissing (h : cE ad nm A L F I) {zz : Nat → Int64} {p : Nat} (hp : cisp A I p) {Q : Unit → jM → Prop} (q : Q () (cM z ad nm A L F I (foldS (drC I p) (crk I p L) zz) K k μ0)) : wX6_drawMissing z (ad (10, p)) (some (ad (7, p))) (cM z ad nm A L F I zz K k μ0) Q := by
  have hA := h.2.1
  have hl : clv A I 13 p := Or.inr (Or.inr (Or.inr ⟨rfl, hp⟩))
  unfold wX6_drawMissing wX6_drawMissing_0
  intro v1 e1
  subst e1
  refine jforl (fun f j y => wX6_drawMissing_2 z (ad (10, p)) Q f (some (ad (7, p))) (nI j) (cM z ad nm A L F I y K k μ0)) (clist A L F I 13 p) (drC I p) zz ?_ ?_
  · intro f j l y hx _ hw
    show wX6_drawMissing_2_b z (ad (10, p)) Q (wX6_drawMissing_2 z (ad (10, p)) Q f) (some (ad (7, p))) (nI j) _
    unfold wX6_drawMissing_2_b
    have hlL := (mem_crk.mp (List.mem_of_getElem? hx)).1
    refine ⟨_, cg10_4 h.1 hp, _, ⟨rfl, c_lh h hl⟩, c_size h hl ⟨fun e => absurd e (lst_le hx (clist_len h.2)), fun _ => ⟨_, cg10_4 h.1 hp, _, ⟨rfl, c_lh h hl⟩, c_get h hl hx rfl ⟨cj20 h.1 hlL, _, cg7_8 h.1 hp.1, ?_⟩⟩⟩⟩
    intro v11 e11
    refine ⟨_, cg20_1 h.1 hlL, _, cg20_3 h.1 hlL, ?_⟩
    intro v14 e14
    refine ⟨_, cg20_3 h.1 hlL, _, cw20_3 h hlL, _, cg7_8 h.1 hp.1, _, cw7_8 h hp.1, ?_⟩
    intro v19 e19
    rw [e19, nI_1, e14, e11, pk_uLn (show p ≠ 70 + l by have := hp.1; omega)]
    exact hw
  · show wX6_drawMissing_2_b z (ad (10, p)) Q (wX6_drawMissing_2 z (ad (10, p)) Q 0) (some (ad (7, p))) _ _
    unfold wX6_drawMissing_2_b
    exact ⟨_, cg10_4 h.1 hp, _, ⟨rfl, c_lh h hl⟩, c_size h hl ⟨fun _ => q, fun e => absurd (Int32.le_refl _) e⟩⟩
theorem nI_neg1 : ∀ n : Nat, nI (n + 1) + -1 = nI n := fun n => by rw [← Int32.sub_eq_add_neg]; exact nI_pred n
theorem c_payBack (h : cE ad nm A L F I) {zz : Nat → Int64} {p : Nat} (hp : cisp A I p) {Q : Unit → jM → Prop} (q : Q () (cM z ad nm A L F I (foldS (pbC p) (crk I p L).reverse zz) K k μ0)) : wX6_payBack z (ad (10, p)) (some (ad (7, p))) (cM z ad nm A L F I zz K k μ0) Q := by
  have hA := h.2.1
  have hl : clv A I 13 p := Or.inr (Or.inr (Or.inr ⟨rfl, hp⟩))
  unfold wX6_payBack wX6_payBack_0
  refine ⟨_, cg10_4 h.1 hp, _, ⟨rfl, c_lh h hl⟩, c_size h hl ?_⟩
  intro v5 e5
  have main := jforr (fun f j y => wX6_payBack_10 z (ad (10, p)) Q f (some (ad (7, p))) (nI j - 1) (cM z ad nm A L F I y K k μ0)) (clist A L F I 13 p) (pbC p) zz (by
    intro f j l y hx hw
    show wX6_payBack_10_b z (ad (10, p)) Q (wX6_payBack_10 z (ad (10, p)) Q f) (some (ad (7, p))) (nI (j + 1) - 1) _
    unfold wX6_payBack_10_b
    rw [nI_pred]
    have hlL := (mem_crk.mp (List.mem_of_getElem? hx)).1
    have h20 := clist_len (q := 13) (j := p) h.2
    have hj := (List.getElem?_eq_some_iff.mp hx).1
    refine ⟨fun e => absurd e (nI_pos (by omega)), fun _ => ⟨_, cg10_4 h.1 hp, _, ⟨rfl, c_lh h hl⟩, c_get h hl hx rfl ⟨cj20 h.1 hlL, _, cg7_8 h.1 hp.1, _, cg20_3 h.1 hlL, ?_⟩⟩⟩
    intro v8 e8
    refine ⟨_, cg20_3 h.1 hlL, _, cw20_3 h hlL, _, cg7_8 h.1 hp.1, _, cw7_8 h hp.1, ?_⟩
    intro v13 e13
    rw [e13, ← Int32.sub_eq_add_neg, e8, pk_uLn (show p ≠ 70 + l by have := hp.1; omega)]
    exact hw) (by
    show wX6_payBack_10_b z (ad (10, p)) Q (wX6_payBack_10 z (ad (10, p)) Q 0) (some (ad (7, p))) _ _
    unfold wX6_payBack_10_b
    exact ⟨fun _ => q, fun e => absurd (by decide) e⟩)
  rw [e5]
  exact main
/-- a pool is covered, in the class's order -/
def cvC (L : Nat) (I : Nat → Nat → Int32) (p : Nat) (y : Nat → Int64) : Nat → Int64 := foldS (pbC p) (crk I p L).reverse (foldS (drC I p) (crk I p L) y)
theorem c_coverPools (h : cE ad nm A L F I) {zz : Nat → Int64} {Q : Unit → jM → Prop} (q : Q () (cM z ad nm A L F I (foldS (cvC L I) (ctops A I) zz) K k μ0)) : wX3_coverPools z (ad (1, 0)) (cM z ad nm A L F I zz K k μ0) Q := by
  have hl : clv A I 4 1 := Or.inl ⟨rfl, by decide⟩
  unfold wX3_coverPools wX3_coverPools_0
  intro v1 e1
  subst e1
  refine jforl (fun f j y => wX3_coverPools_2 z (ad (1, 0)) Q f (nI j) (cM z ad nm A L F I y K k μ0)) (clist A L F I 4 1) (cvC L I) zz ?_ ?_
  · intro f j t y hx _ hw
    show wX3_coverPools_2_b z (ad (1, 0)) Q (wX3_coverPools_2 z (ad (1, 0)) Q f) (nI j) _
    unfold wX3_coverPools_2_b
    have ht := mem_ctops.mp (List.mem_of_getElem? hx)
    have et : tI I t = t := by
      rcases h.2.2.2.2.2.2.1 t ht.1 with e | e
      · exact e.2
      · exact absurd ht.2 e.1
    refine ⟨_, cg1_1 h.1, _, ⟨rfl, c_lh h hl⟩, c_size h hl ⟨fun e => absurd e (lst_le hx (clist_len h.2)), fun _ => ⟨_, cg1_1 h.1, _, ⟨rfl, c_lh h hl⟩, c_get h hl hx rfl ⟨cj7 h.1 ht.1, _, cg7_2 h.1 ht.1, ?_⟩⟩⟩⟩
    rw [et]
    refine ⟨_, ⟨rfl, ch10 h.1 ht⟩, c_drawMissing h ht ⟨_, cg7_2 h.1 ht.1, ?_⟩⟩
    rw [et]
    refine ⟨_, ⟨rfl, ch10 h.1 ht⟩, c_payBack h ht ?_⟩
    intro v18 e18
    rw [e18, nI_1]
    exact hw
  · show wX3_coverPools_2_b z (ad (1, 0)) Q (wX3_coverPools_2 z (ad (1, 0)) Q 0) _ _
    unfold wX3_coverPools_2_b
    exact ⟨_, cg1_1 h.1, _, ⟨rfl, c_lh h hl⟩, c_size h hl ⟨fun _ => q, fun e => absurd (Int32.le_refl _) e⟩⟩
end FL
