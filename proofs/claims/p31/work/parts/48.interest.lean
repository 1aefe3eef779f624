/-! ===== the class: interest ===== -/
def wgS (I : Nat → Nat → Int32) (s x : Nat) (y : Nat → Int64) : Nat → Int64 := vp_updL y (sw1 s x) (y (sw1 s x) + (if (0 : Int64) < (sgS s).toInt64 * y x then (sgS s).toInt64 * y x else 0))
def acS (A : Nat) (I : Nat → Nat → Int32) (s : Nat) (T : Int64) (y : Nat → Int64) : Nat → Int64 :=
  if (0 : Int64) < (sgS s).toInt64 * T then foldS (wgS I s) (cmem A I (s / 2)) (vp_updL y (sz1 s) (y (sz1 s) + ((sgS s).toInt64 * T) * (srt I s).toInt64)) else y
def mbT (A : Nat) (I : Nat → Nat → Int32) (p : Nat) (y : Nat → Int64) : Int64 := foldS (fun x t => t + y x) (cmem A I p) 0
def acP (A : Nat) (I : Nat → Nat → Int32) (p : Nat) (y : Nat → Int64) : Nat → Int64 := acS A I (2 * p + 1) (mbT A I p y) (acS A I (2 * p) (mbT A I p y) y)
section IN
variable {z : Nat × Nat} {ad : Nat × Nat → Nat} {nm : Nat → Nat × Nat} {A L F : Nat} {I : Nat → Nat → Int32} {K : Nat → Nat → Int64} {k : Nat → Nat → Int32} {μ0 : jM}
theorem cmem_10 (h : cE ad nm A L F I) {p : Nat} : (cmem A I p).length ≤ 10 := by
  have hA := h.2.1
  unfold cmem
  exact Nat.le_trans (List.length_filter_le _ _) (by rw [List.length_range]; exact hA)
theorem cwt_s {zz : Nat → Int64} {s i x : Nat} (hx : (cmem A I (s / 2))[i]? = some x) : cwt A I zz s i = zz (sw1 s x) := by
  unfold cwt
  rw [hx]
theorem c_sideAccrue_last (h : cE ad nm A L F I) {zz : Nat → Int64} {s : Nat} (hp : cisp A I (s / 2)) {Q : Unit → jM → Prop} (q : Q () (cM z ad nm A L F I zz K k μ0)) : wX7_accrue_37 z (ad (15, s)) Q 1 (some (ad (11, s / 2))) (nI (cmem A I (s / 2)).length) (cM z ad nm A L F I zz K k μ0) := by
  have hl : clv A I 11 (s / 2) := Or.inr (Or.inr (Or.inl ⟨rfl, hp⟩))
  show wX7_accrue_37_b z (ad (15, s)) Q (wX7_accrue_37 z (ad (15, s)) Q 0) (some (ad (11, s / 2))) _ _
  unfold wX7_accrue_37_b
  exact ⟨_, ⟨rfl, c_lh h hl⟩, c_size h hl ⟨fun _ => q, fun e => absurd (Int32.le_refl _) e⟩⟩
theorem c_sideAccrue (h : cE ad nm A L F I) {zz : Nat → Int64} {s p : Nat} (hs : s / 2 = p) (hp : cisp A I p) {T : Int64} {Q : Unit → jM → Prop} (q : Q () (cM z ad nm A L F I (acS A I s T zz) K k μ0)) : wX7_accrue z (ad (15, s)) T (some (ad (11, p))) (cM z ad nm A L F I zz K k μ0) Q := by
  subst hs
  have hA := h.2.1
  have hl : clv A I 11 (s / 2) := Or.inr (Or.inr (Or.inl ⟨rfl, hp⟩))
  unfold wX7_accrue wX7_accrue_0
  refine ⟨_, cg15_1 h.1 hp, ?_⟩
  intro v2 e2
  unfold acS at q
  refine ⟨fun c => ⟨_, cg15_2 h.1 hp, _, cg15_0 h.1 hp, _, cw15_2 h hp, ?_⟩, fun c => ?_⟩
  · rw [e2] at c
    rw [if_pos c] at q
    intro v6 e6
    rw [e6, e2]
    refine jforl (fun f j y => wX7_accrue_37 z (ad (15, s)) Q f (some (ad (11, s / 2))) (nI j) (cM z ad nm A L F I y K k μ0)) (clist A L F I 11 (s / 2)) (wgS I s) _ ?_ (c_sideAccrue_last h hp q)
    intro f j x y hx _ hw
    show wX7_accrue_37_b z (ad (15, s)) Q (wX7_accrue_37 z (ad (15, s)) Q f) (some (ad (11, s / 2))) (nI j) _
    unfold wX7_accrue_37_b
    have hj : j < 10 := Nat.lt_of_lt_of_le (List.getElem?_eq_some_iff.mp hx).1 (cmem_10 h)
    obtain ⟨hxA, hxt⟩ := mem_cmem.mp (List.mem_of_getElem? hx)
    refine ⟨_, ⟨rfl, c_lh h hl⟩, c_size h hl ⟨fun e => absurd e (lst_le hx (clist_len h.2)), fun _ => ⟨_, cg15_4 h.1 hp, 10, jal_at (ca16 h.1 hp) (by decide), fun e => absurd (show nI 10 ≤ nI j from e) (nI_ge hj (by decide)), fun _ => ⟨_, cg15_4 h.1 hp, _, cr16 h.1 hp hj rfl, _, cg15_1 h.1 hp, _, ⟨rfl, c_lh h hl⟩, c_get h hl hx rfl ⟨cj7 h.1 hxA, _, cg7_8 h.1 hxA, _, cw16 h hp hj rfl hx, ?_⟩⟩⟩⟩⟩
    intro v15 e15
    rw [e15, nI_1, cwt_s hx]
    exact hw
  · rw [e2] at c
    rw [if_neg c] at q
    exact q
theorem c_poolAccrue (h : cE ad nm A L F I) {zz : Nat → Int64} {p : Nat} (hp : cisp A I p) {Q : Unit → jM → Prop} (q : Q () (cM z ad nm A L F I (acP A I p zz) K k μ0)) : wX6_accrue z (ad (10, p)) (cM z ad nm A L F I zz K k μ0) Q := by
  have hl : clv A I 11 p := Or.inr (Or.inr (Or.inl ⟨rfl, hp⟩))
  have e20 : (2 * p) / 2 = p := by omega
  have e21 : (2 * p + 1) / 2 = p := by omega
  unfold wX6_accrue wX6_accrue_0
  intro v1 e1 v2 e2
  subst e1 e2
  refine jforl (fun f j t => wX6_accrue_4 z (ad (10, p)) Q f t (nI j) (cM z ad nm A L F I zz K k μ0)) (clist A L F I 11 p) (fun x t => t + zz x) 0 ?_ ?_
  · intro f j x t hx _ hw
    show wX6_accrue_4_b z (ad (10, p)) Q (wX6_accrue_4 z (ad (10, p)) Q f) t (nI j) _
    unfold wX6_accrue_4_b
    obtain ⟨hxA, hxt⟩ := mem_cmem.mp (List.mem_of_getElem? hx)
    refine ⟨_, cg10_3 h.1 hp, _, ⟨rfl, c_lh h hl⟩, c_size h hl ⟨fun e => absurd e (lst_le hx (clist_len h.2)), fun _ => ⟨_, cg10_3 h.1 hp, _, ⟨rfl, c_lh h hl⟩, c_get h hl hx rfl ⟨cj7 h.1 hxA, _, cg7_8 h.1 hxA, ?_⟩⟩⟩⟩
    intro v21 e21 v22 e22
    rw [e21, e22, nI_1]
    exact hw
  · show wX6_accrue_4_b z (ad (10, p)) Q (wX6_accrue_4 z (ad (10, p)) Q 0) _ _ _
    unfold wX6_accrue_4_b
    refine ⟨_, cg10_3 h.1 hp, _, ⟨rfl, c_lh h hl⟩, c_size h hl ⟨fun _ => ⟨_, cg10_1 h.1 hp, _, cg10_3 h.1 hp, _, ⟨rfl, ch15 h.1 (show cisp A I (2 * p / 2) by rw [e20]; exact hp)⟩, c_sideAccrue h e20 hp ⟨_, cg10_2 h.1 hp, _, cg10_3 h.1 hp, _, ⟨rfl, ch15 h.1 (show cisp A I ((2 * p + 1) / 2) by rw [e21]; exact hp)⟩, c_sideAccrue h e21 hp q⟩⟩, fun e => absurd (Int32.le_refl _) e⟩⟩
theorem c_lineAccrue (h : cE ad nm A L F I) {zz : Nat → Int64} {l : Nat} (hl : l < L) {Q : Unit → jM → Prop} (q : Q () (cM z ad nm A L F I (linS I l zz) K k μ0)) : wX5_accrue z (ad (20, l)) (cM z ad nm A L F I zz K k μ0) Q := by
  unfold wX5_accrue wX5_accrue_0
  exact ⟨_, cg20_5 h.1 hl, _, cg20_3 h.1 hl, _, cg20_2 h.1 hl, _, cw20_5 h hl, q⟩
theorem cE.self (h : cE ad nm A L F I) {t : Nat} (ht : cisp A I t) : tI I t = t := by
  rcases h.2.2.2.2.2.2.1 t ht.1 with e | e
  · exact e.2
  · exact absurd ht.2 e.1
theorem c_accrueInterest (h : cE ad nm A L F I) {zz : Nat → Int64} {Q : Unit → jM → Prop} (q : Q () (cM z ad nm A L F I (itr (linS I) L (foldS (acP A I) (ctops A I) zz)) K k μ0)) : wX3_accrueInterest z (ad (1, 0)) (cM z ad nm A L F I zz K k μ0) Q := by
  have hl1 : clv A I 4 1 := Or.inl ⟨rfl, by decide⟩
  have hl2 : clv A I 4 2 := Or.inl ⟨rfl, by decide⟩
  unfold wX3_accrueInterest wX3_accrueInterest_0
  intro v1 e1
  subst e1
  refine jforl (fun f j y => wX3_accrueInterest_2 z (ad (1, 0)) Q f (nI j) (cM z ad nm A L F I y K k μ0)) (clist A L F I 4 1) (acP A I) zz ?_ ?_
  · intro f j t y hx _ hw
    show wX3_accrueInterest_2_b z (ad (1, 0)) Q (wX3_accrueInterest_2 z (ad (1, 0)) Q f) (nI j) _
    unfold wX3_accrueInterest_2_b
    have ht := mem_ctops.mp (List.mem_of_getElem? hx)
    refine ⟨_, cg1_1 h.1, _, ⟨rfl, c_lh h hl1⟩, c_size h hl1 ⟨fun e => absurd e (lst_le hx (clist_len h.2)), fun _ => ⟨_, cg1_1 h.1, _, ⟨rfl, c_lh h hl1⟩, c_get h hl1 hx rfl ⟨cj7 h.1 ht.1, _, cg7_2 h.1 ht.1, ?_⟩⟩⟩⟩
    rw [h.self ht]
    refine ⟨_, ⟨rfl, ch10 h.1 ht⟩, c_poolAccrue h ht ?_⟩
    intro v16 e16
    rw [e16, nI_1]
    exact hw
  · show wX3_accrueInterest_2_b z (ad (1, 0)) Q (wX3_accrueInterest_2 z (ad (1, 0)) Q 0) _ _
    unfold wX3_accrueInterest_2_b
    have hq : Q () (cM z ad nm A L F I (itr (linS I) L (foldS (acP A I) (clist A L F I 4 1) zz)) K k μ0) := q
    generalize foldS (acP A I) (clist A L F I 4 1) zz = y0 at hq ⊢
    refine ⟨_, cg1_1 h.1, _, ⟨rfl, c_lh h hl1⟩, c_size h hl1 ⟨fun _ => ?_, fun e => absurd (Int32.le_refl _) e⟩⟩
    intro v5 e5
    subst e5
    refine jfor (fun f j y => wX3_accrueInterest_38 z (ad (1, 0)) Q f (nI j) (cM z ad nm A L F I y K k μ0)) L (linS I) y0 ?_ ?_
    · intro f j hj hw
      have hw : wX3_accrueInterest_38 z (ad (1, 0)) Q f (nI (j + 1)) (cM z ad nm A L F I (linS I j (itr (linS I) j y0)) K k μ0) := hw
      generalize itr (linS I) j y0 = y at hw ⊢
      show wX3_accrueInterest_38_b z (ad (1, 0)) Q (wX3_accrueInterest_38 z (ad (1, 0)) Q f) (nI j) _
      unfold wX3_accrueInterest_38_b
      have hx : (clist A L F I 4 2)[j]? = some j := by
        show (List.range L)[j]? = some j
        exact List.getElem?_range hj
      refine ⟨_, cg1_2 h.1, _, ⟨rfl, c_lh h hl2⟩, c_size h hl2 ⟨fun e => absurd e (lst_le hx (clist_len h.2)), fun _ => ⟨_, cg1_2 h.1, _, ⟨rfl, c_lh h hl2⟩, c_get h hl2 hx rfl ⟨cj20 h.1 hj, _, ⟨rfl, ch20 h.1 hj⟩, c_lineAccrue h hj ?_⟩⟩⟩⟩
      intro v13 e13
      rw [e13, nI_1]
      exact hw
    · show wX3_accrueInterest_38_b z (ad (1, 0)) Q (wX3_accrueInterest_38 z (ad (1, 0)) Q 0) (nI L) _
      unfold wX3_accrueInterest_38_b
      refine ⟨_, cg1_2 h.1, _, ⟨rfl, c_lh h hl2⟩, c_size h hl2 ?_⟩
      have e : (clist A L F I 4 2).length = L := List.length_range
      rw [e]
      exact ⟨fun _ => hq, fun e => absurd (Int32.le_refl _) e⟩
/-! shares and remainders: scratch rows of a side -/
def sK (K : Nat → Nat → Int64) (s : Nat) (sh rm : Nat → Int64) : Nat → Nat → Int64 := fun a => if a = 100 + s then sh else if a = 200 + s then rm else K a
theorem sK_id {s : Nat} : sK K s (K (100 + s)) (K (200 + s)) = K := by
  funext a
  unfold sK
  split
  · rename_i e; rw [e]
  split
  · rename_i e; rw [e]
  · rfl
theorem sK_1 {s : Nat} {sh rm : Nat → Int64} : sK K s sh rm (100 + s) = sh := if_pos rfl
theorem sK_2 {s : Nat} {sh rm : Nat → Int64} : sK K s sh rm (200 + s) = rm := (if_neg (by omega)).trans (if_pos rfl)
theorem sK_o {s a : Nat} {sh rm : Nat → Int64} (h1 : a ≠ 100 + s) (h2 : a ≠ 200 + s) : sK K s sh rm a = K a := (if_neg h1).trans (if_neg h2)
theorem sK_u1 {s i : Nat} {v : Int64} {sh rm : Nat → Int64} : upK (sK K s sh rm) (100 + s) i v = sK K s (vp_updL sh i v) rm := by
  refine upK_eq ?_ ?_
  · rw [sK_1]; exact pk_uLs
  · intro a b hne
    by_cases e : a = 100 + s
    · subst e
      rw [sK_1, sK_1, pk_uLn (fun w => hne ⟨rfl, w⟩)]
    · unfold sK
      rw [if_neg e, if_neg e]
theorem sK_u2 {s i : Nat} {v : Int64} {sh rm : Nat → Int64} : upK (sK K s sh rm) (200 + s) i v = sK K s sh (vp_updL rm i v) := by
  refine upK_eq ?_ ?_
  · rw [sK_2]; exact pk_uLs
  · intro a b hne
    by_cases e : a = 200 + s
    · subst e
      rw [sK_2, sK_2, pk_uLn (fun w => hne ⟨rfl, w⟩)]
    · unfold sK
      rw [if_neg e, if_neg e]
def gcR (s : (Nat → Int64) × (Nat → Int64)) : (Nat → Int64) × (Nat → Int64) := (vp_updL s.1 (mostF s.2 10) (s.1 (mostF s.2 10) + 1), vp_updL s.2 (mostF s.2 10) (-1))
def gcN (c : Int64) : Nat := min 10 c.toInt.toNat
def spS (w : Nat → Int64) (amt all : Int64) (i : Nat) (t : (Nat → Int64) × (Nat → Int64) × Int64) : (Nat → Int64) × (Nat → Int64) × Int64 :=
  (vp_updL t.1 i (amt * w i / all), vp_updL t.2.1 i (amt * w i - amt * w i / all * all), t.2.2 - amt * w i / all)
def zrF (sh : Nat → Int64) : Nat → Int64 := itr (fun i s => vp_updL s i 0) 10 sh
def splC (w : Nat → Int64) (amt : Int64) (sh rm : Nat → Int64) : (Nat → Int64) × (Nat → Int64) :=
  if (0 : Int64) < itr (fun i s => s + w i) 10 0 then
    itr (fun _ s => gcR s) (gcN (itr (spS w amt (itr (fun i s => s + w i) 10 0)) 10 (zrF sh, rm, amt)).2.2) ((itr (spS w amt (itr (fun i s => s + w i) 10 0)) 10 (zrF sh, rm, amt)).1, (itr (spS w amt (itr (fun i s => s + w i) 10 0)) 10 (zrF sh, rm, amt)).2.1)
  else (zrF sh, rm)
theorem c_giveCents (h : cE ad nm A L F I) {zz : Nat → Int64} {s : Nat} (hp : cisp A I (s / 2)) {c : Int64} {sh rm : Nat → Int64} {Q : Unit → jM → Prop} (q : Q () (cM z ad nm A L F I zz (sK K s (itr (fun _ s => gcR s) (gcN c) (sh, rm)).1 (itr (fun _ s => gcR s) (gcN c) (sh, rm)).2) k μ0)) : wX7_giveCents z (ad (15, s)) c (cM z ad nm A L F I zz (sK K s sh rm) k μ0) Q := by
  unfold wX7_giveCents wX7_giveCents_0
  intro v1 e1
  subst e1
  have hN : gcN c ≤ 10 := Nat.min_le_left _ _
  refine jfor (fun f j t => wX7_giveCents_2 z (ad (15, s)) Q f c (nI j) (cM z ad nm A L F I zz (sK K s t.1 t.2) k μ0)) (gcN c) (fun _ s => gcR s) (sh, rm) ?_ ?_
  · intro f j hj hw
    have hw : wX7_giveCents_2 z (ad (15, s)) Q f c (nI (j + 1)) (cM z ad nm A L F I zz (sK K s (gcR (itr (fun _ s => gcR s) j (sh, rm))).1 (gcR (itr (fun _ s => gcR s) j (sh, rm))).2) k μ0) := hw
    generalize itr (fun _ s => gcR s) j (sh, rm) = t at hw ⊢
    obtain ⟨sh1, rm1⟩ := t
    show wX7_giveCents_2_b z (ad (15, s)) Q (wX7_giveCents_2 z (ad (15, s)) Q f) c (nI j) _
    unfold wX7_giveCents_2_b
    have hjc : (j : Int) < c.toInt := by
      have : j < c.toInt.toNat := Nat.lt_of_lt_of_le hj (Nat.min_le_right _ _)
      omega
    refine ⟨fun e => ?_, fun _ => ⟨_, cg15_5 h.1 hp, 10, jal_at (ca17 h.1 hp) (by decide), fun e => absurd (show nI 10 ≤ nI j from e) (nI_ge (by omega) (by decide)), fun _ => ?_⟩⟩
    · rw [nI_l (by omega), Int64.le_iff_toInt_le, lN_toInt (by omega)] at e
      omega
    intro v3 e3 v4 e4
    subst e3 e4
    refine jfor (fun f2 i o => wX7_giveCents_24 z (ad (15, s)) (wX7_giveCents_2 z (ad (15, s)) Q f) Q f2 c (nI j) (nI o) (nI (i + 1)) (cM z ad nm A L F I zz (sK K s sh1 rm1) k μ0)) 9 (fun k o => if rm1 o < rm1 (k + 1) then k + 1 else o) 0 ?_ ?_
    · intro f2 i hi hw2
      have ho : itr (fun k o => if rm1 o < rm1 (k + 1) then k + 1 else o) i 0 < 10 := by
        have := mostF_lt (l := rm1) (A := i + 1) (by omega)
        unfold mostF at this
        rw [Nat.add_sub_cancel] at this
        omega
      have hw2 : wX7_giveCents_24 z (ad (15, s)) (wX7_giveCents_2 z (ad (15, s)) Q f) Q f2 c (nI j) (nI (if rm1 (itr (fun k o => if rm1 o < rm1 (k + 1) then k + 1 else o) i 0) < rm1 (i + 1) then i + 1 else (itr (fun k o => if rm1 o < rm1 (k + 1) then k + 1 else o) i 0))) (nI (i + 1 + 1)) (cM z ad nm A L F I zz (sK K s sh1 rm1) k μ0) := hw2
      generalize itr (fun k o => if rm1 o < rm1 (k + 1) then k + 1 else o) i 0 = o at hw2 ho ⊢
      show wX7_giveCents_24_b z (ad (15, s)) (wX7_giveCents_2 z (ad (15, s)) Q f) Q (wX7_giveCents_24 z (ad (15, s)) (wX7_giveCents_2 z (ad (15, s)) Q f) Q f2) c (nI j) (nI o) (nI (i + 1)) _
      unfold wX7_giveCents_24_b
      refine ⟨_, cg15_6 h.1 hp, 10, jal_at (ca18 h.1 hp) (by decide), fun e => absurd (show nI 10 ≤ nI (i + 1) from e) (nI_ge (by omega) (by decide)), fun _ => ⟨_, cg15_6 h.1 hp, _, cr18 h.1 hp (show i + 1 < 10 by omega) rfl, _, cg15_6 h.1 hp, _, cr18 h.1 hp ho rfl, fun e => ?_, fun e => ?_⟩⟩
      · intro v13 e13
        rw [sK_2] at e
        rw [if_neg (Int64.not_lt.mpr e)] at hw2
        rw [e13, nI_1]
        exact hw2
      · intro v14 e14
        rw [sK_2] at e
        rw [if_pos (Int64.not_le.mp e)] at hw2
        rw [e14, nI_1]
        exact hw2
    · show wX7_giveCents_24_b z (ad (15, s)) (wX7_giveCents_2 z (ad (15, s)) Q f) Q (wX7_giveCents_24 z (ad (15, s)) (wX7_giveCents_2 z (ad (15, s)) Q f) Q 0) c (nI j) (nI (mostF rm1 10)) (nI (9 + 1)) _
      unfold wX7_giveCents_24_b
      have hb : mostF rm1 10 < 10 := mostF_lt (by omega)
      refine ⟨_, cg15_6 h.1 hp, 10, jal_at (ca18 h.1 hp) (by decide), fun _ => ⟨_, cg15_5 h.1 hp, _, cr17 h.1 hp hb rfl, _, cw17 h hp hb rfl, ?_⟩, fun e => absurd (show nI 10 ≤ nI 10 from Int32.le_refl _) e⟩
      rw [sK_u1]
      refine ⟨_, cg15_6 h.1 hp, _, cw18 h hp hb rfl, ?_⟩
      rw [sK_u2, sK_1]
      intro v8 e8
      rw [e8, nI_1]
      exact hw
  · generalize itr (fun _ s => gcR s) (gcN c) (sh, rm) = t at q ⊢
    show wX7_giveCents_2_b z (ad (15, s)) Q (wX7_giveCents_2 z (ad (15, s)) Q 0) c (nI (gcN c)) _
    unfold wX7_giveCents_2_b
    refine ⟨fun _ => q, fun e => ⟨_, cg15_5 h.1 hp, 10, jal_at (ca17 h.1 hp) (by decide), fun _ => q, fun e2 => ?_⟩⟩
    rw [nI_l (by omega), Int64.le_iff_toInt_le, lN_toInt (by omega)] at e
    have h10 : gcN c = 10 := by
      unfold gcN at e ⊢
      omega
    exact absurd (show nI 10 ≤ nI (gcN c) by rw [h10]; exact Int32.le_refl _) e2
theorem c_split (h : cE ad nm A L F I) {zz : Nat → Int64} {s : Nat} (hp : cisp A I (s / 2)) {amt : Int64} {Q : Unit → jM → Prop} (q : Q () (cM z ad nm A L F I zz (sK K s (splC (cwt A I zz s) amt (K (100 + s)) (K (200 + s))).1 (splC (cwt A I zz s) amt (K (100 + s)) (K (200 + s))).2) k μ0)) : wX7_split z (ad (15, s)) amt (cM z ad nm A L F I zz K k μ0) Q := by
  unfold wX7_split wX7_split_0
  intro v1 e1 v2 e2
  subst e1 e2
  have e0 : cM z ad nm A L F I zz K k μ0 = cM z ad nm A L F I zz (sK K s (K (100 + s)) (K (200 + s))) k μ0 := by rw [sK_id]
  rw [e0]
  generalize hsh : K (100 + s) = sh at q ⊢
  generalize hrm : K (200 + s) = rm at q ⊢
  generalize hw : cwt A I zz s = w at q
  refine jfor (fun f j t => wX7_split_5 z (ad (15, s)) Q f amt t.1 (nI j) (cM z ad nm A L F I zz (sK K s t.2 rm) k μ0)) 10 (fun i t => (t.1 + w i, vp_updL t.2 i 0)) (0, sh) ?_ ?_
  · intro f j hj hw1
    have hw1 : wX7_split_5 z (ad (15, s)) Q f amt ((itr (fun i t => (t.1 + w i, vp_updL t.2 i 0)) j ((0 : Int64), sh)).1 + w j) (nI (j + 1)) (cM z ad nm A L F I zz (sK K s (vp_updL (itr (fun i t => (t.1 + w i, vp_updL t.2 i 0)) j ((0 : Int64), sh)).2 j 0) rm) k μ0) := hw1
    generalize itr (fun i t => (t.1 + w i, vp_updL t.2 i 0)) j ((0 : Int64), sh) = t at hw1 ⊢
    show wX7_split_5_b z (ad (15, s)) Q (wX7_split_5 z (ad (15, s)) Q f) amt t.1 (nI j) _
    unfold wX7_split_5_b
    refine ⟨_, cg15_4 h.1 hp, 10, jal_at (ca16 h.1 hp) (by decide), fun e => absurd (show nI 10 ≤ nI j from e) (nI_ge hj (by decide)), fun _ => ⟨_, cg15_4 h.1 hp, _, cr16 h.1 hp hj rfl, ?_⟩⟩
    intro v7 e7
    refine ⟨_, cg15_5 h.1 hp, _, cw17 h hp hj rfl, ?_⟩
    intro v10 e10
    rw [e10, nI_1, e7, sK_u1, hw]
    exact hw1
  · have ep : ∀ n, itr (fun i t => (t.1 + w i, vp_updL t.2 i 0)) n ((0 : Int64), sh) = (itr (fun i s => s + w i) n 0, itr (fun i s => vp_updL s i 0) n sh) := by
      intro n
      induction n with
      | zero => rfl
      | succ n ih =>
        show ((itr (fun i t => (t.1 + w i, vp_updL t.2 i 0)) n ((0 : Int64), sh)).1 + w n, vp_updL (itr (fun i t => (t.1 + w i, vp_updL t.2 i 0)) n ((0 : Int64), sh)).2 n 0) = _
        rw [ih]
        rfl
    rw [ep]
    show wX7_split_5_b z (ad (15, s)) Q (wX7_split_5 z (ad (15, s)) Q 0) amt (itr (fun i s => s + w i) 10 0) (nI 10) (cM z ad nm A L F I zz (sK K s (zrF sh) rm) k μ0)
    unfold wX7_split_5_b
    unfold splC at q
    generalize itr (fun i s => s + w i) 10 0 = all at q ⊢
    generalize zrF sh = sh0 at q ⊢
    refine ⟨_, cg15_4 h.1 hp, 10, jal_at (ca16 h.1 hp) (by decide), fun _ => ⟨fun c => ?_, fun c => ?_⟩, fun e => absurd (show nI 10 ≤ nI 10 from Int32.le_refl _) e⟩
    · rw [if_pos c] at q
      have hne : ¬ all = 0 := fun e => by rw [e] at c; exact absurd c (by decide)
      intro v3 e3
      subst e3
      refine jfor (fun f j t => wX7_split_52 z (ad (15, s)) Q f amt all t.2.2 (nI j) (cM z ad nm A L F I zz (sK K s t.1 t.2.1) k μ0)) 10 (spS w amt all) (sh0, rm, amt) ?_ ?_
      · intro f j hj hw1
        have hw1 : wX7_split_52 z (ad (15, s)) Q f amt all (spS w amt all j (itr (spS w amt all) j (sh0, rm, amt))).2.2 (nI (j + 1)) (cM z ad nm A L F I zz (sK K s (spS w amt all j (itr (spS w amt all) j (sh0, rm, amt))).1 (spS w amt all j (itr (spS w amt all) j (sh0, rm, amt))).2.1) k μ0) := hw1
        generalize itr (spS w amt all) j (sh0, rm, amt) = t at hw1 ⊢
        obtain ⟨t1, t2, t3⟩ := t
        show wX7_split_52_b z (ad (15, s)) Q (wX7_split_52 z (ad (15, s)) Q f) amt all t3 (nI j) (cM z ad nm A L F I zz (sK K s t1 t2) k μ0)
        unfold wX7_split_52_b
        refine ⟨_, cg15_4 h.1 hp, 10, jal_at (ca16 h.1 hp) (by decide), fun e => absurd (show nI 10 ≤ nI j from e) (nI_ge hj (by decide)), fun _ => ⟨_, cg15_4 h.1 hp, _, cr16 h.1 hp hj rfl, ?_⟩⟩
        intro v7 e7
        rw [hw] at e7
        refine ⟨_, cg15_5 h.1 hp, hne, _, cw17 h hp hj rfl, ?_⟩
        rw [sK_u1]
        refine ⟨_, cg15_6 h.1 hp, hne, _, cw18 h hp hj rfl, ?_⟩
        rw [sK_u2]
        refine ⟨_, cg15_5 h.1 hp, _, cr17 h.1 hp hj rfl, ?_⟩
        rw [sK_1, pk_uLs]
        intro v16 e16 v17 e17
        rw [e17, nI_1, e16, e7]
        exact hw1
      · generalize itr (spS w amt all) 10 (sh0, rm, amt) = t at q ⊢
        obtain ⟨t1, t2, t3⟩ := t
        show wX7_split_52_b z (ad (15, s)) Q (wX7_split_52 z (ad (15, s)) Q 0) amt all t3 (nI 10) (cM z ad nm A L F I zz (sK K s t1 t2) k μ0)
        unfold wX7_split_52_b
        exact ⟨_, cg15_4 h.1 hp, 10, jal_at (ca16 h.1 hp) (by decide), fun _ => ⟨ch15 h.1 hp, c_giveCents h hp q⟩, fun e => absurd (show nI 10 ≤ nI 10 from Int32.le_refl _) e⟩
    · rw [if_neg c] at q
      exact q
def bkT (A : Nat) (I : Nat → Nat → Int32) (s : Nat) (sh : Nat → Int64) (i : Nat) (y : Nat → Int64) : Nat → Int64 := match (cmem A I (s / 2))[i]? with
  | some x => vp_updL (getsF x ((sgS s).toInt64 * sh i) y) (sw1 s x) 0
  | none => y
def bkY (s : Nat) (y : Nat → Int64) : Nat → Int64 := vp_updL y (sz1 s) (y (sz1 s) - y (sz1 s) / 3600000 * 3600000)
def bkK (s : Nat) (y : Nat → Int64) (K : Nat → Nat → Int64) : Nat → Nat → Int64 := upK K 4 s (K 4 s + y (sz1 s) / 3600000)
def bkR (A : Nat) (I : Nat → Nat → Int32) (s : Nat) (t : (Nat → Int64) × (Nat → Nat → Int64)) : (Nat → Int64) × (Nat → Int64) := splC (cwt A I (bkY s t.1) s) (t.1 (sz1 s) / 3600000) (bkK s t.1 t.2 (100 + s)) (bkK s t.1 t.2 (200 + s))
def bkSide (A : Nat) (I : Nat → Nat → Int32) (s : Nat) (t : (Nat → Int64) × (Nat → Nat → Int64)) : (Nat → Int64) × (Nat → Nat → Int64) :=
  (itr (bkT A I s (bkR A I s t).1) 10 (bkY s t.1), sK (bkK s t.1 t.2) s (bkR A I s t).1 (bkR A I s t).2)
theorem c_addInterest (h : cE ad nm A L F I) {zz : Nat → Int64} {i : Nat} (hi : i < A) {v : Int64} {Q : Unit → jM → Prop} (q : Q () (cM z ad nm A L F I (getsF i v zz) K k μ0)) : wX0_addInterest z (ad (7, i)) v (cM z ad nm A L F I zz K k μ0) Q := by
  unfold wX0_addInterest wX0_addInterest_0
  refine ⟨_, cg7_8 h.1 hi, _, cw7_8 h hi, _, cg7_9 h.1 hi, _, cw7_9 h hi, ?_⟩
  rw [pk_uLn (show 50 + i ≠ i by omega)]
  exact q
theorem c_bookTo (h : cE ad nm A L F I) {zz : Nat → Int64} {s p : Nat} (hs : s / 2 = p) (hp : cisp A I p) {Q : Unit → jM → Prop} (q : Q () (cM z ad nm A L F I (bkSide A I s (zz, K)).1 (bkSide A I s (zz, K)).2 k μ0)) : wX7_bookTo z (ad (15, s)) (some (ad (11, p))) (cM z ad nm A L F I zz K k μ0) Q := by
  subst hs
  have hl : clv A I 11 (s / 2) := Or.inr (Or.inr (Or.inl ⟨rfl, hp⟩))
  unfold wX7_bookTo wX7_bookTo_0
  refine ⟨_, cg15_2 h.1 hp, ?_⟩
  intro v2 e2
  refine ⟨_, cg15_2 h.1 hp, _, cw15_2 h hp, _, cg15_3 h.1 hp, _, cw15_3 h hp, ch15 h.1 hp, ?_⟩
  rw [e2]
  refine c_split h hp ?_
  intro v9 e9
  subst e9
  unfold bkSide at q
  have q2 : Q () (cM z ad nm A L F I (itr (bkT A I s (bkR A I s (zz, K)).1) 10 (bkY s zz)) (sK (bkK s zz K) s (bkR A I s (zz, K)).1 (bkR A I s (zz, K)).2) k μ0) := q
  show ∃ n10, wX7_bookTo_41 z (ad (15, s)) Q n10 (some (ad (11, s / 2))) (nI 0) (cM z ad nm A L F I (bkY s zz) (sK (bkK s zz K) s (bkR A I s (zz, K)).1 (bkR A I s (zz, K)).2) k μ0)
  generalize bkR A I s (zz, K) = r at q2 ⊢
  generalize bkK s zz K = K1 at q2 ⊢
  generalize bkY s zz = y0 at q2 ⊢
  refine jfor (fun f j y => wX7_bookTo_41 z (ad (15, s)) Q f (some (ad (11, s / 2))) (nI j) (cM z ad nm A L F I y (sK K1 s r.1 r.2) k μ0)) 10 (bkT A I s r.1) y0 ?_ ?_
  · intro f j hj hw
    have hw : wX7_bookTo_41 z (ad (15, s)) Q f (some (ad (11, s / 2))) (nI (j + 1)) (cM z ad nm A L F I (bkT A I s r.1 j (itr (bkT A I s r.1) j y0)) (sK K1 s r.1 r.2) k μ0) := hw
    generalize itr (bkT A I s r.1) j y0 = y at hw ⊢
    show wX7_bookTo_41_b z (ad (15, s)) Q (wX7_bookTo_41 z (ad (15, s)) Q f) (some (ad (11, s / 2))) (nI j) _
    unfold wX7_bookTo_41_b
    unfold bkT at hw
    refine ⟨_, cg15_4 h.1 hp, 10, jal_at (ca16 h.1 hp) (by decide), fun e => absurd (show nI 10 ≤ nI j from e) (nI_ge hj (by decide)), fun _ => ⟨_, ⟨rfl, c_lh h hl⟩, c_size h hl ?_⟩⟩
    cases hx : (cmem A I (s / 2))[j]? with
    | none =>
      rw [hx] at hw
      have hge : (cmem A I (s / 2)).length ≤ j := List.getElem?_eq_none_iff.mp hx
      refine ⟨fun _ => ⟨_, cg15_4 h.1 hp, _, cw16n h hp hj rfl hx, ?_⟩, fun e => absurd (nI_le hge (by omega)) e⟩
      intro v8 e8
      rw [e8, nI_1]
      exact hw
    | some x =>
      rw [hx] at hw
      obtain ⟨hxA, hxt⟩ := mem_cmem.mp (List.mem_of_getElem? hx)
      refine ⟨fun e => absurd e (lst_le (l := clist A L F I 11 (s / 2)) hx (clist_len h.2)), fun _ => ⟨_, ⟨rfl, c_lh h hl⟩, c_get h hl hx rfl ⟨cj7 h.1 hxA, _, cg15_1 h.1 hp, _, cg15_5 h.1 hp, _, cr17 h.1 hp hj rfl, _, ⟨rfl, ch7 h.1 hxA⟩, c_addInterest h hxA ⟨_, cg15_4 h.1 hp, _, cw16 h hp hj rfl hx, ?_⟩⟩⟩⟩
      intro v21 e21
      rw [e21, nI_1, sK_1]
      exact hw
  · generalize itr (bkT A I s r.1) 10 y0 = y at q2 ⊢
    show wX7_bookTo_41_b z (ad (15, s)) Q (wX7_bookTo_41 z (ad (15, s)) Q 0) (some (ad (11, s / 2))) (nI 10) _
    unfold wX7_bookTo_41_b
    exact ⟨_, cg15_4 h.1 hp, 10, jal_at (ca16 h.1 hp) (by decide), fun _ => q2, fun e => absurd (show nI 10 ≤ nI 10 from Int32.le_refl _) e⟩
def bkPl (A : Nat) (I : Nat → Nat → Int32) (p : Nat) (t : (Nat → Int64) × (Nat → Nat → Int64)) : (Nat → Int64) × (Nat → Nat → Int64) := bkSide A I (2 * p + 1) (bkSide A I (2 * p) t)
theorem c_poolBook (h : cE ad nm A L F I) {zz : Nat → Int64} {p : Nat} (hp : cisp A I p) {Q : Unit → jM → Prop} (q : Q () (cM z ad nm A L F I (bkPl A I p (zz, K)).1 (bkPl A I p (zz, K)).2 k μ0)) : wX6_bookInterest z (ad (10, p)) (cM z ad nm A L F I zz K k μ0) Q := by
  have e20 : (2 * p) / 2 = p := by omega
  have e21 : (2 * p + 1) / 2 = p := by omega
  unfold wX6_bookInterest wX6_bookInterest_0
  unfold bkPl at q
  refine ⟨_, cg10_1 h.1 hp, _, cg10_3 h.1 hp, _, ⟨rfl, ch15 h.1 (show cisp A I (2 * p / 2) by rw [e20]; exact hp)⟩, c_bookTo h e20 hp ?_⟩
  generalize bkSide A I (2 * p) (zz, K) = t at q ⊢
  obtain ⟨y1, K1⟩ := t
  exact ⟨_, cg10_2 h.1 hp, _, cg10_3 h.1 hp, _, ⟨rfl, ch15 h.1 (show cisp A I ((2 * p + 1) / 2) by rw [e21]; exact hp)⟩, c_bookTo h e21 hp q⟩
theorem c_lineBook (h : cE ad nm A L F I) {zz : Nat → Int64} {l : Nat} (hl : l < L) {Q : Unit → jM → Prop} (q : Q () (cM z ad nm A L F I (lcS I l zz) K k μ0)) : wX5_bookInterest z (ad (20, l)) (cM z ad nm A L F I zz K k μ0) Q := by
  have hA := h.2.1
  obtain ⟨t1, t2, t3⟩ := h.2.2.2.2.2.2.2.1 l hl
  unfold wX5_bookInterest wX5_bookInterest_0
  refine ⟨_, cg20_5 h.1 hl, ?_⟩
  intro v2 e2
  refine ⟨_, cg20_5 h.1 hl, _, cw20_5 h hl, _, cg20_4 h.1 hl, _, cw20_4 h hl, _, cg20_0 h.1 hl, _, cg7_8 h.1 t2, _, cw7_8 h t2, ?_⟩
  rw [e2, pk_uLn (show pL I l ≠ 82 + l by omega), pk_uLn (show pL I l ≠ 76 + l by omega), pk_uLn (show 82 + l ≠ 76 + l by omega)]
  exact q
theorem c_bookInterest (h : cE ad nm A L F I) {zz : Nat → Int64} {Q : Unit → jM → Prop} (q : Q () (cM z ad nm A L F I (itr (lcS I) L (foldS (bkPl A I) (ctops A I) (zz, K)).1) (foldS (bkPl A I) (ctops A I) (zz, K)).2 k μ0)) : wX3_bookInterest z (ad (1, 0)) (cM z ad nm A L F I zz K k μ0) Q := by
  have hl1 : clv A I 4 1 := Or.inl ⟨rfl, by decide⟩
  have hl2 : clv A I 4 2 := Or.inl ⟨rfl, by decide⟩
  unfold wX3_bookInterest wX3_bookInterest_0
  intro v1 e1
  subst e1
  refine jforl (fun f j t => wX3_bookInterest_2 z (ad (1, 0)) Q f (nI j) (cM z ad nm A L F I t.1 t.2 k μ0)) (clist A L F I 4 1) (bkPl A I) (zz, K) ?_ ?_
  · intro f j t y hx _ hw
    obtain ⟨y1, K1⟩ := y
    show wX3_bookInterest_2_b z (ad (1, 0)) Q (wX3_bookInterest_2 z (ad (1, 0)) Q f) (nI j) (cM z ad nm A L F I y1 K1 k μ0)
    unfold wX3_bookInterest_2_b
    have ht := mem_ctops.mp (List.mem_of_getElem? hx)
    refine ⟨_, cg1_1 h.1, _, ⟨rfl, c_lh h hl1⟩, c_size h hl1 ⟨fun e => absurd e (lst_le hx (clist_len h.2)), fun _ => ⟨_, cg1_1 h.1, _, ⟨rfl, c_lh h hl1⟩, c_get h hl1 hx rfl ⟨cj7 h.1 ht.1, _, cg7_2 h.1 ht.1, ?_⟩⟩⟩⟩
    rw [h.self ht]
    refine ⟨_, ⟨rfl, ch10 h.1 ht⟩, c_poolBook h ht ?_⟩
    intro v16 e16
    rw [e16, nI_1]
    exact hw
  · have hq : Q () (cM z ad nm A L F I (itr (lcS I) L (foldS (bkPl A I) (clist A L F I 4 1) (zz, K)).1) (foldS (bkPl A I) (clist A L F I 4 1) (zz, K)).2 k μ0) := q
    generalize foldS (bkPl A I) (clist A L F I 4 1) (zz, K) = t0 at hq ⊢
    obtain ⟨y0, K1⟩ := t0
    show wX3_bookInterest_2_b z (ad (1, 0)) Q (wX3_bookInterest_2 z (ad (1, 0)) Q 0) _ (cM z ad nm A L F I y0 K1 k μ0)
    unfold wX3_bookInterest_2_b
    refine ⟨_, cg1_1 h.1, _, ⟨rfl, c_lh h hl1⟩, c_size h hl1 ⟨fun _ => ?_, fun e => absurd (Int32.le_refl _) e⟩⟩
    intro v5 e5
    subst e5
    refine jfor (fun f j y => wX3_bookInterest_38 z (ad (1, 0)) Q f (nI j) (cM z ad nm A L F I y K1 k μ0)) L (lcS I) y0 ?_ ?_
    · intro f j hj hw
      have hw : wX3_bookInterest_38 z (ad (1, 0)) Q f (nI (j + 1)) (cM z ad nm A L F I (lcS I j (itr (lcS I) j y0)) K1 k μ0) := hw
      generalize itr (lcS I) j y0 = y at hw ⊢
      show wX3_bookInterest_38_b z (ad (1, 0)) Q (wX3_bookInterest_38 z (ad (1, 0)) Q f) (nI j) _
      unfold wX3_bookInterest_38_b
      have hx : (clist A L F I 4 2)[j]? = some j := by
        show (List.range L)[j]? = some j
        exact List.getElem?_range hj
      refine ⟨_, cg1_2 h.1, _, ⟨rfl, c_lh h hl2⟩, c_size h hl2 ⟨fun e => absurd e (lst_le hx (clist_len h.2)), fun _ => ⟨_, cg1_2 h.1, _, ⟨rfl, c_lh h hl2⟩, c_get h hl2 hx rfl ⟨cj20 h.1 hj, _, ⟨rfl, ch20 h.1 hj⟩, c_lineBook h hj ?_⟩⟩⟩⟩
      intro v13 e13
      rw [e13, nI_1]
      exact hw
    · show wX3_bookInterest_38_b z (ad (1, 0)) Q (wX3_bookInterest_38 z (ad (1, 0)) Q 0) (nI L) _
      unfold wX3_bookInterest_38_b
      refine ⟨_, cg1_2 h.1, _, ⟨rfl, c_lh h hl2⟩, c_size h hl2 ?_⟩
      have e : (clist A L F I 4 2).length = L := List.length_range
      rw [e]
      exact ⟨fun _ => hq, fun e => absurd (Int32.le_refl _) e⟩
end IN
