/-! ===== told along the tree: totals, and balances after a sweep ===== -/
theorem fold_comm {S : Nat → Int64 → Int64} (hc : ∀ x y s, S x (S y s) = S y (S x s)) {l1 l2 : List Nat} (hp : l1.Perm l2) (hn : l1.Nodup) (s : Int64) : foldS S l1 s = foldS S l2 s :=
  trace S (fun _ _ => True) (fun x y _ _ _ s => hc x y s) l1 l2 hp hn (List.Pairwise.imp (fun _ => trivial) hn) (List.Pairwise.imp (fun _ => trivial) (hp.nodup_iff.mp hn)) s
theorem add_right_comm64 (a b c : Int64) : a + b + c = a + c + b := by rw [Int64.add_assoc, Int64.add_comm b c, ← Int64.add_assoc]
theorem fold_shift {G : Nat → Int64} : ∀ (l : List Nat) (s : Int64), foldS (fun x t => t + G x) l s = s + foldS (fun x t => t + G x) l 0
  | [], s => (Int64.add_zero s).symm
  | a :: l, s => by
    rw [foldS_cons, foldS_cons, fold_shift l (s + G a), fold_shift l (0 + G a), Int64.zero_add, Int64.add_assoc]
section TR
variable {z : Nat × Nat} {ad : Nat × Nat → Nat} {nm : Nat → Nat × Nat} {A L F : Nat} {I : Nat → Nat → Int32} {K : Nat → Nat → Int64} {k : Nat → Nat → Int32} {μ0 : jM} {y : Nat → Int64} {X : Int}
theorem kid_gt (h : cE ad nm A L F I) {i c : Nat} (hc : cpar A I c = some i) : c < A ∧ i < c := by
  obtain ⟨c1, c2, c3⟩ := cpar_A hc
  have := (h.par c1 c2).2
  exact ⟨c1, by omega⟩
theorem c_sumFrom (h : cE ad nm A L F I) : ∀ (n i d : Nat), i < A → n + d = 12 → d ≤ i → ∀ (Q : Int64 → jM → Prop), Q (foldS (fun x t => t + y x) (pre A (cpar A I) n i) 0) (cM z ad nm A L F I y K k μ0) → wX8_sumFrom z n (some (ad (7, i))) (nI d) (cM z ad nm A L F I y K k μ0) Q := by
  intro n
  induction n with
  | zero => intro i d hi hn hd; have := h.2.1; omega
  | succ n ih =>
    intro i d hi hn hd Q q
    have hA := h.2.1
    have hl : clv A I 8 i := Or.inr (Or.inl ⟨rfl, hi⟩)
    show wX8_sumFrom_0 z (wX8_sumFrom z n) Q (some (ad (7, i))) (nI d) _
    unfold wX8_sumFrom_0
    refine ⟨fun _ => ⟨_, cg7_8 h.1 hi, ?_⟩, fun c => absurd (show nI d ≤ nI 10 from nI_le (by omega) (by omega)) c⟩
    intro v2 e2
    subst e2
    have eq1 : foldS (fun x t => t + y x) (pre A (cpar A I) (n + 1) i) 0 = foldS (fun c t => t + foldS (fun x t => t + y x) (pre A (cpar A I) n c) 0) (clist A L F I 8 i) (y i) := by
      show foldS (fun x t => t + y x) (i :: (kidsF A (cpar A I) i).flatMap (pre A (cpar A I) n)) 0 = _
      rw [foldS_cons, foldS_flat, Int64.zero_add]
      exact foldS_congr _ _ (fun c _ s => fold_shift _ s)
    rw [eq1] at q
    refine jforl (fun f j t => wX8_sumFrom_16 z (wX8_sumFrom z n) Q f (some (ad (7, i))) (nI d) t (nI j) (cM z ad nm A L F I y K k μ0)) (clist A L F I 8 i) (fun c t => t + foldS (fun x t => t + y x) (pre A (cpar A I) n c) 0) (y i) ?_ ?_
    · intro f j c t hx _ hw
      show wX8_sumFrom_16_b z (wX8_sumFrom z n) Q (wX8_sumFrom_16 z (wX8_sumFrom z n) Q f) (some (ad (7, i))) (nI d) t (nI j) _
      unfold wX8_sumFrom_16_b
      have hc := (mem_kidsF.mp (List.mem_of_getElem? hx)).2
      obtain ⟨cA, ci⟩ := kid_gt h hc
      refine ⟨_, cg7_4 h.1 hi, _, ⟨rfl, c_lh h hl⟩, c_size h hl ⟨fun e => absurd e (lst_le hx (clist_len h.2)), fun _ => ⟨_, cg7_4 h.1 hi, _, ⟨rfl, c_lh h hl⟩, c_get h hl hx rfl ⟨cj7 h.1 cA, ?_⟩⟩⟩⟩
      rw [nI_1]
      refine ih c (d + 1) cA (by omega) (by omega) _ ?_
      intro v12 e12 v13 e13
      rw [e12, e13, nI_1]
      exact hw
    · show wX8_sumFrom_16_b z (wX8_sumFrom z n) Q (wX8_sumFrom_16 z (wX8_sumFrom z n) Q 0) (some (ad (7, i))) (nI d) _ _ _
      unfold wX8_sumFrom_16_b
      exact ⟨_, cg7_4 h.1 hi, _, ⟨rfl, c_lh h hl⟩, c_size h hl ⟨fun _ => q, fun e => absurd (Int32.le_refl _) e⟩⟩
theorem total_eq (hn : cEn A L F I) {i : Nat} (hi : i < A) : foldS (fun x t => t + y x) (pre A (cpar A I) 12 i) 0 = sumF I A y (I 4 i) i := by
  have hA := hn.1
  have hp : parOk A I := hn.2.2.2.1
  have ha : acOk A I := hn.2.2.2.2.1
  have ht : tpOk A I := hn.2.2.2.2.2.1
  have hpl := cpar_lt hp hA
  have nd := nodup_pre (A := A) hpl 12 i hi (by omega)
  have nd2 : ((List.range A).filter (fun c => blF I i c)).Nodup := List.Pairwise.filter _ (List.nodup_range (n := A))
  have pm : (pre A (cpar A I) 12 i).Perm ((List.range A).filter (fun c => blF I i c)) := by
    rw [List.perm_ext_iff_of_nodup nd nd2]
    intro a
    rw [pre_mem hp hA hi, List.mem_filter, List.mem_range]
    constructor
    · rintro ⟨a1, a2⟩; exact ⟨a1, (bl_sub hp hA a1).mpr a2⟩
    · rintro ⟨a1, a2⟩; exact ⟨a1, (bl_sub hp hA a1).mp a2⟩
  rw [fold_comm (S := fun x t => t + y x) (fun a b s => add_right_comm64 s (y b) (y a)) pm nd]
  unfold sumF
  rw [foldS_filter, itr_foldS]
  refine foldS_congr _ _ (fun x hx s => ?_)
  have hx := List.mem_range.mp hx
  unfold sumS
  by_cases c : blF I i x = true
  · have e : I 4 x = I 4 i := by
      rw [(ha x hx).1, (ha i hi).1, sub_top ht ((bl_sub hp hA hx).mp c)]
    rw [if_pos c, if_pos ⟨e, c⟩]
  · rw [if_neg c, if_neg (fun v => c v.2), Int64.add_zero]
/-! the first pass, account by account -/
def mxP (x : Int64) : Int64 := if (0 : Int64) < x then x else 0
def pU (A : Nat) (I : Nat → Nat → Int32) (y : Nat → Int64) : Nat → Nat → Int64
  | 0 => y
  | t + 1 => upS I (A - (t + 1)) (pU A I y t)
theorem pU_itd : ∀ t, t ≤ A → itd (upS I) A y = itd (upS I) (A - t) (pU A I y t) := by
  intro t
  induction t with
  | zero => intro _; rfl
  | succ t ih =>
    intro ht
    rw [ih (by omega), show A - t = (A - (t + 1)) + 1 by omega]
    rfl
theorem pU_all : itd (upS I) A y = pU A I y A := by
  rw [pU_itd A (Nat.le_refl _), Nat.sub_self]
  rfl
theorem upS_no (h : cE ad nm A L F I) {c m : Nat} (hc : c < A) (w : Nat → Int64) (h1 : m ≠ c) (h2 : cpar A I c ≠ some m) : upS I c w m = w m := by
  rw [congrFun (upS_add h.2.2.2.2.1 h.2.1 hc w) m, dU_out h1 (fun d e => h2 (by rw [cpar_s hc d, e])), Int64.add_zero]
theorem upS_own (h : cE ad nm A L F I) {c : Nat} (hc : c < A) (w : Nat → Int64) : upS I c w c = w c - mxP (surpF I c (w c)) := by
  rw [congrFun (upS_add h.2.2.2.2.1 h.2.1 hc w) c]
  unfold dU mxP
  by_cases t : I 3 c = -1
  · have e : surpF I c (w c) = 0 := by
      unfold surpF
      exact if_pos (Or.inl ((h.2.2.2.2.2.2.2.2.2 c hc).2 t))
    rw [if_neg (fun v => v.1 t), e, if_neg (by decide), Int64.add_zero, Int64.sub_zero]
  · by_cases g : 0 < surpF I c (w c)
    · rw [if_pos ⟨t, g⟩, if_pos rfl, if_pos g, ← Int64.sub_eq_add_neg]
    · rw [if_neg (fun v => g v.2), if_neg g, Int64.add_zero, Int64.sub_zero]
theorem upS_par (h : cE ad nm A L F I) {c m : Nat} (hc : cpar A I c = some m) (w : Nat → Int64) : upS I c w m = w m + mxP (surpF I c (w c)) := by
  obtain ⟨c1, c2, c3⟩ := cpar_A hc
  have cm := kid_gt h hc
  rw [congrFun (upS_add h.2.2.2.2.1 h.2.1 c1 w) m]
  unfold dU mxP
  by_cases g : 0 < surpF I c (w c)
  · rw [if_pos ⟨c2, g⟩, if_neg (show m ≠ c by omega), if_pos c3, if_pos g]
  · rw [if_neg (fun v => g v.2), if_neg g]
/-- what an account holds when all below it have given -/
def hU (A : Nat) (I : Nat → Nat → Int32) (y : Nat → Int64) (i : Nat) : Int64 := pU A I y (A - i - 1) i
theorem pU_done (h : cE ad nm A L F I) {i : Nat} (hi : i < A) : ∀ t, A - i ≤ t → t ≤ A → pU A I y t i = hU A I y i - mxP (surpF I i (hU A I y i)) := by
  intro t
  induction t with
  | zero => intro h1 h2; omega
  | succ t ih =>
    intro h1 h2
    show upS I (A - (t + 1)) (pU A I y t) i = _
    by_cases e : A - i = t + 1
    · have e2 : A - (t + 1) = i := by omega
      have e3 : t = A - i - 1 := by omega
      rw [e2, upS_own h hi, e3]
      rfl
    · rw [upS_no h (by omega) _ (by omega) (fun v => by have := kid_gt h v; omega)]
      exact ih (by omega) (by omega)
theorem pU_gifts (h : cE ad nm A L F I) {i : Nat} : ∀ t, t ≤ A → i < A - t → pU A I y t i = foldS (fun c s => if cpar A I c = some i then s + mxP (surpF I c (hU A I y c)) else s) ((List.range A).reverse.take t) (y i) := by
  intro t
  induction t with
  | zero => intro _ _; rfl
  | succ t ih =>
    intro h1 h2
    have hx : (List.range A).reverse[t]? = some (A - (t + 1)) := by
      rw [List.getElem?_reverse (by rw [List.length_range]; omega), List.length_range, List.getElem?_range (by omega)]
      congr 1
      omega
    rw [List.take_succ, foldS_app, hx, ← ih (by omega) (by omega)]
    show upS I (A - (t + 1)) (pU A I y t) i = (if cpar A I (A - (t + 1)) = some i then pU A I y t i + mxP (surpF I (A - (t + 1)) (hU A I y (A - (t + 1)))) else pU A I y t i)
    by_cases c : cpar A I (A - (t + 1)) = some i
    · rw [if_pos c, upS_par h c]
      have e : hU A I y (A - (t + 1)) = pU A I y t (A - (t + 1)) := by
        unfold hU
        rw [show A - (A - (t + 1)) - 1 = t by omega]
      rw [e]
    · rw [if_neg c, upS_no h (by omega) _ (by omega) c]
theorem hU_eq (h : cE ad nm A L F I) {i : Nat} (hi : i < A) : hU A I y i = foldS (fun c s => s + mxP (surpF I c (hU A I y c))) (ckids A I i) (y i) := by
  have e1 : hU A I y i = foldS (fun c s => if cpar A I c = some i then s + mxP (surpF I c (hU A I y c)) else s) (List.range A).reverse (y i) := by
    have e := pU_gifts (y := y) h (i := i) (A - i - 1) (by omega) (by omega)
    have sp : (List.range A).reverse = (List.range A).reverse.take (A - i - 1) ++ (List.range A).reverse.drop (A - i - 1) := (List.take_append_drop _ _).symm
    conv => rhs; rw [sp, foldS_app]
    rw [← e]
    show hU A I y i = foldS _ _ (hU A I y i)
    refine (foldS_id (f := fun c s => if cpar A I c = some i then s + mxP (surpF I c (hU A I y c)) else s) (s := hU A I y i) ((List.range A).reverse.drop (A - i - 1)) (fun c hc => ?_)).symm
    refine if_neg (fun v => ?_)
    have g := kid_gt h v
    obtain ⟨j, hj, ej⟩ := List.getElem_of_mem hc
    rw [List.getElem_drop, List.getElem_reverse, List.getElem_range, List.length_range] at ej
    rw [List.length_drop, List.length_reverse, List.length_range] at hj
    omega
  rw [e1, ← fold_comm (S := fun c s => if cpar A I c = some i then s + mxP (surpF I c (hU A I y c)) else s) (l1 := List.range A) (fun a b s => ?_) (List.reverse_perm _).symm List.nodup_range]
  · unfold ckids
    rw [foldS_filter]
    refine foldS_congr _ _ (fun c _ s => ?_)
    by_cases v : cpar A I c = some i
    · rw [if_pos v, if_pos (decide_eq_true v)]
    · rw [if_neg v, if_neg (fun w => v (of_decide_eq_true w))]
  · by_cases va : cpar A I a = some i
    · by_cases vb : cpar A I b = some i
      · simp only [if_pos va, if_pos vb]
        exact add_right_comm64 _ _ _
      · simp only [if_pos va, if_neg vb]
    · simp only [if_neg va]
theorem c_heldGifts (h : cE ad nm A L F I) : ∀ (n i d : Nat), i < A → n + d = 12 → d ≤ i → ∀ (Q : Int64 → jM → Prop), Q (hU A I y i) (cM z ad nm A L F I y K k μ0) → wX8_heldWithGifts z n (some (ad (7, i))) (nI d) (cM z ad nm A L F I y K k μ0) Q := by
  intro n
  induction n with
  | zero => intro i d hi hn hd; have := h.2.1; omega
  | succ n ih =>
    intro i d hi hn hd Q q
    have hA := h.2.1
    have hl : clv A I 8 i := Or.inr (Or.inl ⟨rfl, hi⟩)
    show wX8_heldWithGifts_0 z (wX8_heldWithGifts z n) Q (some (ad (7, i))) (nI d) _
    unfold wX8_heldWithGifts_0
    refine ⟨fun _ => ⟨_, cg7_8 h.1 hi, ?_⟩, fun c => absurd (show nI d ≤ nI 10 from nI_le (by omega) (by omega)) c⟩
    intro v2 e2
    subst e2
    rw [hU_eq h hi] at q
    refine jforl (fun f j t => wX8_heldWithGifts_16 z (wX8_heldWithGifts z n) Q f (some (ad (7, i))) (nI d) t (nI j) (cM z ad nm A L F I y K k μ0)) (clist A L F I 8 i) (fun c t => t + mxP (surpF I c (hU A I y c))) (y i) ?_ ?_
    · intro f j c t hx _ hw
      show wX8_heldWithGifts_16_b z (wX8_heldWithGifts z n) Q (wX8_heldWithGifts_16 z (wX8_heldWithGifts z n) Q f) (some (ad (7, i))) (nI d) t (nI j) _
      unfold wX8_heldWithGifts_16_b
      have hc := (mem_kidsF.mp (List.mem_of_getElem? hx)).2
      obtain ⟨cA, ci⟩ := kid_gt h hc
      refine ⟨_, cg7_4 h.1 hi, _, ⟨rfl, c_lh h hl⟩, c_size h hl ⟨fun e => absurd e (lst_le hx (clist_len h.2)), fun _ => ⟨_, cg7_4 h.1 hi, _, ⟨rfl, c_lh h hl⟩, c_get h hl hx rfl ⟨cj7 h.1 cA, ?_⟩⟩⟩⟩
      rw [nI_1]
      refine ih c (d + 1) cA (by omega) (by omega) _ ⟨_, ⟨rfl, ch7 h.1 cA⟩, c_surplusOf h cA ?_⟩
      intro v15 e15 v16 e16
      rw [e15, e16, nI_1]
      exact hw
    · show wX8_heldWithGifts_16_b z (wX8_heldWithGifts z n) Q (wX8_heldWithGifts_16 z (wX8_heldWithGifts z n) Q 0) (some (ad (7, i))) (nI d) _ _ _
      unfold wX8_heldWithGifts_16_b
      exact ⟨_, cg7_4 h.1 hi, _, ⟨rfl, c_lh h hl⟩, c_size h hl ⟨fun _ => q, fun e => absurd (Int32.le_refl _) e⟩⟩
theorem c_between (h : cE ad nm A L F I) {i : Nat} (hi : i < A) {Q : Int64 → jM → Prop} (q : Q (itd (upS I) A y i) (cM z ad nm A L F I y K k μ0)) : wX8_heldBetweenPasses z (some (ad (7, i))) (cM z ad nm A L F I y K k μ0) Q := by
  unfold wX8_heldBetweenPasses wX8_heldBetweenPasses_0
  rw [pU_all, pU_done h hi A (by omega) (Nat.le_refl _)] at q
  exact c_heldGifts h 12 i 0 hi rfl (Nat.zero_le _) _ ⟨_, ⟨rfl, ch7 h.1 hi⟩, c_surplusOf h hi q⟩
/-! the second pass -/
theorem dnC_no (h : cE ad nm A L F I) {c m : Nat} (hc : c < A) (w : Nat → Int64) (h1 : m ≠ c) (h2 : cpar A I c ≠ some m) : dnC I c w m = w m := by
  rw [congrFun (dnC_add h.2.2.2.2.1 h.2.1 hc w) m, dD_out h1 (fun d e => h2 (by rw [cpar_s hc d, e])), Int64.add_zero]
theorem dnC_own (h : cE ad nm A L F I) {c p : Nat} (hc : cpar A I c = some p) (w : Nat → Int64) : dnC I c w c = w c + ptF I c (w c) (w p) := by
  obtain ⟨c1, c2, c3⟩ := cpar_A hc
  have cm := kid_gt h hc
  unfold dnC
  rw [if_neg c2, pk_uLn (by omega), pk_uLs, c3]
theorem dnC_par (h : cE ad nm A L F I) {c p : Nat} (hc : cpar A I c = some p) (w : Nat → Int64) : dnC I c w p = w p - ptF I c (w c) (w p) := by
  obtain ⟨c1, c2, c3⟩ := cpar_A hc
  unfold dnC
  rw [if_neg c2, ← c3, pk_uLs]
/-- before its own step an account is as the first pass left it -/
theorem dn_own (h : cE ad nm A L F I) {u : Nat → Int64} {i : Nat} : ∀ j, j ≤ i → j ≤ A → itr (dnC I) j u i = u i := by
  intro j
  induction j with
  | zero => intro _ _; rfl
  | succ j ih =>
    intro h1 h2
    show dnC I j (itr (dnC I) j u) i = _
    rw [dnC_no h (by omega) _ (by omega) (fun v => by have := kid_gt h v; omega)]
    exact ih (by omega) (by omega)
theorem dn_kids (h : cE ad nm A L F I) {u : Nat → Int64} {i m : Nat} (hi : i < A) (hm : i < m) : ∀ N, N ≤ A → itr (fun c s => if cpar A I c = some i then (if c < m then s - ptF I c (u c) s else s) else s) N (itr (dnC I) (i + 1) u i) = if N ≤ i then itr (dnC I) (i + 1) u i else itr (dnC I) (min m N) u i := by
  intro N
  induction N with
  | zero => intro _; rw [if_pos (by omega)]; rfl
  | succ N ih =>
    intro hN
    show (if cpar A I N = some i then (if N < m then itr (fun c s => if cpar A I c = some i then (if c < m then s - ptF I c (u c) s else s) else s) N (itr (dnC I) (i + 1) u i) - ptF I N (u N) (itr (fun c s => if cpar A I c = some i then (if c < m then s - ptF I c (u c) s else s) else s) N (itr (dnC I) (i + 1) u i)) else itr (fun c s => if cpar A I c = some i then (if c < m then s - ptF I c (u c) s else s) else s) N (itr (dnC I) (i + 1) u i)) else itr (fun c s => if cpar A I c = some i then (if c < m then s - ptF I c (u c) s else s) else s) N (itr (dnC I) (i + 1) u i)) = _
    rw [ih (by omega)]
    by_cases a : N ≤ i
    · rw [if_pos a, if_neg (fun v => by have := kid_gt h v; omega)]
      by_cases b : N + 1 ≤ i
      · rw [if_pos b]
      · rw [if_neg b, show min m (N + 1) = i + 1 by omega]
    · rw [if_neg a, if_neg (show ¬ N + 1 ≤ i by omega)]
      by_cases e : N < m
      · rw [show min m N = N by omega, show min m (N + 1) = N + 1 by omega]
        show _ = dnC I N (itr (dnC I) N u) i
        by_cases v : cpar A I N = some i
        · rw [if_pos v, if_pos e, dnC_par h v, dn_own h (i := N) N (Nat.le_refl _) (by omega)]
        · rw [if_neg v, dnC_no h (by omega) _ (by omega) v]
      · rw [show min m N = m by omega, show min m (N + 1) = m by omega]
        by_cases v : cpar A I N = some i
        · rw [if_pos v, if_neg e]
        · rw [if_neg v]
theorem c_leftBefore (h : cE ad nm A L F I) : ∀ (n i d m : Nat), i < A → n + d = 12 → d + i ≤ 9 → i < m → m ≤ 10 → ∀ (Q : Int64 → jM → Prop), Q (itr (dnC I) (min m A) (itd (upS I) A y) i) (cM z ad nm A L F I y K k μ0) → wX8_leftBefore z n (some (ad (7, i))) (nI m) (nI d) (cM z ad nm A L F I y K k μ0) Q := by
  intro n
  induction n with
  | zero => intro i d m hi hn hd; omega
  | succ n ih =>
    intro i d m hi hn hd hm hm10 Q q
    have hA := h.2.1
    have hl : clv A I 8 i := Or.inr (Or.inl ⟨rfl, hi⟩)
    show wX8_leftBefore_0 z (wX8_leftBefore z n) Q (some (ad (7, i))) (nI m) (nI d) _
    unfold wX8_leftBefore_0
    have loop : ∀ v : Int64, v = itr (dnC I) (i + 1) (itd (upS I) A y) i → ∃ n5, wX8_leftBefore_45 z (wX8_leftBefore z n) Q n5 (some (ad (7, i))) (nI m) v (nI 0) (cM z ad nm A L F I y K k μ0) := by
      intro v ev
      have fin : foldS (fun c s => if c < m then s - ptF I c (itd (upS I) A y c) s else s) (clist A L F I 8 i) v = itr (dnC I) (min m A) (itd (upS I) A y) i := by
        have e1 : foldS (fun c s => if c < m then s - ptF I c (itd (upS I) A y c) s else s) (ckids A I i) v = itr (fun c s => if cpar A I c = some i then (if c < m then s - ptF I c (itd (upS I) A y c) s else s) else s) A v := by
          unfold ckids
          rw [foldS_filter, itr_foldS]
          refine foldS_congr _ _ (fun c _ s => ?_)
          by_cases w : cpar A I c = some i
          · rw [if_pos w, if_pos (decide_eq_true w)]
          · rw [if_neg w, if_neg (fun x => w (of_decide_eq_true x))]
        show foldS _ (ckids A I i) v = _
        rw [e1, ev, dn_kids h hi hm A (Nat.le_refl _), if_neg (by omega)]
      refine jforl (fun f j t => wX8_leftBefore_45 z (wX8_leftBefore z n) Q f (some (ad (7, i))) (nI m) t (nI j) (cM z ad nm A L F I y K k μ0)) (clist A L F I 8 i) (fun c s => if c < m then s - ptF I c (itd (upS I) A y c) s else s) v ?_ ?_
      · intro f j c t hx _ hw
        show wX8_leftBefore_45_b z (wX8_leftBefore z n) Q (wX8_leftBefore_45 z (wX8_leftBefore z n) Q f) (some (ad (7, i))) (nI m) t (nI j) _
        unfold wX8_leftBefore_45_b
        have hc := (mem_kidsF.mp (List.mem_of_getElem? hx)).2
        obtain ⟨cA, ci⟩ := kid_gt h hc
        refine ⟨_, cg7_4 h.1 hi, _, ⟨rfl, c_lh h hl⟩, c_size h hl ⟨fun e => absurd e (lst_le hx (clist_len h.2)), fun _ => ⟨_, cg7_4 h.1 hi, _, ⟨rfl, c_lh h hl⟩, c_get h hl hx rfl ⟨cj7 h.1 cA, _, cg7_0 h.1 cA, fun e => ?_, fun e => c_between h cA (c_partOf h cA ?_)⟩⟩⟩⟩
        · intro v11 e11
          have g := (nI_leI (by omega) (by omega)).mp e
          rw [if_neg (by omega)] at hw
          rw [e11, nI_1]
          exact hw
        · intro v16 e16 v17 e17
          have g : c < m := by
            by_cases w : m ≤ c
            · exact absurd (nI_le w (by omega)) e
            · omega
          have ct : ¬ I 3 c = -1 := (cpar_A hc).2.1
          rw [if_pos g] at hw
          rw [if_neg ct] at e16
          rw [e16, e17, nI_1]
          exact hw
      · show wX8_leftBefore_45_b z (wX8_leftBefore z n) Q (wX8_leftBefore_45 z (wX8_leftBefore z n) Q 0) (some (ad (7, i))) (nI m) _ _ _
        unfold wX8_leftBefore_45_b
        rw [fin]
        exact ⟨_, cg7_4 h.1 hi, _, ⟨rfl, c_lh h hl⟩, c_size h hl ⟨fun _ => q, fun e => absurd (Int32.le_refl _) e⟩⟩
    refine ⟨fun _ => c_between h hi ⟨_, cg7_1 h.1 hi, fun c => ?_, fun c => ?_⟩, fun c => absurd (show nI d ≤ nI 10 from nI_le (by omega) (by omega)) c⟩
    · have t : I 3 i = -1 := by
        by_cases e : I 3 i = -1
        · exact e
        · rw [cpar_s hi e] at c; cases c
      intro v4 e4
      rw [e4]
      refine loop _ ?_
      show _ = dnC I i (itr (dnC I) i (itd (upS I) A y)) i
      unfold dnC
      rw [if_pos t]
      have o := dn_own h (u := itd (upS I) A y) (i := i) i (Nat.le_refl _) (by omega)
      unfold dnC at o
      exact o.symm
    · have t : ¬ I 3 i = -1 := fun e => c (by rw [cpar_n e]; rfl)
      have hpi : cpar A I i = some (pI I i) := cpar_s hi t
      have lp := (h.par hi t).2
      refine ⟨_, cg7_1 h.1 hi, _, cg7_0 h.1 hi, ?_⟩
      rw [hpi, nI_1]
      refine ih (pI I i) (d + 1) i (by omega) (by omega) (by omega) lp (by omega) _ (c_partOf h hi ?_)
      rw [if_neg t, show min i A = i by omega]
      intro v12 e12 v13 e13
      rw [e13]
      refine loop _ ?_
      rw [e12]
      show _ = dnC I i (itr (dnC I) i (itd (upS I) A y)) i
      rw [dnC_own h hpi, dn_own h (u := itd (upS I) A y) (i := i) i (Nat.le_refl _) (by omega)]
theorem c_sweptCash (h : cE ad nm A L F I) {i : Nat} (hi : i < A) {Q : Int64 → jM → Prop} (q : Q (itr (dnC I) A (itd (upS I) A y) i) (cM z ad nm A L F I y K k μ0)) : wX8_sweptCash z (some (ad (7, i))) (cM z ad nm A L F I y K k μ0) Q := by
  have hA := h.2.1
  unfold wX8_sweptCash wX8_sweptCash_0
  refine c_leftBefore h 12 i 0 10 hi rfl (by omega) (by omega) (Nat.le_refl _) _ ?_
  rw [show min 10 A = A by omega]
  exact q
end TR
