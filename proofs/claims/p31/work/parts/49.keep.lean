/-! ===== the class keeps and goes back ===== -/
/-- a loop with what holds all along -/
theorem jforE {σ : Type} (P : Nat → Nat → σ → Prop) (N : Nat) (Inv : Nat → σ → Prop) (step : ∀ n k s, k < N → Inv k s → (∀ s', Inv (k + 1) s' → P n (k + 1) s') → P (n + 1) k s) (done : ∀ s, Inv N s → P 1 N s) : ∀ s, Inv 0 s → ∃ n, P n 0 s := by
  have h : ∀ j, j ≤ N → ∀ s, Inv (N - j) s → P (j + 1) (N - j) s := by
    intro j
    induction j with
    | zero => intro _ s hs; exact done s hs
    | succ j ih =>
      intro hj s hs
      have e : N - j = N - (j + 1) + 1 := by omega
      have ih := ih (by omega)
      rw [e] at ih
      exact step _ _ _ (by omega) hs ih
  intro s hs
  have h1 := h N (Nat.le_refl N) s (by rw [Nat.sub_self]; exact hs)
  rw [Nat.sub_self] at h1
  exact ⟨_, h1⟩
def kpA (zz : Nat → Int64) (K : Nat → Nat → Int64) (n : Nat) : Prop := ∀ i, i < n → K 0 i = zz i ∧ K 1 i = zz (50 + i)
def kpS (A : Nat) (I : Nat → Nat → Int32) (zz K4 : Nat → Int64) (K : Nat → Nat → Int64) (s : Nat) : Prop := K 2 s = zz (sz1 s) ∧ K 3 s = K4 s ∧ ∀ j, j < 10 → K (300 + s) j = cwt A I zz s j
def kpP (A : Nat) (I : Nat → Nat → Int32) (zz K4 : Nat → Int64) (K : Nat → Nat → Int64) (n : Nat) : Prop := ∀ i p, i < n → (ctops A I)[i]? = some p → kpS A I zz K4 K (2 * p) ∧ kpS A I zz K4 K (2 * p + 1)
def kpL (zz : Nat → Int64) (K : Nat → Nat → Int64) (n : Nat) : Prop := ∀ l, l < n → K 6 l = zz (70 + l) ∧ K 7 l = zz (82 + l) ∧ K 8 l = zz (76 + l)
def kpF (I : Nat → Nat → Int32) (zz : Nat → Int64) (k : Nat → Nat → Int32) (n : Nat) : Prop := ∀ f, f < n → k 1 f = I 17 f + (zz (88 + f)).toInt32 * I 18 f ∧ k 2 f = I 19 f - (zz (88 + f)).toInt32
/-- what is kept of a state -/
def Kept (A L F : Nat) (I : Nat → Nat → Int32) (zz K4 : Nat → Int64) (K : Nat → Nat → Int64) (k : Nat → Nat → Int32) : Prop :=
  kpA zz K A ∧ kpP A I zz K4 K (ctops A I).length ∧ kpL zz K L ∧ kpF I zz k F ∧ k 0 1 = (zz 108).toInt32
section KP
variable {z : Nat × Nat} {ad : Nat × Nat → Nat} {nm : Nat → Nat × Nat} {A L F : Nat} {I : Nat → Nat → Int32} {K : Nat → Nat → Int64} {k : Nat → Nat → Int32} {μ0 : jM} {zz : Nat → Int64}
theorem kpA_o {K' : Nat → Nat → Int64} {n : Nat} (h : kpA zz K n) (e : ∀ a b, a = 0 ∨ a = 1 → K' a b = K a b) : kpA zz K' n := fun i hi => by rw [e _ _ (Or.inl rfl), e _ _ (Or.inr rfl)]; exact h i hi
theorem kpS_o {K' : Nat → Nat → Int64} {K4 : Nat → Int64} {s : Nat} (h : kpS A I zz K4 K s) (e : ∀ a b, a = 2 ∨ a = 3 ∨ 300 ≤ a → K' a b = K a b) : kpS A I zz K4 K' s := by
  obtain ⟨h1, h2, h3⟩ := h
  refine ⟨(e _ _ (Or.inl rfl)).trans h1, (e _ _ (Or.inr (Or.inl rfl))).trans h2, fun j hj => (e _ _ (Or.inr (Or.inr (by omega)))).trans (h3 j hj)⟩
theorem kpP_o {K' : Nat → Nat → Int64} {K4 : Nat → Int64} {n : Nat} (h : kpP A I zz K4 K n) (e : ∀ a b, a = 2 ∨ a = 3 ∨ 300 ≤ a → K' a b = K a b) : kpP A I zz K4 K' n := fun i p hi hp => ⟨kpS_o (h i p hi hp).1 e, kpS_o (h i p hi hp).2 e⟩
theorem kpL_o {K' : Nat → Nat → Int64} {n : Nat} (h : kpL zz K n) (e : ∀ a b, a = 6 ∨ a = 7 ∨ a = 8 → K' a b = K a b) : kpL zz K' n := fun i hi => by rw [e _ _ (Or.inl rfl), e _ _ (Or.inr (Or.inl rfl)), e _ _ (Or.inr (Or.inr rfl))]; exact h i hi
/-- an array copied, as a row of scratch -/
theorem c_copyKeep (h : cE ad nm A L F I) {s : Nat} (hp : cisp A I (s / 2)) : ∃ K', (∀ a b, a ≠ 300 + s → K' a b = K a b) ∧ (∀ j, j < 10 → K' (300 + s) j = cwt A I zz s j) ∧ jcpj (cM z ad nm A L F I zz K k μ0) (some (ad (16, s))) 0 (some (ad (19, s))) 0 10 (cM z ad nm A L F I zz K' k μ0) := by
  let K' : Nat → Nat → Int64 := fun a b => if a = 300 + s then (va_cpy (cwt A I zz s) (K (300 + s)) 0 0 10 b) else K a b
  have e1 : K' (300 + s) = va_cpy (cwt A I zz s) (K (300 + s)) 0 0 10 := by
    funext b
    exact if_pos rfl
  have e2 : ∀ a b, a ≠ 300 + s → K' a b = K a b := fun a b hne => if_neg hne
  refine ⟨K', e2, fun j hj => ?_, ad (16, s), ad (19, s), 10, 10, cwt A I zz s, K (300 + s), rfl, rfl, ca16 h.1 hp, ca19 h.1 hp, by decide, by decide, by decide, by decide, by decide, ?_⟩
  · rw [e1]
    unfold va_cpy
    first
      | (rw [if_pos (by omega)]; rfl)
      | (simp; omega)
      | simp [hj]
  · refine (cM_up h.1 (cC19 hp) ((cC19 hp).trans (by rw [e1]; rfl)) (fun y hy => cC_cong (fun _ _ => rfl) (fun a b hm => e2 a b (fun e => hy ?_)) (fun _ _ _ => rfl))).symm
    obtain ⟨q, i⟩ := y
    have hA := h.2.1
    obtain ⟨hp1, -⟩ := hp
    simp only [rdK] at hm
    exact pr_eq (by omega) (by omega)
theorem c_sideKeep (h : cE ad nm A L F I) {s : Nat} (hp : cisp A I (s / 2)) {Q : Unit → jM → Prop} (q : ∀ K', (∀ a b, (a ≠ 2 ∧ a ≠ 3 ∧ a ≠ 300 + s) ∨ (b ≠ s ∧ a ≠ 300 + s) → K' a b = K a b) → kpS A I zz (K 4) K' s → Q () (cM z ad nm A L F I zz K' k μ0)) : wX7_keep z (ad (15, s)) (cM z ad nm A L F I zz K k μ0) Q := by
  unfold wX7_keep wX7_keep_0
  refine ⟨_, cg15_2 h.1 hp, _, cw15_7 h hp, _, cg15_3 h.1 hp, _, cw15_8 h hp, _, cg15_4 h.1 hp, _, cg15_9 h.1 hp, ?_⟩
  obtain ⟨K', e1, e2, w⟩ := c_copyKeep (z := z) (zz := zz) (K := upK (upK K 2 s (zz (sz1 s))) 3 s (upK K 2 s (zz (sz1 s)) 4 s)) (k := k) (μ0 := μ0) h hp
  refine ⟨_, w, q K' (fun a b hab => ?_) ⟨?_, ?_, e2⟩⟩
  · rw [e1 a b (by omega), upK_ne (by omega), upK_ne (by omega)]
  · rw [e1 2 s (by omega), upK_ne (by omega), upK_at]
  · rw [e1 3 s (by omega), upK_at, upK_ne (by omega)]
theorem c_poolKeep (h : cE ad nm A L F I) {p : Nat} (hp : cisp A I p) {Q : Unit → jM → Prop} (q : ∀ K', (∀ a b, (a ≠ 2 ∧ a ≠ 3 ∧ a ≠ 300 + 2 * p ∧ a ≠ 300 + (2 * p + 1)) ∨ (b ≠ 2 * p ∧ b ≠ 2 * p + 1 ∧ a < 300) → K' a b = K a b) → kpS A I zz (K 4) K' (2 * p) → kpS A I zz (K 4) K' (2 * p + 1) → Q () (cM z ad nm A L F I zz K' k μ0)) : wX6_keep z (ad (10, p)) (cM z ad nm A L F I zz K k μ0) Q := by
  have e20 : (2 * p) / 2 = p := by omega
  have e21 : (2 * p + 1) / 2 = p := by omega
  have h0 : cisp A I (2 * p / 2) := by rw [e20]; exact hp
  have h1 : cisp A I ((2 * p + 1) / 2) := by rw [e21]; exact hp
  unfold wX6_keep wX6_keep_0
  refine ⟨_, cg10_1 h.1 hp, _, ⟨rfl, ch15 h.1 h0⟩, c_sideKeep h h0 (fun K1 o1 k1 => ⟨_, cg10_2 h.1 hp, _, ⟨rfl, ch15 h.1 h1⟩, c_sideKeep h h1 (fun K2 o2 k2 => ?_)⟩)⟩
  have e4 : K1 4 = K 4 := funext (fun b => o1 4 b (Or.inl ⟨by omega, by omega, by omega⟩))
  rw [e4] at k2
  refine q K2 (fun a b hab => ?_) ?_ k2
  · rw [o2 a b (by omega), o1 a b (by omega)]
  · obtain ⟨a1, a2, a3⟩ := k1
    exact ⟨(o2 _ _ (by omega)).trans a1, (o2 _ _ (by omega)).trans a2, fun j hj => (o2 _ _ (by omega)).trans (a3 j hj)⟩
theorem ctops_inj {i j p : Nat} (hi : (ctops A I)[i]? = some p) (hj : (ctops A I)[j]? = some p) : i = j :=
  (List.getElem?_inj (List.getElem?_eq_some_iff.mp hi).1 (List.Pairwise.filter _ (List.nodup_range (n := A)))).mp (hi.trans hj.symm)
theorem c_keep (h : cE ad nm A L F I) {Q : Unit → jM → Prop} (q : ∀ K' k', K' 4 = K 4 → Kept A L F I zz (K 4) K' k' → (∀ a b, 10 ≤ a → k' a b = k a b) → Q () (cM z ad nm A L F I zz K' k' μ0)) : wX3_keep z (ad (1, 0)) (cM z ad nm A L F I zz K k μ0) Q := by
  have hA := h.2.1
  have hl0 : clv A I 4 0 := Or.inl ⟨rfl, by decide⟩
  have hl1 : clv A I 4 1 := Or.inl ⟨rfl, by decide⟩
  have hl2 : clv A I 4 2 := Or.inl ⟨rfl, by decide⟩
  have hl3 : clv A I 4 3 := Or.inl ⟨rfl, by decide⟩
  have n0 : (clist A L F I 4 0).length = A := List.length_range
  have n2 : (clist A L F I 4 2).length = L := List.length_range
  have n3 : (clist A L F I 4 3).length = F := List.length_range
  have loopF : ∀ K1 (k1 : Nat → Nat → Int32), K1 4 = K 4 → kpA zz K1 A → kpP A I zz (K 4) K1 (ctops A I).length → kpL zz K1 L → k1 0 1 = (zz 108).toInt32 → (∀ a b, 10 ≤ a → k1 a b = k a b) → ∃ n, wX3_keep_112 z (ad (1, 0)) Q n (nI 0) (cM z ad nm A L F I zz K1 k1 μ0) := by
    intro K1 k1 e4 ka kp kl kd ko
    refine jforE (fun n j k' => wX3_keep_112 z (ad (1, 0)) Q n (nI j) (cM z ad nm A L F I zz K1 k' μ0)) F (fun j k' => kpF I zz k' j ∧ k' 0 1 = (zz 108).toInt32 ∧ ∀ a b, 10 ≤ a → k' a b = k a b) ?_ ?_ k1 ⟨fun i hi => by omega, kd, ko⟩
    · intro n j k' hj hv hw
      show wX3_keep_112_b z (ad (1, 0)) Q (wX3_keep_112 z (ad (1, 0)) Q n) (nI j) _
      unfold wX3_keep_112_b
      have hx : (clist A L F I 4 3)[j]? = some j := by
        show (List.range F)[j]? = some j
        exact List.getElem?_range hj
      refine ⟨_, cg1_3 h.1, _, ⟨rfl, c_lh h hl3⟩, c_size h hl3 ⟨fun e => absurd e (lst_le hx (clist_len h.2)), fun _ => ⟨_, cg1_3 h.1, _, ⟨rfl, c_lh h hl3⟩, c_get h hl3 hx rfl ⟨cj21 h.1 hj, _, ⟨rfl, ch21 h.1 hj⟩, ?_⟩⟩⟩⟩
      unfold wX4_keep wX4_keep_0
      refine ⟨_, cg21_3 h.1 hj, _, cw21_5 h hj, _, cg21_4 h.1 hj, _, cw21_6 h hj, ?_⟩
      intro v13 e13
      rw [e13, nI_1]
      refine hw _ ⟨fun f hf => ?_, ?_, ?_⟩
      · by_cases e : f = j
        · subst e
          rw [upk_ne (by omega), upk_at, upk_at]
          exact ⟨rfl, rfl⟩
        · rw [upk_ne (by omega), upk_ne (by omega), upk_ne (by omega), upk_ne (by omega)]
          exact hv.1 f (by omega)
      · rw [upk_ne (by omega), upk_ne (by omega)]
        exact hv.2.1
      · intro a b hab
        rw [upk_ne (by omega), upk_ne (by omega)]
        exact hv.2.2 a b hab
    · intro k' hv
      show wX3_keep_112_b z (ad (1, 0)) Q (wX3_keep_112 z (ad (1, 0)) Q 0) (nI F) _
      unfold wX3_keep_112_b
      refine ⟨_, cg1_3 h.1, _, ⟨rfl, c_lh h hl3⟩, c_size h hl3 ?_⟩
      rw [n3]
      exact ⟨fun _ => q K1 k' e4 ⟨ka, kp, kl, hv.1, hv.2.1⟩ hv.2.2, fun e => absurd (Int32.le_refl _) e⟩
  have loopL : ∀ K1 (k1 : Nat → Nat → Int32), K1 4 = K 4 → kpA zz K1 A → kpP A I zz (K 4) K1 (ctops A I).length → k1 0 1 = (zz 108).toInt32 → (∀ a b, 10 ≤ a → k1 a b = k a b) → ∃ n, wX3_keep_79 z (ad (1, 0)) Q n (nI 0) (cM z ad nm A L F I zz K1 k1 μ0) := by
    intro K1 k1 e4 ka kp kd ko
    refine jforE (fun n j K' => wX3_keep_79 z (ad (1, 0)) Q n (nI j) (cM z ad nm A L F I zz K' k1 μ0)) L (fun j K' => kpL zz K' j ∧ K' 4 = K 4 ∧ kpA zz K' A ∧ kpP A I zz (K 4) K' (ctops A I).length) ?_ ?_ K1 ⟨fun i hi => by omega, e4, ka, kp⟩
    · intro n j K' hj hv hw
      show wX3_keep_79_b z (ad (1, 0)) Q (wX3_keep_79 z (ad (1, 0)) Q n) (nI j) _
      unfold wX3_keep_79_b
      have hx : (clist A L F I 4 2)[j]? = some j := by
        show (List.range L)[j]? = some j
        exact List.getElem?_range hj
      refine ⟨_, cg1_2 h.1, _, ⟨rfl, c_lh h hl2⟩, c_size h hl2 ⟨fun e => absurd e (lst_le hx (clist_len h.2)), fun _ => ⟨_, cg1_2 h.1, _, ⟨rfl, c_lh h hl2⟩, c_get h hl2 hx rfl ⟨cj20 h.1 hj, _, ⟨rfl, ch20 h.1 hj⟩, ?_⟩⟩⟩⟩
      unfold wX5_keep wX5_keep_0
      refine ⟨_, cg20_3 h.1 hj, _, cw20_6 h hj, _, cg20_4 h.1 hj, _, cw20_7 h hj, _, cg20_5 h.1 hj, _, cw20_8 h hj, ?_⟩
      intro v13 e13
      rw [e13, nI_1]
      have o : ∀ a b, a ≠ 6 → a ≠ 7 → a ≠ 8 → upK (upK (upK K' 6 j (zz (70 + j))) 7 j (zz (82 + j))) 8 j (zz (76 + j)) a b = K' a b := fun a b h6 h7 h8 => by rw [upK_ne (by omega), upK_ne (by omega), upK_ne (by omega)]
      refine hw _ ⟨fun l hl => ?_, ?_, kpA_o hv.2.2.1 (fun a b hab => o a b (by omega) (by omega) (by omega)), kpP_o hv.2.2.2 (fun a b hab => o a b (by omega) (by omega) (by omega))⟩
      · by_cases e : l = j
        · subst e
          refine ⟨?_, ?_, ?_⟩
          · rw [upK_ne (by omega), upK_ne (by omega), upK_at]
          · rw [upK_ne (by omega), upK_at]
          · rw [upK_at]
        · rw [upK_ne (by omega), upK_ne (by omega), upK_ne (by omega), upK_ne (by omega), upK_ne (by omega), upK_ne (by omega), upK_ne (by omega), upK_ne (by omega), upK_ne (by omega)]
          exact hv.1 l (by omega)
      · exact (funext (fun b => o 4 b (by omega) (by omega) (by omega))).trans hv.2.1
    · intro K' hv
      show wX3_keep_79_b z (ad (1, 0)) Q (wX3_keep_79 z (ad (1, 0)) Q 0) (nI L) _
      unfold wX3_keep_79_b
      refine ⟨_, cg1_2 h.1, _, ⟨rfl, c_lh h hl2⟩, c_size h hl2 ?_⟩
      rw [n2]
      refine ⟨fun _ => ?_, fun e => absurd (Int32.le_refl _) e⟩
      intro v5 e5
      rw [e5]
      exact loopF K' k1 hv.2.1 hv.2.2.1 hv.2.2.2 hv.1 kd ko
  have loopP : ∀ K1 (k1 : Nat → Nat → Int32), K1 4 = K 4 → kpA zz K1 A → k1 0 1 = (zz 108).toInt32 → (∀ a b, 10 ≤ a → k1 a b = k a b) → ∃ n, wX3_keep_43 z (ad (1, 0)) Q n (nI 0) (cM z ad nm A L F I zz K1 k1 μ0) := by
    intro K1 k1 e4 ka kd ko
    refine jforE (fun n j K' => wX3_keep_43 z (ad (1, 0)) Q n (nI j) (cM z ad nm A L F I zz K' k1 μ0)) (ctops A I).length (fun j K' => kpP A I zz (K 4) K' j ∧ K' 4 = K 4 ∧ kpA zz K' A) ?_ ?_ K1 ⟨fun i p hi => by omega, e4, ka⟩
    · intro n j K' hj hv hw
      show wX3_keep_43_b z (ad (1, 0)) Q (wX3_keep_43 z (ad (1, 0)) Q n) (nI j) _
      unfold wX3_keep_43_b
      have hx : (clist A L F I 4 1)[j]? = some ((ctops A I)[j]'hj) := List.getElem?_eq_getElem hj
      generalize (ctops A I)[j]'hj = p at hx
      have ht := mem_ctops.mp (List.mem_of_getElem? hx)
      refine ⟨_, cg1_1 h.1, _, ⟨rfl, c_lh h hl1⟩, c_size h hl1 ⟨fun e => absurd e (lst_le hx (clist_len h.2)), fun _ => ⟨_, cg1_1 h.1, _, ⟨rfl, c_lh h hl1⟩, c_get h hl1 hx rfl ⟨cj7 h.1 ht.1, _, cg7_2 h.1 ht.1, ?_⟩⟩⟩⟩
      rw [h.self ht]
      refine ⟨_, ⟨rfl, ch10 h.1 ht⟩, c_poolKeep h ht (fun K2 o2 s0 s1 => ?_)⟩
      rw [hv.2.1] at s0 s1
      intro v16 e16
      rw [e16, nI_1]
      refine hw _ ⟨fun i p' hi hp' => ?_, ?_, kpA_o hv.2.2 (fun a b hab => o2 a b (by omega))⟩
      · by_cases e : i = j
        · subst e
          have : p' = p := Option.some.inj (hp'.symm.trans hx)
          subst this
          exact ⟨s0, s1⟩
        · have hne : p' ≠ p := fun w => e (ctops_inj hp' (by rw [w]; exact hx))
          obtain ⟨⟨a1, a2, a3⟩, ⟨b1, b2, b3⟩⟩ := hv.1 i p' (by omega) hp'
          exact ⟨⟨(o2 _ _ (by omega)).trans a1, (o2 _ _ (by omega)).trans a2, fun y hy => (o2 _ _ (by omega)).trans (a3 y hy)⟩, ⟨(o2 _ _ (by omega)).trans b1, (o2 _ _ (by omega)).trans b2, fun y hy => (o2 _ _ (by omega)).trans (b3 y hy)⟩⟩
      · exact (funext (fun b => o2 4 b (by omega))).trans hv.2.1
    · intro K' hv
      show wX3_keep_43_b z (ad (1, 0)) Q (wX3_keep_43 z (ad (1, 0)) Q 0) (nI (ctops A I).length) _
      unfold wX3_keep_43_b
      refine ⟨_, cg1_1 h.1, _, ⟨rfl, c_lh h hl1⟩, c_size h hl1 ⟨fun _ => ?_, fun e => absurd (Int32.le_refl _) e⟩⟩
      intro v5 e5
      rw [e5]
      exact loopL K' k1 hv.2.1 hv.2.2 hv.1 kd ko
  unfold wX3_keep wX3_keep_0
  refine ⟨_, cg1_6 h.1, _, cw1_7 h, ?_⟩
  intro v3 e3
  rw [e3]
  refine jforE (fun n j K' => wX3_keep_10 z (ad (1, 0)) Q n (nI j) (cM z ad nm A L F I zz K' (upk k 0 1 (zz 108).toInt32) μ0)) A (fun j K' => kpA zz K' j ∧ K' 4 = K 4) ?_ ?_ K ⟨fun i hi => by omega, rfl⟩
  · intro n j K' hj hv hw
    show wX3_keep_10_b z (ad (1, 0)) Q (wX3_keep_10 z (ad (1, 0)) Q n) (nI j) _
    unfold wX3_keep_10_b
    have hx : (clist A L F I 4 0)[j]? = some j := by
      show (List.range A)[j]? = some j
      exact List.getElem?_range hj
    refine ⟨_, cg1_0 h.1, _, ⟨rfl, c_lh h hl0⟩, c_size h hl0 ⟨fun e => absurd e (lst_le hx (clist_len h.2)), fun _ => ⟨_, cg1_0 h.1, _, ⟨rfl, c_lh h hl0⟩, c_get h hl0 hx rfl ⟨cj7 h.1 hj, _, ⟨rfl, ch7 h.1 hj⟩, ?_⟩⟩⟩⟩
    unfold wX0_keep wX0_keep_0
    refine ⟨_, cg7_8 h.1 hj, _, cw7_10 h hj, _, cg7_9 h.1 hj, _, cw7_11 h hj, ?_⟩
    intro v13 e13
    rw [e13, nI_1]
    refine hw _ ⟨fun i hi => ?_, ?_⟩
    · by_cases e : i = j
      · subst e
        rw [upK_ne (by omega), upK_at, upK_at]
        exact ⟨rfl, rfl⟩
      · rw [upK_ne (by omega), upK_ne (by omega), upK_ne (by omega), upK_ne (by omega)]
        exact hv.1 i (by omega)
    · exact (funext (fun b => by rw [upK_ne (by omega), upK_ne (by omega)])).trans hv.2
  · intro K' hv
    show wX3_keep_10_b z (ad (1, 0)) Q (wX3_keep_10 z (ad (1, 0)) Q 0) (nI A) _
    unfold wX3_keep_10_b
    refine ⟨_, cg1_0 h.1, _, ⟨rfl, c_lh h hl0⟩, c_size h hl0 ?_⟩
    rw [n0]
    refine ⟨fun _ => ?_, fun e => absurd (Int32.le_refl _) e⟩
    intro v5 e5
    rw [e5]
    exact loopP K' _ hv.2 hv.1 upk_at (fun a b hab => upk_ne (by omega))
end KP
