/-! ===== the class goes back ===== -/
def gbA (y0 y : Nat → Int64) (n : Nat) : Prop := ∀ i, i < n → y i = y0 i ∧ y (50 + i) = y0 (50 + i)
def gbS (A : Nat) (I : Nat → Nat → Int32) (y0 y : Nat → Int64) (s : Nat) : Prop := y (sz1 s) = y0 (sz1 s) ∧ ∀ x, x < A → tI I x = s / 2 → y (sw1 s x) = y0 (sw1 s x)
def gbP (A : Nat) (I : Nat → Nat → Int32) (y0 K4 : Nat → Int64) (y : Nat → Int64) (K : Nat → Nat → Int64) (n : Nat) : Prop := ∀ i p, i < n → (ctops A I)[i]? = some p → (gbS A I y0 y (2 * p) ∧ K 4 (2 * p) = K4 (2 * p)) ∧ (gbS A I y0 y (2 * p + 1) ∧ K 4 (2 * p + 1) = K4 (2 * p + 1))
def gbL (y0 y : Nat → Int64) (n : Nat) : Prop := ∀ l, l < n → y (70 + l) = y0 (70 + l) ∧ y (82 + l) = y0 (82 + l) ∧ y (76 + l) = y0 (76 + l)
def gbF (y0 y : Nat → Int64) (n : Nat) : Prop := ∀ f, f < n → y (88 + f) = y0 (88 + f)
theorem sz1_rng {s : Nat} (h : s / 2 < 10) : 10 ≤ sz1 s ∧ sz1 s < 30 := by
  rcases Nat.mod_two_eq_zero_or_one s with e | e
  · rw [sz1_0 e]; omega
  · rw [sz1_1 e]; omega
theorem sw1_rng {s x : Nat} (h : x < 10) : 30 ≤ sw1 s x ∧ sw1 s x < 50 := by
  rcases Nat.mod_two_eq_zero_or_one s with e | e
  · rw [sw1_0 e]; omega
  · rw [sw1_1 e]; omega
theorem sz1_inj {s t : Nat} (h1 : s / 2 < 10) (h2 : t / 2 < 10) (h : sz1 s = sz1 t) : s = t := by
  rcases Nat.mod_two_eq_zero_or_one s with e | e <;> rcases Nat.mod_two_eq_zero_or_one t with e' | e'
  · rw [sz1_0 e, sz1_0 e'] at h; omega
  · rw [sz1_0 e, sz1_1 e'] at h; omega
  · rw [sz1_1 e, sz1_0 e'] at h; omega
  · rw [sz1_1 e, sz1_1 e'] at h; omega
theorem sw1_inj2 {s t x x' : Nat} (h1 : x < 10) (h2 : x' < 10) (h : sw1 s x = sw1 t x') : x = x' ∧ s % 2 = t % 2 := by
  rcases Nat.mod_two_eq_zero_or_one s with e | e <;> rcases Nat.mod_two_eq_zero_or_one t with e' | e'
  · rw [sw1_0 e, sw1_0 e'] at h; omega
  · rw [sw1_0 e, sw1_1 e'] at h; omega
  · rw [sw1_1 e, sw1_0 e'] at h; omega
  · rw [sw1_1 e, sw1_1 e'] at h; omega
section GB
variable {z : Nat × Nat} {ad : Nat × Nat → Nat} {nm : Nat → Nat × Nat} {A L F : Nat} {I : Nat → Nat → Int32} {K : Nat → Nat → Int64} {k : Nat → Nat → Int32} {μ0 : jM} {y y0 : Nat → Int64} {K4 : Nat → Int64}
theorem rdz16 (hn : cEn A L F I) {s x : Nat} (hxA : x < A) (hxt : tI I x = s / 2) : ∀ w, rdz A L F I w (sw1 s x) → w = (16, s) := by
  obtain ⟨hA, hL, hF, -⟩ := hn
  have h1 : (s % 2 = 0 ∧ sw1 s x = 30 + x) ∨ (s % 2 = 1 ∧ sw1 s x = 40 + x) := (Nat.mod_two_eq_zero_or_one s).imp (fun e => ⟨e, sw1_0 e⟩) (fun e => ⟨e, sw1_1 e⟩)
  rintro ⟨q, i⟩ hm
  simp only [rdz] at hm
  rcases hm with ⟨a, b, c⟩ | ⟨a, b, c⟩ | ⟨a, ⟨b, -⟩, c⟩ | ⟨a, e, b, d, c⟩ | ⟨a, b, c⟩ | ⟨a, b, c⟩
  · exfalso; omega
  · exfalso; omega
  · exfalso; omega
  · have ey : e = x := by omega
    subst ey
    exact pr_eq (by omega) (by omega)
  · exfalso; omega
  · exfalso; omega
/-- a side's weights, as they were -/
theorem c_copyBack (h : cE ad nm A L F I) {s : Nat} (hp : cisp A I (s / 2)) (hk : ∀ j, j < 10 → K (300 + s) j = cwt A I y0 s j) : ∃ y', (∀ m, (∀ x, x < A → tI I x = s / 2 → m ≠ sw1 s x) → y' m = y m) ∧ (∀ x, x < A → tI I x = s / 2 → y' (sw1 s x) = y0 (sw1 s x)) ∧ jcpj (cM z ad nm A L F I y K k μ0) (some (ad (19, s))) 0 (some (ad (16, s))) 0 10 (cM z ad nm A L F I y' K k μ0) := by
  let y' : Nat → Int64 := fun m => @ite _ (∃ x, x < A ∧ tI I x = s / 2 ∧ m = sw1 s x) (Classical.propDecidable _) (y0 m) (y m)
  have e1 : ∀ x, x < A → tI I x = s / 2 → y' (sw1 s x) = y0 (sw1 s x) := fun x hx ht => if_pos ⟨x, hx, ht, rfl⟩
  have e2 : ∀ m, (∀ x, x < A → tI I x = s / 2 → m ≠ sw1 s x) → y' m = y m := fun m hm => if_neg (fun ⟨x, hx, ht, e⟩ => hm x hx ht e)
  have e3 : cwt A I y' s = va_cpy (K (300 + s)) (cwt A I y s) 0 0 10 := by
    funext j
    have hlen := cmem_10 h (p := s / 2)
    by_cases hj : j < 10
    · have e4 : va_cpy (K (300 + s)) (cwt A I y s) 0 0 10 j = K (300 + s) j := by
        unfold va_cpy
        simp [hj]
      rw [e4, hk j hj]
      unfold cwt
      cases hx : (cmem A I (s / 2))[j]? with
      | none => rfl
      | some x =>
        have hm := mem_cmem.mp (List.mem_of_getElem? hx)
        exact e1 x hm.1 hm.2
    · have e4 : va_cpy (K (300 + s)) (cwt A I y s) 0 0 10 j = cwt A I y s j := by
        unfold va_cpy
        simp [hj]
      rw [e4]
      unfold cwt
      have hn : (cmem A I (s / 2))[j]? = none := List.getElem?_eq_none_iff.mpr (by omega)
      rw [hn]
  refine ⟨y', e2, e1, ad (19, s), ad (16, s), 10, 10, K (300 + s), cwt A I y s, rfl, rfl, ca19 h.1 hp, ca16 h.1 hp, by decide, by decide, by decide, by decide, by decide, ?_⟩
  refine (cM_up h.1 (cC16 hp) ((cC16 hp).trans (by rw [e3]; rfl)) (fun w hw => cC_cong (fun m hm => e2 m (fun x hx ht e => hw ?_)) (fun _ _ _ => rfl) (fun _ _ _ => rfl))).symm
  rw [e] at hm
  exact rdz16 h.2 hx ht w hm
theorem c_sideBack (h : cE ad nm A L F I) {s : Nat} (hp : cisp A I (s / 2)) (hk : kpS A I y0 K4 K s) {Q : Unit → jM → Prop} (q : ∀ y' K', (∀ m, m ≠ sz1 s → (∀ x, x < A → tI I x = s / 2 → m ≠ sw1 s x) → y' m = y m) → gbS A I y0 y' s → (∀ a b, ¬ (a = 4 ∧ b = s) → K' a b = K a b) → K' 4 s = K4 s → Q () (cM z ad nm A L F I y' K' k μ0)) : wX7_goBack z (ad (15, s)) (cM z ad nm A L F I y K k μ0) Q := by
  have hA := h.2.1
  obtain ⟨k2, k3, k5⟩ := hk
  unfold wX7_goBack wX7_goBack_0
  refine ⟨_, cg15_7 h.1 hp, _, cw15_2 h hp, _, cg15_8 h.1 hp, _, cw15_3 h hp, _, cg15_9 h.1 hp, _, cg15_4 h.1 hp, ?_⟩
  obtain ⟨y', o, g, w⟩ := c_copyBack (z := z) (y := vp_updL y (sz1 s) (K 2 s)) (y0 := y0) (K := upK K 4 s (K 3 s)) (k := k) (μ0 := μ0) h hp (fun j hj => (upK_ne (by omega)).trans (k5 j hj))
  have r1 := sz1_rng (s := s) (by have := hp.1; omega)
  refine ⟨_, w, q y' _ (fun m hm hx => (o m hx).trans (pk_uLn hm)) ⟨?_, g⟩ (fun a b hab => upK_ne hab) (upK_at.trans k3)⟩
  rw [o (sz1 s) (fun x hx _ => by have := sw1_rng (s := s) (x := x) (by omega); omega), pk_uLs]
  exact k2
theorem c_goBack (h : cE ad nm A L F I) (hk : Kept A L F I y0 K4 K k) (h108 : (y0 108).toInt32.toInt64 = y0 108) {Q : Unit → jM → Prop} (q : ∀ K', (∀ s, cisp A I (s / 2) → K' 4 s = K4 s) → (∀ a b, a ≠ 4 → K' a b = K a b) → Q () (cM z ad nm A L F I y0 K' k μ0)) : wX3_goBack z (ad (1, 0)) (cM z ad nm A L F I y K k μ0) Q := by
  have hA := h.2.1
  have hL := h.2.2.1
  have hF := h.2.2.2.1
  obtain ⟨ka, kp, kl, kf, kd⟩ := hk
  have hl0 : clv A I 4 0 := Or.inl ⟨rfl, by decide⟩
  have hl1 : clv A I 4 1 := Or.inl ⟨rfl, by decide⟩
  have hl2 : clv A I 4 2 := Or.inl ⟨rfl, by decide⟩
  have hl3 : clv A I 4 3 := Or.inl ⟨rfl, by decide⟩
  have n0 : (clist A L F I 4 0).length = A := List.length_range
  have n2 : (clist A L F I 4 2).length = L := List.length_range
  have n3 : (clist A L F I 4 3).length = F := List.length_range
  have fin : ∀ (y' : Nat → Int64) K', y' 108 = y0 108 → gbA y0 y' A → gbP A I y0 K4 y' K' (ctops A I).length → gbL y0 y' L → gbF y0 y' F → (∀ a b, a ≠ 4 → K' a b = K a b) → Q () (cM z ad nm A L F I y' K' k μ0) := by
    intro y' K' d a p l f o
    have tp : ∀ t, cisp A I t → ∃ i, i < (ctops A I).length ∧ (ctops A I)[i]? = some t := by
      intro t ht
      obtain ⟨i, hi, e⟩ := List.getElem_of_mem (mem_ctops.mpr ht)
      exact ⟨i, hi, by rw [List.getElem?_eq_getElem hi, e]⟩
    have sd : ∀ s, cisp A I (s / 2) → gbS A I y0 y' s ∧ K' 4 s = K4 s := by
      intro s hs
      obtain ⟨i, hi, e⟩ := tp _ hs
      obtain ⟨a1, a2⟩ := p i _ hi e
      rcases Nat.mod_two_eq_zero_or_one s with m | m
      · have : 2 * (s / 2) = s := by omega
        rw [this] at a1
        exact a1
      · have : 2 * (s / 2) + 1 = s := by omega
        rw [this] at a2
        exact a2
    have e : cM z ad nm A L F I y' K' k μ0 = cM z ad nm A L F I y0 K' k μ0 := by
      refine cM_cong (fun x m hm => ?_) (fun _ _ _ _ => rfl) (fun _ _ _ _ => rfl)
      obtain ⟨q, j⟩ := x
      simp only [rdz] at hm
      rcases hm with ⟨-, -, c⟩ | ⟨-, b, c⟩ | ⟨-, b, c⟩ | ⟨-, e, b, d, c⟩ | ⟨-, b, c⟩ | ⟨-, b, c⟩
      · rw [c, d]
      · rcases c with c | c
        · rw [c]; exact (a j b).1
        · rw [c]; exact (a j b).2
      · have := (sd j b).1.1
        rcases c with ⟨c, e⟩ | ⟨c, e⟩
        · rw [e, ← sz1_0 c]; exact this
        · rw [e, ← sz1_1 c]; exact this
      · have ht : cisp A I (j / 2) := by rw [← d]; exact h.2.top e b
        have := (sd j ht).1.2 e b d
        rcases c with ⟨c, w⟩ | ⟨c, w⟩
        · rw [w, ← sw1_0 (i := e) c]; exact this
        · rw [w, ← sw1_1 (i := e) c]; exact this
      · obtain ⟨b1, b2, b3⟩ := l j b
        rcases c with c | c | c
        · rw [c]; exact b1
        · rw [c]; exact b3
        · rw [c]; exact b2
      · rw [c]; exact f j b
    rw [e]
    exact q K' (fun s hs => (sd s hs).2) o
  have loopF : ∀ (y1 : Nat → Int64) K1, y1 108 = y0 108 → gbA y0 y1 A → gbP A I y0 K4 y1 K1 (ctops A I).length → gbL y0 y1 L → (∀ a b, a ≠ 4 → K1 a b = K a b) → ∃ n, wX3_goBack_112 z (ad (1, 0)) Q n (nI 0) (cM z ad nm A L F I y1 K1 k μ0) := by
    intro y1 K1 d a p l o
    refine jforE (fun n j y' => wX3_goBack_112 z (ad (1, 0)) Q n (nI j) (cM z ad nm A L F I y' K1 k μ0)) F (fun j y' => gbF y0 y' j ∧ ∀ m, (m < 88 ∨ 108 ≤ m) → y' m = y1 m) ?_ ?_ y1 ⟨fun i hi => by omega, fun _ _ => rfl⟩
    · intro n j y' hj hv hw
      show wX3_goBack_112_b z (ad (1, 0)) Q (wX3_goBack_112 z (ad (1, 0)) Q n) (nI j) _
      unfold wX3_goBack_112_b
      have hx : (clist A L F I 4 3)[j]? = some j := by
        show (List.range F)[j]? = some j
        exact List.getElem?_range hj
      refine ⟨_, cg1_3 h.1, _, ⟨rfl, c_lh h hl3⟩, c_size h hl3 ⟨fun e => absurd e (lst_le hx (clist_len h.2)), fun _ => ⟨_, cg1_3 h.1, _, ⟨rfl, c_lh h hl3⟩, c_get h hl3 hx rfl ⟨cj21 h.1 hj, _, ⟨rfl, ch21 h.1 hj⟩, ?_⟩⟩⟩⟩
      unfold wX4_goBack wX4_goBack_0
      obtain ⟨μ1, w1, w2, w3⟩ := cw21_34 (z := z) (zz := y') (K := K1) (k := k) (μ0 := μ0) h hj (kf j hj).1 (kf j hj).2
      refine ⟨_, cg21_5 h.1 hj, μ1, w1, _, w2 6 (by decide), _, w3, ?_⟩
      intro v13 e13
      rw [e13, nI_1]
      refine hw _ ⟨fun f hf => ?_, fun m hm => (pk_uLn (by omega)).trans (hv.2 m hm)⟩
      by_cases e : f = j
      · subst e; exact pk_uLs
      · rw [pk_uLn (by omega)]; exact hv.1 f (by omega)
    · intro y' hv
      show wX3_goBack_112_b z (ad (1, 0)) Q (wX3_goBack_112 z (ad (1, 0)) Q 0) (nI F) _
      unfold wX3_goBack_112_b
      refine ⟨_, cg1_3 h.1, _, ⟨rfl, c_lh h hl3⟩, c_size h hl3 ?_⟩
      rw [n3]
      refine ⟨fun _ => fin y' K1 ((hv.2 108 (by omega)).trans d) (fun i hi => ?_) (fun i t hi ht => ?_) (fun i hi => ?_) hv.1 o, fun e => absurd (Int32.le_refl _) e⟩
      · rw [hv.2 i (by omega), hv.2 (50 + i) (by omega)]; exact a i hi
      · obtain ⟨⟨⟨a1, a2⟩, a3⟩, ⟨b1, b2⟩, b3⟩ := p i t hi ht
        have htA := (mem_ctops.mp (List.mem_of_getElem? ht)).1
        have r1 := sz1_rng (s := 2 * t) (by omega)
        have r2 := sz1_rng (s := 2 * t + 1) (by omega)
        refine ⟨⟨⟨(hv.2 _ (by omega)).trans a1, fun x hx e => ?_⟩, a3⟩, ⟨(hv.2 _ (by omega)).trans b1, fun x hx e => ?_⟩, b3⟩
        · have := sw1_rng (s := 2 * t) (x := x) (by omega)
          exact (hv.2 _ (by omega)).trans (a2 x hx e)
        · have := sw1_rng (s := 2 * t + 1) (x := x) (by omega)
          exact (hv.2 _ (by omega)).trans (b2 x hx e)
      · obtain ⟨a1, a2, a3⟩ := l i hi
        exact ⟨(hv.2 _ (by omega)).trans a1, (hv.2 _ (by omega)).trans a2, (hv.2 _ (by omega)).trans a3⟩
  have loopL : ∀ (y1 : Nat → Int64) K1, y1 108 = y0 108 → gbA y0 y1 A → gbP A I y0 K4 y1 K1 (ctops A I).length → (∀ a b, a ≠ 4 → K1 a b = K a b) → ∃ n, wX3_goBack_79 z (ad (1, 0)) Q n (nI 0) (cM z ad nm A L F I y1 K1 k μ0) := by
    intro y1 K1 d a p o
    have kl1 : kpL y0 K1 L := kpL_o kl (fun a b hab => o a b (by omega))
    refine jforE (fun n j y' => wX3_goBack_79 z (ad (1, 0)) Q n (nI j) (cM z ad nm A L F I y' K1 k μ0)) L (fun j y' => gbL y0 y' j ∧ ∀ m, (m < 70 ∨ 88 ≤ m) → y' m = y1 m) ?_ ?_ y1 ⟨fun i hi => by omega, fun _ _ => rfl⟩
    · intro n j y' hj hv hw
      show wX3_goBack_79_b z (ad (1, 0)) Q (wX3_goBack_79 z (ad (1, 0)) Q n) (nI j) _
      unfold wX3_goBack_79_b
      have hx : (clist A L F I 4 2)[j]? = some j := by
        show (List.range L)[j]? = some j
        exact List.getElem?_range hj
      obtain ⟨x1, x2, x3⟩ := kl1 j hj
      refine ⟨_, cg1_2 h.1, _, ⟨rfl, c_lh h hl2⟩, c_size h hl2 ⟨fun e => absurd e (lst_le hx (clist_len h.2)), fun _ => ⟨_, cg1_2 h.1, _, ⟨rfl, c_lh h hl2⟩, c_get h hl2 hx rfl ⟨cj20 h.1 hj, _, ⟨rfl, ch20 h.1 hj⟩, ?_⟩⟩⟩⟩
      unfold wX5_goBack wX5_goBack_0
      refine ⟨_, cg20_6 h.1 hj, _, cw20_3 h hj, _, cg20_7 h.1 hj, _, cw20_4 h hj, _, cg20_8 h.1 hj, _, cw20_5 h hj, ?_⟩
      intro v13 e13
      rw [e13, nI_1]
      refine hw _ ⟨fun l hl => ?_, fun m hm => ?_⟩
      · by_cases e : l = j
        · subst e
          refine ⟨?_, ?_, ?_⟩
          · rw [pk_uLn (by omega), pk_uLn (by omega), pk_uLs, x1]
          · rw [pk_uLn (by omega), pk_uLs, x2]
          · rw [pk_uLs, x3]
        · rw [pk_uLn (by omega), pk_uLn (by omega), pk_uLn (by omega), pk_uLn (by omega), pk_uLn (by omega), pk_uLn (by omega), pk_uLn (by omega), pk_uLn (by omega), pk_uLn (by omega)]
          exact hv.1 l (by omega)
      · rw [pk_uLn (by omega), pk_uLn (by omega), pk_uLn (by omega)]
        exact hv.2 m hm
    · intro y' hv
      show wX3_goBack_79_b z (ad (1, 0)) Q (wX3_goBack_79 z (ad (1, 0)) Q 0) (nI L) _
      unfold wX3_goBack_79_b
      refine ⟨_, cg1_2 h.1, _, ⟨rfl, c_lh h hl2⟩, c_size h hl2 ?_⟩
      rw [n2]
      refine ⟨fun _ => ?_, fun e => absurd (Int32.le_refl _) e⟩
      intro v5 e5
      rw [e5]
      refine loopF y' K1 ((hv.2 108 (by omega)).trans d) (fun i hi => ?_) (fun i t hi ht => ?_) hv.1 o
      · rw [hv.2 i (by omega), hv.2 (50 + i) (by omega)]; exact a i hi
      · obtain ⟨⟨⟨a1, a2⟩, a3⟩, ⟨b1, b2⟩, b3⟩ := p i t hi ht
        have htA := (mem_ctops.mp (List.mem_of_getElem? ht)).1
        have r1 := sz1_rng (s := 2 * t) (by omega)
        have r2 := sz1_rng (s := 2 * t + 1) (by omega)
        refine ⟨⟨⟨(hv.2 _ (by omega)).trans a1, fun x hx e => ?_⟩, a3⟩, ⟨(hv.2 _ (by omega)).trans b1, fun x hx e => ?_⟩, b3⟩
        · have := sw1_rng (s := 2 * t) (x := x) (by omega)
          exact (hv.2 _ (by omega)).trans (a2 x hx e)
        · have := sw1_rng (s := 2 * t + 1) (x := x) (by omega)
          exact (hv.2 _ (by omega)).trans (b2 x hx e)
  have loopP : ∀ (y1 : Nat → Int64), y1 108 = y0 108 → gbA y0 y1 A → ∃ n, wX3_goBack_43 z (ad (1, 0)) Q n (nI 0) (cM z ad nm A L F I y1 K k μ0) := by
    intro y1 d a
    refine jforE (fun n j t => wX3_goBack_43 z (ad (1, 0)) Q n (nI j) (cM z ad nm A L F I t.1 t.2 k μ0)) (ctops A I).length (fun j (t : (Nat → Int64) × (Nat → Nat → Int64)) => gbP A I y0 K4 t.1 t.2 j ∧ (∀ m, (m < 10 ∨ 50 ≤ m) → t.1 m = y1 m) ∧ ∀ a b, a ≠ 4 → t.2 a b = K a b) ?_ ?_ (y1, K) ⟨fun i p hi => by omega, fun _ _ => rfl, fun _ _ _ => rfl⟩
    · intro n j t hj hv hw
      obtain ⟨y', K'⟩ := t
      show wX3_goBack_43_b z (ad (1, 0)) Q (wX3_goBack_43 z (ad (1, 0)) Q n) (nI j) (cM z ad nm A L F I y' K' k μ0)
      unfold wX3_goBack_43_b
      have hx : (clist A L F I 4 1)[j]? = some ((ctops A I)[j]'hj) := List.getElem?_eq_getElem hj
      generalize (ctops A I)[j]'hj = p at hx
      have ht := mem_ctops.mp (List.mem_of_getElem? hx)
      obtain ⟨s0, s1⟩ := kp j p hj hx
      have e20 : (2 * p) / 2 = p := by omega
      have e21 : (2 * p + 1) / 2 = p := by omega
      have h0 : cisp A I (2 * p / 2) := by rw [e20]; exact ht
      have h1 : cisp A I ((2 * p + 1) / 2) := by rw [e21]; exact ht
      have pA := ht.1
      have r1 := sz1_rng (s := 2 * p) (by omega)
      have r2 := sz1_rng (s := 2 * p + 1) (by omega)
      refine ⟨_, cg1_1 h.1, _, ⟨rfl, c_lh h hl1⟩, c_size h hl1 ⟨fun e => absurd e (lst_le hx (clist_len h.2)), fun _ => ⟨_, cg1_1 h.1, _, ⟨rfl, c_lh h hl1⟩, c_get h hl1 hx rfl ⟨cj7 h.1 ht.1, _, cg7_2 h.1 ht.1, ?_⟩⟩⟩⟩
      rw [h.self ht]
      refine ⟨_, ⟨rfl, ch10 h.1 ht⟩, ?_⟩
      unfold wX6_goBack wX6_goBack_0
      refine ⟨_, cg10_1 h.1 ht, _, ⟨rfl, ch15 h.1 h0⟩, c_sideBack h h0 (kpS_o s0 (fun a b hab => hv.2.2 a b (by omega))) (fun y2 K2 o2 g2 c2 d2 => ⟨_, cg10_2 h.1 ht, _, ⟨rfl, ch15 h.1 h1⟩, c_sideBack h h1 (kpS_o s1 (fun a b hab => (c2 a b (by omega)).trans (hv.2.2 a b (by omega)))) (fun y3 K3 o3 g3 c3 d3 => ?_)⟩)⟩
      intro v16 e16
      rw [e16, nI_1]
      -- what the second side leaves of the first, and both of the pools before
      have far : ∀ m, (m < 10 ∨ 50 ≤ m) → y3 m = y1 m := by
        intro m hm
        rw [o3 m (by omega) (fun x hx' _ => by have := sw1_rng (s := 2 * p + 1) (x := x) (by omega); omega), o2 m (by omega) (fun x hx' _ => by have := sw1_rng (s := 2 * p) (x := x) (by omega); omega)]
        exact hv.2.1 m hm
      refine hw (y3, K3) ⟨fun i p' hi hp' => ?_, far, fun a b hab => (c3 a b (by omega)).trans ((c2 a b (by omega)).trans (hv.2.2 a b hab))⟩
      by_cases e : i = j
      · subst e
        have : p' = p := Option.some.inj (hp'.symm.trans hx)
        subst this
        refine ⟨⟨⟨?_, fun x hx' htx => ?_⟩, ?_⟩, g3, d3⟩
        · show y3 (sz1 (2 * p')) = _
          rw [o3 (sz1 (2 * p')) (fun e => by have := sz1_inj (by omega) (by omega) e; omega) (fun x hx' _ => by have := sw1_rng (s := 2 * p' + 1) (x := x) (by omega); omega)]
          exact g2.1
        · have hxw := sw1_rng (s := 2 * p') (x := x) (by omega)
          show y3 (sw1 (2 * p') x) = _
          rw [o3 (sw1 (2 * p') x) (by omega) (fun x' hx'' _ e => by have := (sw1_inj2 (by omega) (by omega) e).2; omega)]
          exact g2.2 x hx' htx
        · exact (c3 4 (2 * p') (by omega)).trans d2
      · have hne : p' ≠ p := fun w => e (ctops_inj hp' (by rw [w]; exact hx))
        have ht' := mem_ctops.mp (List.mem_of_getElem? hp')
        have pA' := ht'.1
        have keepS : ∀ s, s / 2 = p' → gbS A I y0 y' s → gbS A I y0 y3 s := by
          intro s hs g
          have r3 := sz1_rng (s := s) (by omega)
          refine ⟨?_, fun x hx' htx => ?_⟩
          · rw [o3 _ (fun e => by have := sz1_inj (by omega) (by omega) e; omega) (fun x hx' _ => by have := sw1_rng (s := 2 * p + 1) (x := x) (by omega); omega), o2 _ (fun e => by have := sz1_inj (by omega) (by omega) e; omega) (fun x hx' _ => by have := sw1_rng (s := 2 * p) (x := x) (by omega); omega)]
            exact g.1
          · have hxw := sw1_rng (s := s) (x := x) (by omega)
            rw [o3 _ (by omega) (fun x' hx'' ht'' e => by have := (sw1_inj2 (by omega) (by omega) e).1; subst this; omega), o2 _ (by omega) (fun x' hx'' ht'' e => by have := (sw1_inj2 (by omega) (by omega) e).1; subst this; omega)]
            exact g.2 x hx' htx
        obtain ⟨⟨a1, a2⟩, b1, b2⟩ := hv.1 i p' (by omega) hp'
        exact ⟨⟨keepS _ (by omega) a1, (c3 _ _ (by omega)).trans ((c2 _ _ (by omega)).trans a2)⟩, keepS _ (by omega) b1, (c3 _ _ (by omega)).trans ((c2 _ _ (by omega)).trans b2)⟩
    · intro t hv
      obtain ⟨y', K'⟩ := t
      show wX3_goBack_43_b z (ad (1, 0)) Q (wX3_goBack_43 z (ad (1, 0)) Q 0) (nI (ctops A I).length) (cM z ad nm A L F I y' K' k μ0)
      unfold wX3_goBack_43_b
      refine ⟨_, cg1_1 h.1, _, ⟨rfl, c_lh h hl1⟩, c_size h hl1 ⟨fun _ => ?_, fun e => absurd (Int32.le_refl _) e⟩⟩
      intro v5 e5
      rw [e5]
      refine loopL y' K' ((hv.2.1 108 (by omega)).trans d) (fun i hi => ?_) hv.1 hv.2.2
      have e1 : y' i = y1 i := hv.2.1 i (by omega)
      have e2 : y' (50 + i) = y1 (50 + i) := hv.2.1 (50 + i) (by omega)
      rw [e1, e2]
      exact a i hi
  unfold wX3_goBack wX3_goBack_0
  refine ⟨_, cg1_7 h.1, _, cw1_6 h, ?_⟩
  intro v3 e3
  rw [e3]
  refine jforE (fun n j y' => wX3_goBack_10 z (ad (1, 0)) Q n (nI j) (cM z ad nm A L F I y' K k μ0)) A (fun j y' => gbA y0 y' j ∧ y' 108 = y0 108) ?_ ?_ _ ⟨fun i hi => by omega, by rw [pk_uLs, kd, h108]⟩
  · intro n j y' hj hv hw
    show wX3_goBack_10_b z (ad (1, 0)) Q (wX3_goBack_10 z (ad (1, 0)) Q n) (nI j) _
    unfold wX3_goBack_10_b
    have hx : (clist A L F I 4 0)[j]? = some j := by
      show (List.range A)[j]? = some j
      exact List.getElem?_range hj
    refine ⟨_, cg1_0 h.1, _, ⟨rfl, c_lh h hl0⟩, c_size h hl0 ⟨fun e => absurd e (lst_le hx (clist_len h.2)), fun _ => ⟨_, cg1_0 h.1, _, ⟨rfl, c_lh h hl0⟩, c_get h hl0 hx rfl ⟨cj7 h.1 hj, _, ⟨rfl, ch7 h.1 hj⟩, ?_⟩⟩⟩⟩
    unfold wX0_goBack wX0_goBack_0
    refine ⟨_, cg7_10 h.1 hj, _, cw7_8 h hj, _, cg7_11 h.1 hj, _, cw7_9 h hj, ?_⟩
    intro v13 e13
    rw [e13, nI_1]
    refine hw _ ⟨fun i hi => ?_, ?_⟩
    · by_cases e : i = j
      · subst e
        rw [pk_uLn (by omega), pk_uLs, pk_uLs]
        exact ka i hj
      · rw [pk_uLn (by omega), pk_uLn (by omega), pk_uLn (by omega), pk_uLn (by omega)]
        exact hv.1 i (by omega)
    · rw [pk_uLn (by omega), pk_uLn (by omega)]
      exact hv.2
  · intro y' hv
    show wX3_goBack_10_b z (ad (1, 0)) Q (wX3_goBack_10 z (ad (1, 0)) Q 0) (nI A) _
    unfold wX3_goBack_10_b
    refine ⟨_, cg1_0 h.1, _, ⟨rfl, c_lh h hl0⟩, c_size h hl0 ?_⟩
    rw [n0]
    refine ⟨fun _ => ?_, fun e => absurd (Int32.le_refl _) e⟩
    intro v5 e5
    rw [e5]
    exact loopP y' hv.2 hv.1
end GB
