/-! ===== lists in memory; loops over lists ===== -/
theorem l_size {z : Nat × Nat} {μ : jM} {b : Nat} {v0 v1 : Value} {n : Int32} (h : μ b = some (.inr (2, [v0, v1, .int n]))) {Q : Int32 → jM → Prop} (q : Q n μ) : wJx4a65c_size_8abf5 z b μ Q := ⟨n, jg_at h, q⟩
theorem l_get {z : Nat × Nat} {μ : jM} {b d len cap i : Nat} {v0 : Value} {x : Int32} {f : Nat → Option Nat} (h : μ b = some (.inr (2, [v0, .ref d, .int (nI len)]))) (ha : μ d = some (.inl (3, cap, .inr (.inr (.inr (.inr f)))))) (hi : i < len) (hl : len ≤ cap) (hc : cap < 2 ^ 31) (hx : x = nI i) {Q : Option Nat → jM → Prop} (q : Q (f i) μ) : wJx4a65c_get_915e3 z b x μ Q := by
  subst hx
  refine ⟨nI len, jg_at h, ?_⟩
  unfold wJ15_checkIndex_7cf53 wJ15_checkIndex_7cf53_0 wJ3_checkIndex_8e157 wJ3_checkIndex_8e157_0
  exact ⟨fun c => absurd c (nI_pos (by omega)), fun _ => ⟨fun _ => ⟨⟨_, h⟩, some d, jg_at h, f i, jaq_at ha (by omega) hc rfl, q⟩, fun c => absurd (nI_lt hi (by omega)) c⟩⟩
/-- which lists there are -/
def clv (A : Nat) (I : Nat → Nat → Int32) (q j : Nat) : Prop := (q = 4 ∧ j < 5) ∨ (q = 8 ∧ j < A) ∨ (q = 11 ∧ cisp A I j) ∨ (q = 13 ∧ cisp A I j)
theorem cins_len {I : Nat → Nat → Int32} {x : Nat} : ∀ l : List Nat, (cins I x l).length = l.length + 1
  | [] => rfl
  | y :: l => by
    unfold cins
    split
    · rw [List.length_cons, cins_len l, List.length_cons]
    · rfl
theorem crk_len {I : Nat → Nat → Int32} {p : Nat} : ∀ L, (crk I p L).length ≤ L
  | 0 => Nat.le_refl 0
  | L + 1 => by
    have := crk_len (I := I) (p := p) L
    unfold crk
    split
    · rw [cins_len]; omega
    · omega
section LS
variable {z : Nat × Nat} {ad : Nat × Nat → Nat} {nm : Nat → Nat × Nat} {A L F : Nat} {I : Nat → Nat → Int32} {zz : Nat → Int64} {K : Nat → Nat → Int64} {k : Nat → Nat → Int32} {μ0 : jM} {q j : Nat}
theorem cC_ob (hl : clv A I q j) : cC z ad A L F I zz K k (q, j) = some (.inr (2, clob z ad A L F I k q j)) := by
  rcases hl with ⟨rfl, h⟩ | ⟨rfl, h⟩ | ⟨rfl, h⟩ | ⟨rfl, h⟩ <;> exact if_pos h
theorem cC_ar (hl : clv A I q j) (hne : clist A L F I q j ≠ []) : cC z ad A L F I zz K k (q + 1, j) = some (.inl (3, ccap (clist A L F I q j).length, .inr (.inr (.inr (.inr (clar ad A L F I q j)))))) := by
  rcases hl with ⟨rfl, h⟩ | ⟨rfl, h⟩ | ⟨rfl, h⟩ | ⟨rfl, h⟩ <;> exact if_pos ⟨h, hne⟩
theorem clist_len (hn : cEn A L F I) : (clist A L F I q j).length ≤ 20 := by
  obtain ⟨hA, hL, hF, -⟩ := hn
  have hf : ∀ (p : Nat → Bool), ((List.range A).filter p).length ≤ A := fun p => Nat.le_trans (List.length_filter_le _ _) (by rw [List.length_range]; exact Nat.le_refl _)
  have hr := crk_len (I := I) (p := j) L
  unfold clist
  split
  · exact Nat.le_trans (hf _) (by omega)
  split
  · exact Nat.le_trans (hf _) (by omega)
  split
  · omega
  split
  · rw [List.length_range]; omega
  split
  · exact Nat.le_trans (hf _) (by omega)
  split
  · rw [List.length_range]; omega
  split
  · rw [List.length_range]; omega
  · rw [List.length_range]; omega
theorem ccap_le {n : Nat} (h : n ≤ 22) : n ≤ ccap n ∧ ccap n ≤ 22 := by
  unfold ccap
  split
  · omega
  split
  · omega
  · omega
theorem clob_ne (hne : clist A L F I q j ≠ []) : clob z ad A L F I k q j = [.int (k (10 + q) j), .ref (ad (q + 1, j)), .int (nI (clist A L F I q j).length)] := by
  unfold clob
  rw [if_neg hne]
theorem c_lh (h : cE ad nm A L F I) (hl : clv A I q j) : ∃ fs, cM z ad nm A L F I zz K k μ0 (ad (q, j)) = some (.inr (2, fs)) := ⟨_, cM_at h.1 (cC_ob hl)⟩
theorem c_size (h : cE ad nm A L F I) (hl : clv A I q j) {Q : Int32 → jM → Prop} (w : Q (nI (clist A L F I q j).length) (cM z ad nm A L F I zz K k μ0)) : wJx4a65c_size_8abf5 z (ad (q, j)) (cM z ad nm A L F I zz K k μ0) Q :=
  l_size (cM_at h.1 (cC_ob hl)) w
theorem c_get (h : cE ad nm A L F I) (hl : clv A I q j) {i x : Nat} {v : Int32} (hx : (clist A L F I q j)[i]? = some x) (hv : v = nI i) {Q : Option Nat → jM → Prop} (w : Q (some (ad (cel q j, x))) (cM z ad nm A L F I zz K k μ0)) : wJx4a65c_get_915e3 z (ad (q, j)) v (cM z ad nm A L F I zz K k μ0) Q := by
  have hne : clist A L F I q j ≠ [] := fun e => by rw [e] at hx; cases hx
  have hi := (List.getElem?_eq_some_iff.mp hx).1
  have h20 := clist_len (q := q) (j := j) h.2
  have hc := ccap_le (n := (clist A L F I q j).length) (by omega)
  have e : clar ad A L F I q j i = some (ad (cel q j, x)) := by unfold clar; rw [hx]; rfl
  refine l_get (cap := ccap (clist A L F I q j).length) (f := clar ad A L F I q j) ((cM_at h.1 (cC_ob hl)).trans (by rw [clob_ne hne])) (cM_at h.1 (cC_ar hl hne)) hi hc.1 (by omega) hv ?_
  rw [e]
  exact w
end LS
/-- a loop over the places of a list -/
theorem jforl {σ : Type} (P : Nat → Nat → σ → Prop) (l : List Nat) (S : Nat → σ → σ) (s0 : σ) (step : ∀ n i x s, l[i]? = some x → s = foldS S (l.take i) s0 → P n (i + 1) (S x s) → P (n + 1) i s) (done : P 1 l.length (foldS S l s0)) : ∃ n, P n 0 s0 := by
  have h : ∀ j, j ≤ l.length → P (j + 1) (l.length - j) (foldS S (l.take (l.length - j)) s0) := by
    intro j
    induction j with
    | zero => intro _; rw [Nat.sub_zero, List.take_length]; exact done
    | succ j ih =>
      intro hj
      have h1 := ih (by omega)
      have e : l.length - j = l.length - (j + 1) + 1 := by omega
      have hx : l[l.length - (j + 1)]? = some (l[l.length - (j + 1)]'(by omega)) := List.getElem?_eq_getElem (by omega)
      rw [e, List.take_succ, foldS_app, hx] at h1
      exact step _ _ _ _ hx rfl h1
  have h1 := h l.length (Nat.le_refl _)
  rw [Nat.sub_self] at h1
  exact ⟨_, h1⟩
/-- down through the places of a list -/
theorem jforr {σ : Type} (P : Nat → Nat → σ → Prop) (l : List Nat) (S : Nat → σ → σ) (s0 : σ) (step : ∀ n i x s, l[i]? = some x → P n i (S x s) → P (n + 1) (i + 1) s) (done : P 1 0 (foldS S l.reverse s0)) : ∃ n, P n l.length s0 := by
  have h : ∀ j, j ≤ l.length → ∀ s, P 1 0 (foldS S (l.take j).reverse s) → P (j + 1) j s := by
    intro j
    induction j with
    | zero => intro _ s d; exact d
    | succ j ih =>
      intro hj s d
      have hx : l[j]? = some (l[j]'(by omega)) := List.getElem?_eq_getElem (by omega)
      rw [List.take_succ, hx, Option.toList_some, List.reverse_append, foldS_app] at d
      exact step _ _ _ _ hx (ih (by omega) _ d)
  refine ⟨l.length + 1, h l.length (Nat.le_refl _) s0 ?_⟩
  rw [List.take_length]
  exact done
theorem lst_le {l : List Nat} {i x : Nat} (h : l[i]? = some x) (h20 : l.length ≤ 20) : ¬ nI l.length ≤ nI i := nI_ge (List.getElem?_eq_some_iff.mp h).1 (by omega)
theorem range_at {n i x : Nat} (h : (List.range n)[i]? = some x) : x = i ∧ i < n := by
  obtain ⟨hl, e⟩ := List.getElem?_eq_some_iff.mp h
  rw [List.getElem_range] at e
  rw [List.length_range] at hl
  exact ⟨e.symm, hl⟩
