/-! ===== memory by names: cells made, changed, made anew ===== -/
def gM (C : Nat × Nat → Option jE) (nm : Nat → Nat × Nat) (μ0 : jM) : jM := fun a => match C (nm a) with
  | some e => some e
  | none => μ0 a
def gOk (C : Nat × Nat → Option jE) (ad : Nat × Nat → Nat) (nm : Nat → Nat × Nat) : Prop :=
  (∀ x e, C x = some e → nm (ad x) = x) ∧ (∀ a, nm a = (100, 0) ∨ ((∃ e, C (nm a) = some e) ∧ a = ad (nm a))) ∧ C (100, 0) = none
def upC (C : Nat × Nat → Option jE) (x : Nat × Nat) (e : jE) : Nat × Nat → Option jE := fun y => if y = x then some e else C y
def upA (ad : Nat × Nat → Nat) (x : Nat × Nat) (q : Nat) : Nat × Nat → Nat := fun y => if y = x then q else ad y
def upN (nm : Nat → Nat × Nat) (q : Nat) (x : Nat × Nat) : Nat → Nat × Nat := fun a => if a = q then x else nm a
/-- what lies there besides stays, and what is named newly was nothing -/
def nxt (nm : Nat → Nat × Nat) (μ0 : jM) (nm' : Nat → Nat × Nat) (μ0' : jM) : Prop := (∀ a, nm a = (100, 0) → μ0 a ≠ none → nm' a = (100, 0) ∧ μ0' a = μ0 a)
section GM
variable {C : Nat × Nat → Option jE} {ad : Nat × Nat → Nat} {nm nm' nm'' : Nat → Nat × Nat} {μ0 μ0' μ0'' : jM} {x y : Nat × Nat} {e e0 : jE} {q : Nat}
theorem nxt_refl : nxt nm μ0 nm μ0 := fun _ h _ => ⟨h, rfl⟩
theorem nxt_tr (h1 : nxt nm μ0 nm' μ0') (h2 : nxt nm' μ0' nm'' μ0'') : nxt nm μ0 nm'' μ0'' := fun a ha hn => by
  obtain ⟨a1, a2⟩ := h1 a ha hn
  obtain ⟨b1, b2⟩ := h2 a a1 (by rw [a2]; exact hn)
  exact ⟨b1, b2.trans a2⟩
theorem upC_at : upC C x e x = some e := if_pos rfl
theorem upC_no (h : y ≠ x) : upC C x e y = C y := if_neg h
theorem upA_at : upA ad x q x = q := if_pos rfl
theorem upA_no (h : y ≠ x) : upA ad x q y = ad y := if_neg h
theorem upC_up {e' : jE} : upC (upC C x e) x e' = upC C x e' := by
  funext y
  unfold upC
  by_cases h : y = x <;> simp [h]
theorem g_at (h : gOk C ad nm) (hx : C x = some e) : gM C nm μ0 (ad x) = some e := by
  unfold gM
  rw [h.1 x e hx, hx]
theorem g_none (h : gOk C ad nm) (hq : gM C nm μ0 q = none) : nm q = (100, 0) ∧ μ0 q = none := by
  unfold gM at hq
  rcases h.2.1 q with h1 | ⟨⟨e, h1⟩, -⟩
  · rw [h1, h.2.2] at hq
    exact ⟨h1, hq⟩
  · rw [h1] at hq
    cases hq
theorem g_ne (h : gOk C ad nm) (hx : C x = some e) (hq : gM C nm μ0 q = none) : ad x ≠ q := fun v => by
  rw [← v, g_at h hx] at hq
  cases hq
theorem g_put (h : gOk C ad nm) (hx : C x = some e0) : va_up (gM C nm μ0) (ad x) (some e) = gM (upC C x e) nm μ0 := by
  funext a
  unfold va_up gM
  by_cases ha : a = ad x
  · rw [if_pos ha, ha, h.1 x e0 hx, upC_at]
  · rw [if_neg ha]
    by_cases hn : nm a = x
    · rcases h.2.1 a with h1 | ⟨-, h2⟩
      · rw [hn] at h1
        rw [h1, h.2.2] at hx
        cases hx
      · rw [hn] at h2
        exact absurd h2 ha
    · rw [upC_no hn]
theorem g_putOk (h : gOk C ad nm) (hx : C x = some e0) : gOk (upC C x e) ad nm := by
  refine ⟨fun y e' hy => ?_, fun a => ?_, ?_⟩
  · by_cases hyx : y = x
    · rw [hyx]; exact h.1 x e0 hx
    · rw [upC_no hyx] at hy; exact h.1 y e' hy
  · rcases h.2.1 a with h1 | ⟨⟨e', h1⟩, h2⟩
    · exact Or.inl h1
    · refine Or.inr ⟨?_, h2⟩
      by_cases hn : nm a = x
      · rw [hn]; exact ⟨e, upC_at⟩
      · rw [upC_no hn]; exact ⟨e', h1⟩
  · by_cases hn : (100, 0) = x
    · rw [← hn, h.2.2] at hx; cases hx
    · rw [upC_no hn]; exact h.2.2
theorem g_new (h : gOk C ad nm) (hq : gM C nm μ0 q = none) (hx : C x = none) (h100 : x ≠ (100, 0)) : va_up (gM C nm μ0) q (some e) = gM (upC C x e) (upN nm q x) μ0 ∧ gOk (upC C x e) (upA ad x q) (upN nm q x) ∧ nxt nm μ0 (upN nm q x) μ0 := by
  obtain ⟨q1, q2⟩ := g_none h hq
  have nx : ∀ a, nm a ≠ x := fun a v => by
    rcases h.2.1 a with h1 | ⟨⟨e', h1⟩, -⟩
    · exact h100 (v.symm.trans h1)
    · rw [v, hx] at h1; cases h1
  refine ⟨?_, ⟨fun y e' hy => ?_, fun a => ?_, ?_⟩, fun a ha hn => ?_⟩
  · funext a
    unfold va_up gM upN
    by_cases ha : a = q
    · rw [if_pos ha, if_pos ha, upC_at]
    · rw [if_neg ha, if_neg ha, upC_no (nx a)]
  · by_cases hyx : y = x
    · rw [hyx, upA_at]; exact if_pos rfl
    · rw [upC_no hyx] at hy
      rw [upA_no hyx]
      show (if ad y = q then x else nm (ad y)) = y
      rw [if_neg (g_ne h hy hq)]
      exact h.1 y e' hy
  · show (if a = q then x else nm a) = (100, 0) ∨ ((∃ e', upC C x e (if a = q then x else nm a) = some e') ∧ a = upA ad x q (if a = q then x else nm a))
    by_cases ha : a = q
    · rw [if_pos ha]
      exact Or.inr ⟨⟨e, upC_at⟩, by rw [upA_at]; exact ha⟩
    · rw [if_neg ha]
      rcases h.2.1 a with h1 | ⟨⟨e', h1⟩, h2⟩
      · exact Or.inl h1
      · exact Or.inr ⟨⟨e', by rw [upC_no (nx a)]; exact h1⟩, by rw [upA_no (nx a)]; exact h2⟩
  · rw [upC_no (Ne.symm h100)]; exact h.2.2
  · refine ⟨?_, rfl⟩
    show (if a = q then x else nm a) = _
    rw [if_neg (fun v => hn (by rw [v]; exact q2))]
    exact ha
/-- a cell made anew elsewhere; the old one is left behind -/
theorem g_move (h : gOk C ad nm) (hq : gM C nm μ0 q = none) (hx : C x = some e0) : va_up (gM C nm μ0) q (some e) = gM (upC C x e) (upN (upN nm (ad x) (100, 0)) q x) (va_up μ0 (ad x) (some e0)) ∧ gOk (upC C x e) (upA ad x q) (upN (upN nm (ad x) (100, 0)) q x) ∧ nxt nm μ0 (upN (upN nm (ad x) (100, 0)) q x) (va_up μ0 (ad x) (some e0)) := by
  obtain ⟨q1, q2⟩ := g_none h hq
  have hxq := g_ne h hx hq
  have h100 : x ≠ (100, 0) := fun v => by rw [v, h.2.2] at hx; cases hx
  have nx : ∀ a, nm a = x → a = ad x := fun a v => by
    rcases h.2.1 a with h1 | ⟨-, h2⟩
    · exact absurd (v.symm.trans h1) h100
    · rw [v] at h2; exact h2
  refine ⟨?_, ⟨fun y e' hy => ?_, fun a => ?_, ?_⟩, fun a ha hn => ?_⟩
  · funext a
    unfold va_up gM upN
    by_cases ha : a = q
    · rw [if_pos ha, if_pos ha, upC_at]
    · rw [if_neg ha, if_neg ha]
      by_cases hb : a = ad x
      · rw [if_pos hb, upC_no (Ne.symm h100), h.2.2, hb, h.1 x e0 hx, hx]
        exact (if_pos rfl).symm
      · rw [if_neg hb, upC_no (fun v => hb (nx a v))]
        have e2 : (fun j => if j = ad x then some e0 else μ0 j) a = μ0 a := if_neg hb
        rw [e2]
  · by_cases hyx : y = x
    · rw [hyx, upA_at]; exact if_pos rfl
    · rw [upC_no hyx] at hy
      rw [upA_no hyx]
      show (if ad y = q then x else if ad y = ad x then (100, 0) else nm (ad y)) = y
      rw [if_neg (g_ne h hy hq), if_neg (fun v => hyx (by rw [← h.1 y e' hy, v, h.1 x e0 hx]))]
      exact h.1 y e' hy
  · show (if a = q then x else if a = ad x then (100, 0) else nm a) = (100, 0) ∨ ((∃ e', upC C x e (if a = q then x else if a = ad x then (100, 0) else nm a) = some e') ∧ a = upA ad x q (if a = q then x else if a = ad x then (100, 0) else nm a))
    by_cases ha : a = q
    · rw [if_pos ha]
      exact Or.inr ⟨⟨e, upC_at⟩, by rw [upA_at]; exact ha⟩
    · rw [if_neg ha]
      by_cases hb : a = ad x
      · rw [if_pos hb]; exact Or.inl rfl
      · rw [if_neg hb]
        rcases h.2.1 a with h1 | ⟨⟨e', h1⟩, h2⟩
        · exact Or.inl h1
        · exact Or.inr ⟨⟨e', by rw [upC_no (fun v => hb (nx a v))]; exact h1⟩, by rw [upA_no (fun v => hb (nx a v))]; exact h2⟩
  · rw [upC_no (Ne.symm h100)]; exact h.2.2
  · have n1 : a ≠ q := fun v => hn (by rw [v]; exact q2)
    have n2 : a ≠ ad x := fun v => h100 (by rw [← h.1 x e0 hx, ← v]; exact ha)
    refine ⟨?_, if_neg n2⟩
    show (if a = q then x else if a = ad x then (100, 0) else nm a) = _
    rw [if_neg n1, if_neg n2]
    exact ha
/-! fields -/
theorem g_jg (h : gOk C ad nm) {ci : Nat} {fs : List Value} (hx : C x = some (.inr (ci, fs))) (f : Nat) : jg (gM C nm μ0) (some (ad x)) ci f = fs[f]? := jg_at (g_at h hx)
theorem g_jp (h : gOk C ad nm) {ci f : Nat} {fs : List Value} {v : Value} (hx : C x = some (.inr (ci, fs))) (hf : f < fs.length) : jp (gM C nm μ0) (some (ad x)) ci f v = some (gM (upC C x (.inr (ci, fs.set f v))) nm μ0) := by
  rw [jp_at (g_at h hx) hf, g_put h hx]
theorem g_here (h : gOk C ad nm) {ci : Nat} {fs : List Value} (hx : C x = some (.inr (ci, fs))) : ∃ fs, gM C nm μ0 (ad x) = some (.inr (ci, fs)) := ⟨fs, g_at h hx⟩
theorem va_up2 {μ : jM} {a : Nat} {v w : Option jE} : va_up (va_up μ a v) a w = va_up μ a w := by
  funext b
  unfold va_up
  by_cases hb : b = a <;> simp [hb]
theorem va_up_at {μ : jM} {a : Nat} {v : Option jE} : va_up μ a v a = v := if_pos rfl
theorem va_up_no {μ : jM} {a b : Nat} {v : Option jE} (hb : b ≠ a) : va_up μ a v b = μ b := if_neg hb
theorem cM_gM {z : Nat × Nat} {A L F : Nat} {I : Nat → Nat → Int32} {y : Nat → Int64} {K : Nat → Nat → Int64} {k : Nat → Nat → Int32} : cM z ad nm A L F I y K k μ0 = gM (cC z ad A L F I y K k) nm μ0 := rfl
theorem cOk_gOk {z : Nat × Nat} {A L F : Nat} {I : Nat → Nat → Int32} {y : Nat → Int64} {K : Nat → Nat → Int64} {k : Nat → Nat → Int32} : cOk ad nm A L F I ↔ gOk (cC z ad A L F I y K k) ad nm := by
  constructor
  · intro h
    refine ⟨fun x e hx => h.1 x (cLv_iff.mpr ⟨e, hx⟩), fun a => ?_, cC_big (by omega)⟩
    rcases h.2 a with h1 | ⟨h1, h2⟩
    · exact Or.inl h1
    · exact Or.inr ⟨cLv_iff.mp h1, h2⟩
  · intro h
    refine ⟨fun x hx => ?_, fun a => ?_⟩
    · obtain ⟨e, he⟩ := (cLv_iff (z := z) (ad := ad) (zz := y) (K := K) (k := k)).mp hx
      exact h.1 x e he
    · rcases h.2.1 a with h1 | ⟨h1, h2⟩
      · exact Or.inl h1
      · exact Or.inr ⟨(cLv_iff (z := z) (ad := ad) (zz := y) (K := K) (k := k)).mpr h1, h2⟩
end GM
