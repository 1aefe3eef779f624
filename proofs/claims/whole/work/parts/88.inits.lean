/-! ===== the reference made new ===== -/
/-- the rows at the beginning: no bank has a limit -/
def I00 : Nat → Nat → Int32 := fun r j => if r = 14 then (if j < 4 then -1 else 0) else 0
theorem set_mapr {α : Type} {g g' : Nat → α} {n i : Nat} {v : α} (hv : g' i = v) (hg : ∀ f, f ≠ i → g' f = g f) : ((List.range n).map g).set i v = (List.range n).map g' := by
  apply List.ext_getElem?
  intro j
  rw [List.getElem?_set, List.getElem?_map, List.getElem?_map]
  by_cases h : i = j
  · rw [if_pos h, ← h, List.length_map, List.length_range]
    by_cases hn : i < n
    · rw [if_pos hn, List.getElem?_range hn]
      show some v = some (g' i)
      rw [hv]
    · rw [if_neg hn, List.getElem?_eq_none (by rw [List.length_range]; omega)]
      rfl
  · rw [if_neg h]
    by_cases hn : j < n
    · rw [List.getElem?_range hn]
      show some (g j) = some (g' j)
      rw [hg j (fun e => h e.symm)]
    · rw [List.getElem?_eq_none (by rw [List.length_range]; omega)]
      rfl
/-- the fields of the reference with t arrays made -/
def rf (ad : Nat × Nat → Nat) (t f : Nat) : Value := if f < 3 ∨ f = 24 then .int 0 else if f < t + 3 then .ref (ad (0, f - 2)) else .null
def rfs (ad : Nat × Nat → Nat) (t : Nat) : List Value := (List.range 25).map (rf ad t)
def re0 (k : Nat) : jE := mce (fun _ => 0) (fun _ => 0) (fun _ _ => 0) (fun _ _ => 0) k
def rC (ad : Nat × Nat → Nat) (t : Nat) (x : Nat × Nat) : Option jE := if x.1 = 0 then (if x.2 = 0 then some (.inr (12, rfs ad t)) else if x.2 ≤ t then some (re0 x.2) else none) else none
section RI
variable {z : Nat × Nat} {ad : Nat × Nat → Nat} {nm : Nat → Nat × Nat} {μ0 : jM} {t a : Nat}
theorem rC_0 : rC ad t (0, 0) = some (.inr (12, rfs ad t)) := rfl
theorem rC_hi {k : Nat} (h : t < k) : rC ad t (0, k) = none := by
  show (if k = 0 then _ else if k ≤ t then _ else none) = none
  rw [if_neg (by omega), if_neg (by omega)]
theorem rC_lo {k : Nat} (h0 : k ≠ 0) (h : k ≤ t) : rC ad t (0, k) = some (re0 k) := by
  show (if k = 0 then _ else if k ≤ t then some (re0 k) else none) = _
  rw [if_neg h0, if_pos h]
theorem rC_no {q k : Nat} (h : q ≠ 0) : rC ad t (q, k) = none := if_neg h
theorem r_step (h : gOk (rC ad t) ad nm) (ht : t < 21) (ha : ad (0, 0) = a) {e : jE} (he : e = re0 (t + 1)) {f : Nat} (hf : f = t + 3) {R : jM → Prop} (w : ∀ ad' nm', gOk (rC ad' (t + 1)) ad' nm' → nxt nm μ0 nm' μ0 → ad' (0, 0) = a → R (gM (rC ad' (t + 1)) nm' μ0)) : ∀ q1, gM (rC ad t) nm μ0 q1 = none → ∃ μ2 : jM, jp (va_up (gM (rC ad t) nm μ0) q1 (some e)) (some a) 12 f (va_rf (some q1)) = some μ2 ∧ R μ2 := by
  refine g_mk h rC_0 ha (show f < (rfs ad t).length by unfold rfs; rw [List.length_map, List.length_range]; omega) (xa := (0, t + 1)) (rC_hi (by omega)) (fun v => absurd (Prod.mk.inj v).1 (by decide)) (fun C' ad' nm' q1 k1 k2 k3 k4 k5 k6 k7 => ?_)
  have n0 : ((0, 0) : Nat × Nat) ≠ (0, t + 1) := fun v => by have := (Prod.mk.inj v).2; omega
  have eC : C' = rC ad' (t + 1) := by
    funext x
    obtain ⟨q, j⟩ := x
    by_cases hq : q = 0
    · subst hq
      by_cases j0 : j = 0
      · subst j0
        rw [k5, rC_0]
        have : (rfs ad t).set f (va_rf (some q1)) = rfs ad' (t + 1) := by
          subst hf
          refine set_mapr ?_ (fun g hg => ?_)
          · unfold rf
            rw [if_neg (by omega), if_pos (by omega), show t + 3 - 2 = t + 1 by omega, k3]
            rfl
          · unfold rf
            by_cases c : g < 3 ∨ g = 24
            · rw [if_pos c, if_pos c]
            · rw [if_neg c, if_neg c]
              by_cases c2 : g < t + 3
              · rw [if_pos c2, if_pos (by omega), k4 _ (fun v => by have := (Prod.mk.inj v).2; omega)]
              · rw [if_neg c2, if_neg (by omega)]
        rw [this]
      · by_cases j1 : j = t + 1
        · rw [j1, k6, he, rC_lo (by omega) (Nat.le_refl _)]
        · rw [k7 _ (fun v => j0 (Prod.mk.inj v).2) (fun v => j1 (Prod.mk.inj v).2)]
          by_cases c : j ≤ t
          · rw [rC_lo j0 c, rC_lo j0 (by omega)]
          · rw [rC_hi (by omega), rC_hi (by omega)]
    · rw [k7 _ (fun v => hq (Prod.mk.inj v).1) (fun v => hq (Prod.mk.inj v).1), rC_no hq, rC_no hq]
  rw [eC] at k1 ⊢
  exact w ad' nm' k1 k2 ((k4 _ n0).trans ha)
theorem r_start {μ : jM} {q4 : Nat} (hq : μ q4 = none) : ∃ ad nm, va_up μ q4 (some (.inr (12, jfX10))) = gM (rC ad 0) nm μ ∧ gOk (rC ad 0) ad nm ∧ ad (0, 0) = q4 ∧ ∀ a, μ a ≠ none → nm a = (100, 0) := by
  have h0 : gOk (fun _ => none) (fun _ => 0) (fun _ => (100, 0)) := ⟨fun x e v => (by cases v), fun a => Or.inl rfl, rfl⟩
  have e0 : gM (fun _ => none) (fun _ => (100, 0)) μ = μ := rfl
  obtain ⟨g1, g2, g3⟩ := g_new (e := (.inr (12, jfX10) : jE)) (x := (0, 0)) h0 (by rw [e0]; exact hq) rfl (fun v => absurd (Prod.mk.inj v).1 (by decide))
  have eC : upC (fun _ => none) (0, 0) (.inr (12, jfX10)) = rC (upA (fun _ => 0) (0, 0) q4) 0 := by
    funext x
    obtain ⟨q, j⟩ := x
    by_cases hx : (q, j) = (0, 0)
    · rw [hx, upC_at, rC_0]
      rfl
    · rw [upC_no hx]
      by_cases q0 : q = 0
      · subst q0
        rw [rC_hi (by
          by_cases j0 : j = 0
          · exact absurd (by rw [j0]) hx
          · omega)]
      · rw [rC_no q0]
  rw [eC] at g1 g2
  refine ⟨_, _, g1, g2, upA_at, fun a ha => (g3 a rfl ha).1⟩
theorem r_end (h : gOk (rC ad 21) ad nm) : ∃ ad2 nm2, gM (rC ad 21) nm μ0 = mM ad2 nm2 (fun _ => 0) (fun _ _ => 0) (fun _ _ => 0) μ0 ∧ mOk ad2 nm2 ∧ ad2 0 = ad (0, 0) ∧ ∀ a, nm a = (100, 0) → 21 < nm2 a := by
  have hn : ∀ a, (nm a).1 = 0 → (nm a).2 ≤ 21 ∧ a = ad (nm a) := fun a e => by
    rcases h.2.1 a with h1 | ⟨⟨o, ho⟩, h2⟩
    · rw [h1] at e; exact absurd e (by decide)
    · refine ⟨?_, h2⟩
      by_cases g : (nm a).2 ≤ 21
      · exact g
      · rw [show nm a = (0, (nm a).2) from Prod.ext e rfl, rC_hi (by omega)] at ho
        cases ho
  have some21 : ∀ k, k ≤ 21 → rC ad 21 (0, k) = some (mce (fun j => ad (0, j)) (fun _ => 0) (fun _ _ => 0) (fun _ _ => 0) k) := fun k hk => by
    by_cases k0 : k = 0
    · subst k0
      rw [rC_0]
      rfl
    · rw [rC_lo k0 hk]
      unfold re0 mce
      rw [if_neg k0, if_neg k0]
  refine ⟨fun k => ad (0, k), fun a => if (nm a).1 = 0 then (nm a).2 else 100, ?_, ⟨fun k hk => ?_, fun a ha => ?_⟩, rfl, fun a ha => ?_⟩
  · funext a
    show (match rC ad 21 (nm a) with | some e => some e | none => μ0 a) = (if (if (nm a).1 = 0 then (nm a).2 else 100) ≤ 21 then some (mce (fun k => ad (0, k)) (fun _ => 0) (fun _ _ => 0) (fun _ _ => 0) (if (nm a).1 = 0 then (nm a).2 else 100)) else μ0 a)
    by_cases e : (nm a).1 = 0
    · have := (hn a e).1
      have e2 : nm a = (0, (nm a).2) := Prod.ext e rfl
      rw [if_pos e, if_pos this]
      have s := some21 _ this
      rw [← e2] at s
      rw [s]
    · rw [if_neg e, if_neg (by omega)]
      have : rC ad 21 (nm a) = none := if_neg e
      rw [this]
  · have := h.1 (0, k) _ (some21 k hk)
    show (if (nm (ad (0, k))).1 = 0 then (nm (ad (0, k))).2 else 100) = k
    rw [this, if_pos rfl]
  · have ha : (if (nm a).1 = 0 then (nm a).2 else 100) ≤ 21 := ha
    show a = ad (0, if (nm a).1 = 0 then (nm a).2 else 100)
    by_cases e : (nm a).1 = 0
    · rw [if_pos e]
      have e2 : nm a = (0, (nm a).2) := Prod.ext e rfl
      rw [← e2]
      exact (hn a e).2
    · rw [if_neg e] at ha; omega
  · show 21 < (if (nm a).1 = 0 then (nm a).2 else 100)
    rw [ha, if_neg (by decide)]
    omega
end RI
section RJ
variable {ad nm : Nat → Nat} {n : Nat → Int32} {I : Nat → Nat → Int32} {J : Nat → Nat → Int64} {μ0 : jM} {z : Nat × Nat}
theorem m_lim (h : mOk ad nm) {Q : Unit → jM → Prop} {t i : Nat} (hi : i < 4) (w : wX10_init_174 z (ad 0) Q t (nI (i + 1)) (mM ad nm n (upR I 14 (upd (I 14) i (-1))) J μ0)) : wX10_init_174 z (ad 0) Q (t + 1) (nI i) (mM ad nm n I J μ0) := by
  show wX10_init_174_b z (ad 0) Q (wX10_init_174 z (ad 0) Q t) (nI i) (mM ad nm n I J μ0)
  refine ⟨fun c => absurd c (nI_ge (b := 4) hi (by decide)), fun _ => ⟨_, mg16 h, _, msI h (by decide) (by decide) (show i < mlen 14 from hi) rfl, fun v e => ?_⟩⟩
  rw [e, nI_1]
  exact w
theorem I00_up : upR (upR (upR (upR (fun _ _ => (0 : Int32)) 14 (upd (fun _ => 0) 0 (-1))) 14 (upd (upd (fun _ => 0) 0 (-1)) 1 (-1))) 14 (upd (upd (upd (fun _ => 0) 0 (-1)) 1 (-1)) 2 (-1))) 14 (upd (upd (upd (upd (fun _ => 0) 0 (-1)) 1 (-1)) 2 (-1)) 3 (-1)) = I00 := by
  funext r j
  unfold I00
  by_cases hr : r = 14
  · subst hr
    rw [upR_at, if_pos rfl]
    unfold upd
    by_cases h4 : j < 4
    · rw [if_pos h4]
      have : j = 0 ∨ j = 1 ∨ j = 2 ∨ j = 3 := by omega
      rcases this with rfl | rfl | rfl | rfl <;> rfl
    · rw [if_neg h4, if_neg (by omega), if_neg (by omega), if_neg (by omega), if_neg (by omega)]
  · rw [upR_o hr, upR_o hr, upR_o hr, upR_o hr, if_neg hr]
theorem m_init {μ : jM} {q4 : Nat} (hq : μ q4 = none) {Q : Unit → jM → Prop} (w : ∀ ad nm, mOk ad nm → ad 0 = q4 → (∀ a, μ a ≠ none → 21 < nm a) → Q () (mM ad nm (fun _ => 0) I00 (fun _ _ => 0) μ)) : wX10_init z q4 (va_up μ q4 (some (.inr (12, jfX10)))) Q := by
  obtain ⟨ad, nm, e0, h0, a0, u0⟩ := r_start hq
  rw [e0]
  unfold wX10_init wX10_init_0
  refine r_step h0 (by decide) a0 rfl rfl (fun ad nm h n1 a0 => ?_)
  have u1 : ∀ a, μ a ≠ none → nm a = (100, 0) := fun a ha => (n1 a (u0 a ha) ha).1
  clear h0 n1 u0 e0
  refine r_step h (by decide) a0 rfl rfl (fun ad nm h n1 a0 => ?_)
  have u0 : ∀ a, μ a ≠ none → nm a = (100, 0) := fun a ha => (n1 a (u1 a ha) ha).1
  clear n1 u1
  refine r_step h (by decide) a0 rfl rfl (fun ad nm h n1 a0 => ?_)
  have u1 : ∀ a, μ a ≠ none → nm a = (100, 0) := fun a ha => (n1 a (u0 a ha) ha).1
  clear n1 u0
  refine r_step h (by decide) a0 rfl rfl (fun ad nm h n1 a0 => ?_)
  have u0 : ∀ a, μ a ≠ none → nm a = (100, 0) := fun a ha => (n1 a (u1 a ha) ha).1
  clear n1 u1
  refine r_step h (by decide) a0 rfl rfl (fun ad nm h n1 a0 => ?_)
  have u1 : ∀ a, μ a ≠ none → nm a = (100, 0) := fun a ha => (n1 a (u0 a ha) ha).1
  clear n1 u0
  refine r_step h (by decide) a0 rfl rfl (fun ad nm h n1 a0 => ?_)
  have u0 : ∀ a, μ a ≠ none → nm a = (100, 0) := fun a ha => (n1 a (u1 a ha) ha).1
  clear n1 u1
  refine r_step h (by decide) a0 rfl rfl (fun ad nm h n1 a0 => ?_)
  have u1 : ∀ a, μ a ≠ none → nm a = (100, 0) := fun a ha => (n1 a (u0 a ha) ha).1
  clear n1 u0
  refine r_step h (by decide) a0 rfl rfl (fun ad nm h n1 a0 => ?_)
  have u0 : ∀ a, μ a ≠ none → nm a = (100, 0) := fun a ha => (n1 a (u1 a ha) ha).1
  clear n1 u1
  refine r_step h (by decide) a0 rfl rfl (fun ad nm h n1 a0 => ?_)
  have u1 : ∀ a, μ a ≠ none → nm a = (100, 0) := fun a ha => (n1 a (u0 a ha) ha).1
  clear n1 u0
  refine r_step h (by decide) a0 rfl rfl (fun ad nm h n1 a0 => ?_)
  have u0 : ∀ a, μ a ≠ none → nm a = (100, 0) := fun a ha => (n1 a (u1 a ha) ha).1
  clear n1 u1
  refine r_step h (by decide) a0 rfl rfl (fun ad nm h n1 a0 => ?_)
  have u1 : ∀ a, μ a ≠ none → nm a = (100, 0) := fun a ha => (n1 a (u0 a ha) ha).1
  clear n1 u0
  refine r_step h (by decide) a0 rfl rfl (fun ad nm h n1 a0 => ?_)
  have u0 : ∀ a, μ a ≠ none → nm a = (100, 0) := fun a ha => (n1 a (u1 a ha) ha).1
  clear n1 u1
  refine r_step h (by decide) a0 rfl rfl (fun ad nm h n1 a0 => ?_)
  have u1 : ∀ a, μ a ≠ none → nm a = (100, 0) := fun a ha => (n1 a (u0 a ha) ha).1
  clear n1 u0
  refine r_step h (by decide) a0 rfl rfl (fun ad nm h n1 a0 => ?_)
  have u0 : ∀ a, μ a ≠ none → nm a = (100, 0) := fun a ha => (n1 a (u1 a ha) ha).1
  clear n1 u1
  refine r_step h (by decide) a0 rfl rfl (fun ad nm h n1 a0 => ?_)
  have u1 : ∀ a, μ a ≠ none → nm a = (100, 0) := fun a ha => (n1 a (u0 a ha) ha).1
  clear n1 u0
  refine r_step h (by decide) a0 rfl rfl (fun ad nm h n1 a0 => ?_)
  have u0 : ∀ a, μ a ≠ none → nm a = (100, 0) := fun a ha => (n1 a (u1 a ha) ha).1
  clear n1 u1
  refine r_step h (by decide) a0 rfl rfl (fun ad nm h n1 a0 => ?_)
  have u1 : ∀ a, μ a ≠ none → nm a = (100, 0) := fun a ha => (n1 a (u0 a ha) ha).1
  clear n1 u0
  refine r_step h (by decide) a0 rfl rfl (fun ad nm h n1 a0 => ?_)
  have u0 : ∀ a, μ a ≠ none → nm a = (100, 0) := fun a ha => (n1 a (u1 a ha) ha).1
  clear n1 u1
  refine r_step h (by decide) a0 rfl rfl (fun ad nm h n1 a0 => ?_)
  have u1 : ∀ a, μ a ≠ none → nm a = (100, 0) := fun a ha => (n1 a (u0 a ha) ha).1
  clear n1 u0
  refine r_step h (by decide) a0 rfl rfl (fun ad nm h n1 a0 => ?_)
  have u0 : ∀ a, μ a ≠ none → nm a = (100, 0) := fun a ha => (n1 a (u1 a ha) ha).1
  clear n1 u1
  refine r_step h (by decide) a0 rfl rfl (fun ad nm h n1 a0 => ?_)
  have u1 : ∀ a, μ a ≠ none → nm a = (100, 0) := fun a ha => (n1 a (u0 a ha) ha).1
  clear n1 u0
  obtain ⟨ad2, nm2, e2, h2, a2, u2⟩ := r_end (μ0 := μ) h
  have w := w ad2 nm2 h2 (a2.trans a0) (fun a ha => u2 a (u1 a ha))
  rw [← I00_up] at w
  intro v e
  refine ⟨5, ?_⟩
  change wX10_init_174 z q4 Q 5 v (gM (rC ad 21) nm μ)
  rw [e2, e, ← nI_0, ← a2.trans a0]
  refine m_lim h2 (by decide) (m_lim h2 (by decide) (m_lim h2 (by decide) (m_lim h2 (by decide) ?_)))
  refine ⟨fun _ => w, fun c => absurd (by decide) c⟩
end RJ
