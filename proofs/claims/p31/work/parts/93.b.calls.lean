/-! ===== calls that change the desk ===== -/
section QI
variable {A L F : Nat} {I I' : Nat → Nat → Int32} {y : Nat → Int64} {c d : Nat}
/-- other rows than parents and pools -/
theorem qV_I (e3 : I' 3 = I 3) (e4 : I' 4 = I 4) (v : qV A L d I y) : qV A L d I' y := by
  have et : tI I' = tI I := by funext k; unfold tI; rw [e4]
  obtain ⟨v1, v2, v3⟩ := v
  refine ⟨fun p hp => ?_, fun p hp => ?_, v3⟩
  · have := v1 p ⟨hp.1, by rw [← e3]; exact hp.2⟩
    unfold ps at this ⊢
    rw [et]
    exact this
  · rw [et]
    exact v2 p ⟨hp.1, by rw [← e3]; exact hp.2⟩
/-- an account more -/
theorem qV_A (a : aI A I I') (v : qV A L d I y) (h4 : ∀ i, i < A → tI I i < A) (f : fresh A I y) : qV (A + 1) L d I' y := by
  obtain ⟨v1, v2, v3⟩ := v
  obtain ⟨f1, f2, f3, f4, f5, f6, f7, -⟩ := f
  have et : ∀ i, i < A → tI I' i = tI I i := fun i hi => by unfold tI; rw [a.1 4 i (by omega)]
  have cs : ∀ p, cisp (A + 1) I' p → p ≠ A → cisp A I p := fun p hp hne => ⟨by have := hp.1; omega, by rw [← a.1 3 p hne]; exact hp.2⟩
  refine ⟨fun p hp => ?_, fun p hp => ?_, v3⟩
  · have e : ps (A + 1) I' p (fun i => y (50 + i)) = ps A I p (fun i => y (50 + i)) := by
      show s64 (fun i => if tI I' i = p then y (50 + i) else 0) A + (if tI I' A = p then y (50 + A) else 0) = _
      have z : (if tI I' A = p then y (50 + A) else 0) = 0 := by rw [f2]; split <;> rfl
      rw [z, Int64.add_zero]
      exact s64_congr A (fun i hi => by rw [et i hi])
    rw [e]
    by_cases hne : p = A
    · rw [hne, f7]
      exact s64_0 A (fun i hi => if_neg (fun g => by have := h4 i hi; omega))
    · exact v1 p (cs p hp hne)
  · by_cases hne : p = A
    · rw [hne, f5, f6, i64_0]
      exact ⟨fun _ => by omega, fun _ => by omega⟩
    · exact ⟨fun z => (v2 p (cs p hp hne)).1 (fun x hx ht => z x (by omega) (by rw [et x hx]; exact ht)), fun z => (v2 p (cs p hp hne)).2 (fun x hx ht => z x (by omega) (by rw [et x hx]; exact ht))⟩
/-- a line more -/
theorem qV_L (h : y (82 + L) = 0) (v : qV A L d I y) : qV A (L + 1) d I y := by
  refine ⟨v.1, v.2.1, fun l hl => ?_⟩
  by_cases e : l = L
  · rw [e, h, i64_0]; omega
  · exact v.2.2 l (by omega)
end QI
section PC
variable {z : Nat × Nat} {q1 : Nat} {R : jM} {A L F : Nat} {I I' : Nat → Nat → Int32} {y : Nat → Int64} {c d : Nat} {μ : jM}
theorem nxt_R {nm nm' : Nat → Nat × Nat} {μ0 μ0' : jM} (hn : nxt nm μ0 nm' μ0') (hR : ∀ a e, R a = some e → nm a = (100, 0) ∧ μ0 a = some e) : ∀ a e, R a = some e → nm' a = (100, 0) ∧ μ0' a = some e := fun a e ha => by
  obtain ⟨h1, h2⟩ := hR a e ha
  obtain ⟨h3, h4⟩ := hn a h1 (by rw [h2]; exact fun g => by cases g)
  exact ⟨h3, h4.trans h2⟩
theorem p_book (h : pM z q1 R A L F I y μ) (v : pV A L F I y c d) (hc : c < 512) {x x2 : Int32} {i : Nat} (hi : i < A) (hx : x = nI i) (hr : (-1000000 ≤ x2 ∧ x2 ≤ 1000000) ∧ ¬ x2 = 0) {Q : Int64 → jM → Prop} (q : ∀ μ', pM z q1 R A L F I (vp_updL y i (y i + x2.toInt64)) μ' → pV A L F I (vp_updL y i (y i + x2.toInt64)) (c + 1) d → Q (y i + x2.toInt64) μ') : ∃ b, (some q1 = some b ∧ ∃ fs, μ b = some (.inr (11, fs))) ∧ wX9_book z b x x2 μ Q jN := by
  obtain ⟨ad, nm, K, k, μr, rfl, hE, rfl, hR, hz, h60⟩ := h
  obtain ⟨⟨X, hv⟩, hq, hc'⟩ := v
  have hA := hE.2.1
  refine ⟨_, ⟨rfl, ch0 hE.1⟩, c_book hE (fun j hj ej P => ?_) (fun nr => absurd (ix_in hi (by omega) hx) nr) (fun _ nP => absurd hr nP)⟩
  have := ixe (by omega) (by omega) hx ej
  subst this
  exact q _ ⟨ad, nm, K, k, μr, rfl, hE, rfl, hR, hz, fun p hp => by rw [pk_uLn (by have := hp.1; omega)]; exact h60 p hp⟩ ⟨⟨_, lV_book hv hc' hj (i32_rng P.1 (by decide) (by decide))⟩, qV_same hE.2 (fun m hm => pk_uLn (by omega)) hq, hc⟩
theorem p_setRule (h : pM z q1 R A L F I y μ) (v : pV A L F I y c d) (hc : c < 512) {x x2 x3 : Int32} {i : Nat} (hi : i < A) (hx : x = nI i) (hr : (0 ≤ x2 ∧ x2 ≤ 3) ∧ (-1000000 ≤ x3 ∧ x3 ≤ 1000000)) (hp : ¬ I 3 i = -1) {Q : Int32 → jM → Prop} (q : ∀ μ', pM z q1 R A L F (upR (upR I 6 (upd (I 6) i x2)) 7 (upd (I 7) i x3)) y μ' → pV A L F (upR (upR I 6 (upd (I 6) i x2)) 7 (upd (I 7) i x3)) y (c + 1) d → Q (I 6 i) μ') : ∃ b, (some q1 = some b ∧ ∃ fs, μ b = some (.inr (11, fs))) ∧ wX9_setRule z b x x2 x3 μ Q jN := by
  obtain ⟨ad, nm, K, k, μr, rfl, hE, rfl, hR, hz, h60⟩ := h
  obtain ⟨⟨X, hv⟩, hq, hc'⟩ := v
  have hA := hE.2.1
  refine ⟨_, ⟨rfl, ch0 hE.1⟩, c_setRule hE (fun j hj ej P np => ?_) (fun nr => absurd (ix_in hi (by omega) hx) nr) (fun _ nP => absurd hr nP) (fun j hj ej _ tp => ?_)⟩
  · have := ixe (by omega) (by omega) hx ej
    subst this
    have hv' := lV_rule hv hj np P.1 P.2
    have s : sI I (upR (upR I 6 (upd (I 6) j x2)) 7 (upd (I 7) j x3)) := fun r h1 h2 h3 h4 h5 h6 => (upR_o h2).trans (upR_o h1)
    exact q _ ⟨ad, nm, K, k, μr, rfl, cE_s s hE hv'.2.1.1, rfl, hR, hz, h6_3 h60 s.r3⟩ ⟨⟨_, hv'⟩, qV_I s.r3 s.r4 hq, hc⟩
  · have := ixe (by omega) (by omega) hx ej
    subst this
    exact absurd tp hp
theorem p_setFloor (h : pM z q1 R A L F I y μ) (v : pV A L F I y c d) (hc : c < 512) {x x2 : Int32} {i : Nat} (hi : i < A) (hx : x = nI i) (hr : -1000000 ≤ x2 ∧ x2 ≤ 1000000) {Q : Int32 → jM → Prop} (q : ∀ μ', pM z q1 R A L F (upR I 8 (upd (I 8) i x2)) y μ' → pV A L F (upR I 8 (upd (I 8) i x2)) y (c + 1) d → Q (I 8 i) μ') : ∃ b, (some q1 = some b ∧ ∃ fs, μ b = some (.inr (11, fs))) ∧ wX9_setFloor z b x x2 μ Q jN := by
  obtain ⟨ad, nm, K, k, μr, rfl, hE, rfl, hR, hz, h60⟩ := h
  obtain ⟨⟨X, hv⟩, hq, hc'⟩ := v
  have hA := hE.2.1
  refine ⟨_, ⟨rfl, ch0 hE.1⟩, c_setFloor hE (fun j hj ej P => ?_) (fun nr => absurd (ix_in hi (by omega) hx) nr) (fun _ nP => absurd hr nP)⟩
  have := ixe (by omega) (by omega) hx ej
  subst this
  have hv' := lV_floor hv hj P
  have s : sI I (upR I 8 (upd (I 8) j x2)) := sI_up (by decide)
  exact q _ ⟨ad, nm, K, k, μr, rfl, cE_s s hE hv'.2.1.1, rfl, hR, hz, h6_3 h60 s.r3⟩ ⟨⟨_, hv'⟩, qV_I s.r3 s.r4 hq, hc⟩
theorem p_setBankLimit (h : pM z q1 R A L F I y μ) (v : pV A L F I y c d) (hc : c < 512) {x x2 : Int32} {i : Nat} (hi : i < 4) (hx : x = nI i) (hr : -1 ≤ x2 ∧ x2 ≤ 1000000000) {Q : Int32 → jM → Prop} (q : ∀ μ', pM z q1 R A L F (upR I 14 (upd (I 14) i x2)) y μ' → pV A L F (upR I 14 (upd (I 14) i x2)) y (c + 1) d → Q (I 14 i) μ') : ∃ b, (some q1 = some b ∧ ∃ fs, μ b = some (.inr (11, fs))) ∧ wX9_setBankLimit z b x x2 μ Q jN := by
  obtain ⟨ad, nm, K, k, μr, rfl, hE, rfl, hR, hz, h60⟩ := h
  obtain ⟨⟨X, hv⟩, hq, hc'⟩ := v
  refine ⟨_, ⟨rfl, ch0 hE.1⟩, c_setBankLimit hE (fun j hj ej P => ?_) (fun nP => absurd ⟨?_, hr⟩ nP)⟩
  · have := ixe (by omega) (by omega) hx ej
    subst this
    have hv' := lV_lim hv (g := upd (I 14) j x2)
    have s : sI I (upR I 14 (upd (I 14) j x2)) := sI_up (by decide)
    exact q _ ⟨ad, nm, K, k, μr, rfl, cE_s s hE hv'.2.1.1, rfl, hR, hz, h6_3 h60 s.r3⟩ ⟨⟨_, hv'⟩, qV_I s.r3 s.r4 hq, hc⟩
  · rw [hx]
    exact ⟨nI_pos' (by omega), nI_le (b := 3) (by omega) (by omega)⟩
theorem p_addHoliday (h : pM z q1 R A L F I y μ) (v : pV A L F I y c d) (hc : c < 512) {x : Int32} {i : Nat} (hi : i ≤ 450) (hx : x = nI i) {Q : Int32 → jM → Prop} (q : ∀ μ', pM z q1 R A L F (upR I 20 (upd (I 20) i 1)) y μ' → pV A L F (upR I 20 (upd (I 20) i 1)) y (c + 1) d → Q (hcF (upR I 20 (upd (I 20) i 1))) μ') : ∃ b, (some q1 = some b ∧ ∃ fs, μ b = some (.inr (11, fs))) ∧ wX9_addHoliday z b x μ Q jN := by
  obtain ⟨ad, nm, K, k, μr, rfl, hE, rfl, hR, hz, h60⟩ := h
  obtain ⟨⟨X, hv⟩, hq, hc'⟩ := v
  refine ⟨_, ⟨rfl, ch0 hE.1⟩, c_addHoliday hE (fun j hj ej => ?_) (fun nP => absurd ?_ nP)⟩
  · have := ixe (by omega) (by omega) hx ej
    subst this
    have hv' := lV_hol hv hj
    have s : sI I (upR I 20 (upd (I 20) j 1)) := sI_up (by decide)
    exact q _ ⟨ad, nm, K, k, μr, rfl, cE_s s hE hv'.2.1.1, rfl, hR, hz, h6_3 h60 s.r3⟩ ⟨⟨_, hv'⟩, qV_I s.r3 s.r4 hq, hc⟩
  · rw [hx]
    exact ⟨nI_pos' (by omega), nI_le (b := 450) (by omega) (by omega)⟩
theorem p_cancel (h : pM z q1 R A L F I y μ) (v : pV A L F I y c d) (hc : c < 512) {x : Int32} {i : Nat} (hi : i < F) (hx : x = nI i) {Q : Int32 → jM → Prop} (q : ∀ μ', pM z q1 R A L F (upR I 19 (upd (I 19) i (I 19 i - leftF I y i))) y μ' → pV A L F (upR I 19 (upd (I 19) i (I 19 i - leftF I y i))) y (c + 1) d → Q (leftF I y i) μ') : ∃ b, (some q1 = some b ∧ ∃ fs, μ b = some (.inr (11, fs))) ∧ wX9_cancel z b x μ Q jN := by
  obtain ⟨ad, nm, K, k, μr, rfl, hE, rfl, hR, hz, h60⟩ := h
  obtain ⟨⟨X, hv⟩, hq, hc'⟩ := v
  have hF := hE.2.2.2.1
  refine ⟨_, ⟨rfl, ch0 hE.1⟩, c_cancel hE (fun j hj ej => ?_) (fun nr => absurd (ix_in hi (by omega) hx) nr)⟩
  have := ixe (by omega) (by omega) hx ej
  subst this
  have hv' := lV_cancel hv hj
  have s : sI I (upR I 19 (upd (I 19) j (I 19 j - leftF I y j))) := sI_up (by decide)
  exact q _ ⟨ad, nm, K, k, μr, rfl, cE_s s hE hv'.2.1.1, rfl, hR, hz, h6_3 h60 s.r3⟩ ⟨⟨_, hv'⟩, qV_I s.r3 s.r4 hq, hc⟩
theorem p_schedule (h : pM z q1 R A L F I y μ) (v : pV A L F I y c d) (hc : c < 512) (hF : F < 20) {x x2 x3 x4 x5 : Int32} {i : Nat} (hi : i < A) (hx : x = nI i) (hr : ((-1000000 ≤ x2 ∧ x2 ≤ 1000000) ∧ ¬ x2 = 0) ∧ (nI d ≤ x3 ∧ x3 ≤ 450) ∧ (1 ≤ x4 ∧ x4 ≤ 100) ∧ (1 ≤ x5 ∧ x5 ≤ 30)) {Q : Int32 → jM → Prop} (q : ∀ μ', pM z q1 R A L (F + 1) (fsI I F x x2 x3 x4 x5) y μ' → pV A L (F + 1) (fsI I F x x2 x3 x4 x5) y (c + 1) d → Q (nI F) μ') : ∃ b, (some q1 = some b ∧ ∃ fs, μ b = some (.inr (11, fs))) ∧ wX9_schedule z b x x2 x3 x4 x5 μ Q jN := by
  obtain ⟨ad, nm, K, k, μr, rfl, hE, rfl, hR, hz, h60⟩ := h
  obtain ⟨⟨X, hv⟩, hq, hc'⟩ := v
  have hA := hE.2.1
  obtain ⟨z1, z2⟩ := hR z.1 jZ0 hz
  have d450 : d ≤ 450 := by have := hv.1; omega
  refine ⟨_, ⟨rfl, ch0 hE.1⟩, c_schedule hE ((cM_hi z1).trans z2) z1 d450 hv.2.2.1.2.2.2 (fun hF => lV_flow hv hF) (fun j hj ej P2 P3 P4 P5 F9 ad' nm' μ' k' hE' hnx h00 => ?_) (fun nr => absurd (ix_in hi (by omega) hx) nr) (fun _ nP => absurd hr nP) (fun _ _ e => absurd e (by omega))⟩
  have hv' := lV_F hv F9 hE'.2 P2.1 P3 P4 P5
  exact q _ ⟨ad', nm', K, k', μ', rfl, hE', h00, nxt_R hnx hR, hz, h6_3 h60 (fsI_lo (Or.inl (by decide)))⟩ ⟨⟨_, hv'⟩, qV_I (fsI_lo (Or.inl (by decide))) (fsI_lo (Or.inl (by decide))) hq, hc⟩
theorem p_addPool (h : pM z q1 R A L F I y μ) (v : pV A L F I y c d) (hc : c < 512) (hA : A < 10) {x x2 x3 : Int32} (hr : (0 ≤ x ∧ x ≤ 3) ∧ (0 ≤ x2 ∧ x2 ≤ 1000) ∧ (0 ≤ x3 ∧ x3 ≤ 1000)) {Q : Int32 → jM → Prop} (q : ∀ μ', pM z q1 R (A + 1) L F (addI A (-1) (nI A) x x2 x3 I) y μ' → pV (A + 1) L F (addI A (-1) (nI A) x x2 x3 I) y (c + 1) d → Q (nI A) μ') : ∃ b, (some q1 = some b ∧ ∃ fs, μ b = some (.inr (11, fs))) ∧ wX9_addPool z b x x2 x3 μ Q jN := by
  obtain ⟨ad, nm, K, k, μr, rfl, hE, rfl, hR, hz, h60⟩ := h
  obtain ⟨⟨X, hv⟩, hq, hc'⟩ := v
  obtain ⟨z1, z2⟩ := hR z.1 jZ0 hz
  refine ⟨_, ⟨rfl, ch0 hE.1⟩, c_addPool hE z1 z2 (fun hA => lV_fresh hv hA) (fun P A10 ad' nm' μ' k' hE' hnx h00 => ?_) (fun nP => absurd hr nP) (fun _ e => absurd e (by omega))⟩
  have aA : aI A I (addI A (-1) (nI A) x x2 x3 I) := aI_add
  obtain ⟨-, -, -, r9, r10⟩ := addI_at (A := A) (I := I) (pr := -1) (tp := nI A) (bk := x) (cr := x2) (db := x3)
  have fr := lV_fresh hv A10
  exact q _ ⟨ad', nm', apK K A, k', μ', rfl, hE', h00, nxt_R hnx hR, hz, h6_pool h60 aA fr.2.2.2.2.2.2.1⟩ ⟨⟨_, lV_A hv A10 aA hE'.2 (by rw [r9]; exact i32_rng P.2.1 (by decide) (by decide)) (by rw [r10]; exact i32_rng P.2.2 (by decide) (by decide))⟩, qV_A aA hq (fun i hi => by have := (hE.2.2.2.2.2.1 i hi).2.1; omega) fr, hc⟩
theorem p_addAccount (h : pM z q1 R A L F I y μ) (v : pV A L F I y c d) (hc : c < 512) (hA : A < 10) {x x2 : Int32} {i : Nat} (hi : i < A) (hx : x = nI i) (hr : 0 ≤ x2 ∧ x2 ≤ 3) {Q : Int32 → jM → Prop} (q : ∀ μ', pM z q1 R (A + 1) L F (addI A x (I 4 i) x2 0 0 I) y μ' → pV (A + 1) L F (addI A x (I 4 i) x2 0 0 I) y (c + 1) d → Q (nI A) μ') : ∃ b, (some q1 = some b ∧ ∃ fs, μ b = some (.inr (11, fs))) ∧ wX9_addAccount z b x x2 μ Q jN := by
  obtain ⟨ad, nm, K, k, μr, rfl, hE, rfl, hR, hz, h60⟩ := h
  obtain ⟨⟨X, hv⟩, hq, hc'⟩ := v
  obtain ⟨z1, z2⟩ := hR z.1 jZ0 hz
  refine ⟨_, ⟨rfl, ch0 hE.1⟩, c_addAccount hE z1 z2 (fun hA => lV_fresh hv hA) (fun j hj ej P A10 ad' nm' μ' k' hE' hnx h00 => ?_) (fun nr => absurd (ix_in hi (by omega) hx) nr) (fun _ nP => absurd hr nP) (fun _ _ e => absurd e (by omega))⟩
  have := ixe (by omega) (by omega) hx ej
  subst this
  have aA : aI A I (addI A x (I 4 j) x2 0 0 I) := aI_add
  obtain ⟨r3, -, -, r9, r10⟩ := addI_at (A := A) (I := I) (pr := x) (tp := I 4 j) (bk := x2) (cr := 0) (db := 0)
  have hne : ¬ addI A x (I 4 j) x2 0 0 I 3 A = -1 := fun e => by rw [r3, ej] at e; have := nI_pos (n := j) (by omega); rw [e] at this; exact this (by decide)
  have fr := lV_fresh hv A10
  exact q _ ⟨ad', nm', acK K A, k', μ', rfl, hE', h00, nxt_R hnx hR, hz, h6_acc h60 aA hne⟩ ⟨⟨_, lV_A hv A10 aA hE'.2 (by rw [r9]; decide) (by rw [r10]; decide)⟩, qV_A aA hq (fun i hi => by have := (hE.2.2.2.2.2.1 i hi).2.1; omega) fr, hc⟩
theorem p_addLine (h : pM z q1 R A L F I y μ) (v : pV A L F I y c d) (hc : c < 512) (hL : L < 6) {x x2 x3 : Int32} {i : Nat} (hi : i < A) (hx : x = nI i) (ht : I 3 i = -1) (hr : (1 ≤ x2 ∧ x2 ≤ 10000000) ∧ (0 ≤ x3 ∧ x3 ≤ 1000)) {Q : Int32 → jM → Prop} (q : ∀ μ', pM z q1 R A (L + 1) F (lnI I L x x2 x3) y μ' → pV A (L + 1) F (lnI I L x x2 x3) y (c + 1) d → Q (nI L) μ') : ∃ b, (some q1 = some b ∧ ∃ fs, μ b = some (.inr (11, fs))) ∧ wX9_addLine z b x x2 x3 μ Q jN := by
  obtain ⟨ad, nm, K, k, μr, rfl, hE, rfl, hR, hz, h60⟩ := h
  obtain ⟨⟨X, hv⟩, hq, hc'⟩ := v
  have hA := hE.2.1
  obtain ⟨z1, z2⟩ := hR z.1 jZ0 hz
  refine ⟨_, ⟨rfl, ch0 hE.1⟩, c_addLine hE z1 z2 (fun hL => lV_line hv hL) (fun j hj ej P tp L6 ad' nm' μ' k' hE' hnx h00 => ?_) (fun nr => absurd (ix_in hi (by omega) hx) nr) (fun _ nP => absurd hr nP) (fun j hj ej _ g => ?_)⟩
  · obtain ⟨r11, r12, r13⟩ := lnI_at (I := I) (L := L) (x := x) (x2 := x2) (x3 := x3)
    have w12 := i32_rng P.1 (m := 1) (n := 10000000) (by decide) (by decide)
    have hv' := lV_L hv L6 lI_ln hE'.2 (by rw [r12]; omega) (by rw [r13]; exact i32_rng P.2 (by decide) (by decide))
    exact q _ ⟨ad', nm', alK K L, k', μ', rfl, hE', h00, nxt_R hnx hR, hz, h6_3 (h6_K h60 (fun b => by unfold alK; rw [if_neg (by omega)])) (lnI_ro (by decide) (by decide) (by decide))⟩ ⟨⟨_, hv'⟩, qV_I (lnI_ro (by decide) (by decide) (by decide)) (lnI_ro (by decide) (by decide) (by decide)) (qV_L (lV_line hv L6).2.2 hq), hc⟩
  · have := ixe (by omega) (by omega) hx ej
    subst this
    exact g.elim (fun g => absurd ht g) (fun g => absurd g (by omega))
theorem p_passDays (h : pM z q1 R A L F I y μ) (v : pV A L F I y c d) (hc : c < 512) {x : Int32} {t : Nat} (hx : x = nI t) (h1 : 1 ≤ t) (h2 : t ≤ 60) (h3 : d + t ≤ 400) {Q : Int32 → jM → Prop} (q : ∀ μ', pM z q1 R A L F I (dyF I A L F d (y, fun _ => 0) t).1 μ' → pV A L F I (dyF I A L F d (y, fun _ => 0) t).1 (c + 1) (d + t) → Q (nI (d + t)) μ') : ∃ b, (some q1 = some b ∧ ∃ fs, μ b = some (.inr (11, fs))) ∧ wX9_passDays z b x μ Q jN := by
  obtain ⟨ad, nm, K, k, μr, rfl, hE, rfl, hR, hz, h60⟩ := h
  obtain ⟨⟨X, hv⟩, hq, hc'⟩ := v
  refine ⟨_, ⟨rfl, ch0 hE.1⟩, c_passDays (l := fun _ => 0) hE hv.2.1 hc' hv.1 hv.2.2.1 h60 (fun s s1 s2 es hd' K' hK' => ?_) (fun nP => absurd ?_ nP) (fun s s1 s2 es nd => ?_)⟩
  · have := ixe (by omega) (by omega) hx es
    subst this
    obtain ⟨X', hv'⟩ := lV_days (l := fun _ => 0) hv hc' hd'
    exact q _ ⟨ad, nm, K', k, μr, rfl, hE, rfl, hR, hz, hK'.2⟩ ⟨⟨_, hv'⟩, dy_keeps hv.2.1 hc' hv.2.2.1 hq s (by omega), hc⟩
  · rw [hx]
    exact ⟨nI_le (a := 1) h1 (by omega), nI_le (b := 60) h2 (by omega)⟩
  · have := ixe (by omega) (by omega) hx es
    subst this
    exact absurd h3 nd
end PC
