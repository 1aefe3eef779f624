/-! ===== the law's memory: a desk, and what besides it is known (R) ===== -/
def pM (z : Nat × Nat) (q1 : Nat) (R : jM) (A L F : Nat) (I : Nat → Nat → Int32) (y : Nat → Int64) (μ : jM) : Prop :=
  ∃ (ad : Nat × Nat → Nat) (nm : Nat → Nat × Nat) (K : Nat → Nat → Int64) (k : Nat → Nat → Int32) (μr : jM), μ = cM z ad nm A L F I y K k μr ∧ cE ad nm A L F I ∧ ad (0, 0) = q1 ∧ (∀ a e, R a = some e → nm a = (100, 0) ∧ μr a = some e) ∧ R z.1 = some jZ0 ∧ h6O A I y K
/-- what holds of a desk between calls -/
def pV (A L F : Nat) (I : Nat → Nat → Int32) (y : Nat → Int64) (c d : Nat) : Prop := (∃ X, lV A L F I y c d X) ∧ qV A L d I y ∧ c ≤ 512
theorem pk0 : (0 : Int32) = nI 0 := by decide
theorem nI_s (k : Nat) : nI k + 1 = nI (k + 1) := nI_add k 1
section PM
variable {z : Nat × Nat} {q1 : Nat} {R : jM} {A L F : Nat} {I I' : Nat → Nat → Int32} {y : Nat → Int64} {c d : Nat} {μ : jM}
/-! what besides the desk is there -/
theorem p_R (h : pM z q1 R A L F I y μ) {a : Nat} {e : jE} (ha : R a = some e) : μ a = some e := by
  obtain ⟨ad, nm, K, k, μr, rfl, hE, rfl, hR, hz, h60⟩ := h
  obtain ⟨h1, h2⟩ := hR a e ha
  exact (cM_hi h1).trans h2
theorem p_up (h : pM z q1 R A L F I y μ) {a : Nat} {e0 e : jE} (ha : R a = some e0) (hz : a ≠ z.1) : pM z q1 (va_up R a (some e)) A L F I y (va_up μ a (some e)) := by
  obtain ⟨ad, nm, K, k, μr, rfl, hE, rfl, hR, hz0, h60⟩ := h
  obtain ⟨h1, h2⟩ := hR a e0 ha
  refine ⟨ad, nm, K, k, va_up μr a (some e), va_up_cM h1, hE, rfl, fun b e1 hb => ?_, (va_up_no (fun g => hz g.symm)).trans hz0, h60⟩
  by_cases g : b = a
  · rw [g, va_up_at] at hb
    rw [g, va_up_at]
    exact ⟨h1, hb⟩
  · rw [va_up_no g] at hb
    rw [va_up_no g]
    exact hR b e1 hb
theorem p_new (h : pM z q1 R A L F I y μ) {a : Nat} {e : jE} (ha : μ a = none) : pM z q1 (va_up R a (some e)) A L F I y (va_up μ a (some e)) ∧ R a = none := by
  have hn : R a = none := by
    cases g : R a with
    | none => rfl
    | some e1 => have := p_R h g; rw [ha] at this; cases this
  obtain ⟨ad, nm, K, k, μr, rfl, hE, rfl, hR, hz0, h60⟩ := h
  have h1 : nm a = (100, 0) := by
    rcases hE.1.2 a with g | ⟨g, -⟩
    · exact g
    · obtain ⟨e1, he⟩ := (cLv_iff (z := z) (ad := ad) (zz := y) (K := K) (k := k)).mp g
      have : cM z ad nm A L F I y K k μr a = some e1 := by
        unfold cM
        rw [he]
      rw [ha] at this
      cases this
  have hz : a ≠ z.1 := fun g => by rw [g, hz0] at hn; cases hn
  refine ⟨⟨ad, nm, K, k, va_up μr a (some e), va_up_cM h1, hE, rfl, fun b e1 hb => ?_, (va_up_no (fun g => hz g.symm)).trans hz0, h60⟩, hn⟩
  by_cases g : b = a
  · rw [g, va_up_at] at hb
    rw [g, va_up_at]
    exact ⟨h1, hb⟩
  · rw [va_up_no g] at hb
    rw [va_up_no g]
    exact hR b e1 hb
/-- less is known -/
theorem p_less {R' : jM} (h : pM z q1 R A L F I y μ) (hs : ∀ a e, R' a = some e → R a = some e) (hz : R' z.1 = some jZ0) : pM z q1 R' A L F I y μ := by
  obtain ⟨ad, nm, K, k, μr, e1, hE, e2, hR, -, h60⟩ := h
  exact ⟨ad, nm, K, k, μr, e1, hE, e2, fun a e ha => hR a e (hs a e ha), hz, h60⟩
theorem p_rd (h : pM z q1 R A L F I y μ) {a n j : Nat} {T : Nat → Int32} {x : Int32} (ha : R a = some (.inl (0, n, .inl T))) (hj : j < n) (hn : n < 2 ^ 31) (hx : x = nI j) : jai 0 μ (some a) x = some (T j) := jai_at (p_R h ha) hj hn hx
theorem p_wr (h : pM z q1 R A L F I y μ) {a n j : Nat} {T : Nat → Int32} {x v : Int32} (ha : R a = some (.inl (0, n, .inl T))) (hz : a ≠ z.1) (hj : j < n) (hn : n < 2 ^ 31) (hx : x = nI j) : ∃ μ', jsi 0 μ (some a) x v = some μ' ∧ pM z q1 (va_up R a (some (.inl (0, n, .inl (upd T j v))))) A L F I y μ' := ⟨_, jsi_at (p_R h ha) hj hn hx, p_up h ha hz⟩
theorem p_rdL (h : pM z q1 R A L F I y μ) {a n j : Nat} {T : Nat → Int64} {x : Int32} (ha : R a = some (.inl (1, n, .inr (.inl T)))) (hj : j < n) (hn : n < 2 ^ 31) (hx : x = nI j) : jaj μ (some a) x = some (T j) := jaj_at (p_R h ha) hj hn hx
theorem p_wrL (h : pM z q1 R A L F I y μ) {a n j : Nat} {T : Nat → Int64} {x : Int32} {v : Int64} (ha : R a = some (.inl (1, n, .inr (.inl T)))) (hz : a ≠ z.1) (hj : j < n) (hn : n < 2 ^ 31) (hx : x = nI j) : ∃ μ', jsj μ (some a) x v = some μ' ∧ pM z q1 (va_up R a (some (.inl (1, n, .inr (.inl (vp_updL T j v)))))) A L F I y μ' := ⟨_, jsj_at (p_R h ha) hj hn hx, p_up h ha hz⟩
/-! facts -/
theorem p_cE (h : pM z q1 R A L F I y μ) : cEn A L F I := by
  obtain ⟨ad, nm, K, k, μr, rfl, hE, -⟩ := h
  exact hE.2
theorem v_st (v : pV A L F I y c d) : ∃ X, lV A L F I y c d X ∧ 0 ≤ X ∧ X ≤ 2200000000 := by
  obtain ⟨⟨X, h⟩, -, hc⟩ := v
  have h' := h
  obtain ⟨h1, h2, h3, -⟩ := h'
  have dn := dn_rng h2.1.2.2.1 h3.2.2.1
  exact ⟨X, h, h3.1.1, bT_lim h3.1 hc (show d / 20 ≤ 23 by omega) dn⟩
theorem v_d (v : pV A L F I y c d) : d ≤ 400 := by
  obtain ⟨⟨X, h⟩, -⟩ := v
  exact h.1
theorem v_108 (v : pV A L F I y c d) : y 108 = lN d := by
  obtain ⟨⟨X, h⟩, -⟩ := v
  exact h.2.2.1.2.2.2
theorem v_fw (v : pV A L F I y c d) : fwOk F d I y := by
  obtain ⟨⟨X, h⟩, -⟩ := v
  exact h.2.2.2.1
/-! reading calls -/
theorem p_today (h : pM z q1 R A L F I y μ) (v : pV A L F I y c d) {Q : Int32 → jM → Prop} (q : ∀ μ', pM z q1 R A L F I y μ' → Q (nI d) μ') : ∃ b, (some q1 = some b ∧ ∃ fs, μ b = some (.inr (11, fs))) ∧ wX9_today z b μ Q := by
  have h' := h
  obtain ⟨ad, nm, K, k, μr, rfl, hE, rfl, hR, hz, h60⟩ := h
  refine ⟨_, ⟨rfl, ch0 hE.1⟩, c_today hE ?_⟩
  rw [v_108 v, lN_i]
  exact q _ h'
theorem p_accounts (h : pM z q1 R A L F I y μ) {Q : Int32 → jM → Prop} (q : ∀ μ', pM z q1 R A L F I y μ' → Q (nI A) μ') : ∃ b, (some q1 = some b ∧ ∃ fs, μ b = some (.inr (11, fs))) ∧ wX9_accounts z b μ Q := by
  have h' := h
  obtain ⟨ad, nm, K, k, μr, rfl, hE, rfl, hR, hz, h60⟩ := h
  exact ⟨_, ⟨rfl, ch0 hE.1⟩, c_accounts hE (q _ h')⟩
theorem ix_in {x : Int32} {i n : Nat} (hi : i < n) (hn : n ≤ 1000) (hx : x = nI i) : 0 ≤ x ∧ x < nI n := by
  rw [hx]
  exact ⟨nI_pos' (by omega), nI_lt hi (by omega)⟩
theorem p_balance (h : pM z q1 R A L F I y μ) {x : Int32} {i : Nat} (hi : i < A) (hx : x = nI i) {Q : Int64 → jM → Prop} (q : ∀ μ', pM z q1 R A L F I y μ' → Q (y i) μ') : ∃ b, (some q1 = some b ∧ ∃ fs, μ b = some (.inr (11, fs))) ∧ wX9_balance z b x μ Q jN := by
  have h' := h
  obtain ⟨ad, nm, K, k, μr, rfl, hE, rfl, hR, hz, h60⟩ := h
  have hA := hE.2.1
  refine ⟨_, ⟨rfl, ch0 hE.1⟩, c_balance hE (fun j hj ej => ?_) (fun nr => absurd (ix_in hi (by omega) hx) nr)⟩
  have := ixe (by omega) (by omega) hx ej
  subst this
  exact q _ h'
theorem p_poolOf (h : pM z q1 R A L F I y μ) {x : Int32} {i : Nat} (hi : i < A) (hx : x = nI i) {Q : Int32 → jM → Prop} (q : ∀ μ', pM z q1 R A L F I y μ' → Q (I 4 i) μ') : ∃ b, (some q1 = some b ∧ ∃ fs, μ b = some (.inr (11, fs))) ∧ wX9_poolOf z b x μ Q jN := by
  have h' := h
  obtain ⟨ad, nm, K, k, μr, rfl, hE, rfl, hR, hz, h60⟩ := h
  have hA := hE.2.1
  refine ⟨_, ⟨rfl, ch0 hE.1⟩, c_poolOf hE (fun j hj ej => ?_) (fun nr => absurd (ix_in hi (by omega) hx) nr)⟩
  have := ixe (by omega) (by omega) hx ej
  subst this
  exact q _ h'
theorem p_interestOf (h : pM z q1 R A L F I y μ) {x : Int32} {i : Nat} (hi : i < A) (hx : x = nI i) {Q : Int64 → jM → Prop} (q : ∀ μ', pM z q1 R A L F I y μ' → Q (y (50 + i)) μ') : ∃ b, (some q1 = some b ∧ ∃ fs, μ b = some (.inr (11, fs))) ∧ wX9_interestOf z b x μ Q jN := by
  have h' := h
  obtain ⟨ad, nm, K, k, μr, rfl, hE, rfl, hR, hz, h60⟩ := h
  have hA := hE.2.1
  refine ⟨_, ⟨rfl, ch0 hE.1⟩, c_interestOf hE (fun j hj ej => ?_) (fun nr => absurd (ix_in hi (by omega) hx) nr)⟩
  have := ixe (by omega) (by omega) hx ej
  subst this
  exact q _ h'
theorem p_total (h : pM z q1 R A L F I y μ) {x : Int32} {i : Nat} (hi : i < A) (hx : x = nI i) {Q : Int64 → jM → Prop} (q : ∀ μ', pM z q1 R A L F I y μ' → Q (sumF I A y (I 4 i) i) μ') : ∃ b, (some q1 = some b ∧ ∃ fs, μ b = some (.inr (11, fs))) ∧ wX9_total z b x μ Q jN := by
  have h' := h
  obtain ⟨ad, nm, K, k, μr, rfl, hE, rfl, hR, hz, h60⟩ := h
  have hA := hE.2.1
  refine ⟨_, ⟨rfl, ch0 hE.1⟩, c_total hE (fun j hj ej => ?_) (fun nr => absurd (ix_in hi (by omega) hx) nr)⟩
  have := ixe (by omega) (by omega) hx ej
  subst this
  exact q _ h'
theorem p_afterSweep (h : pM z q1 R A L F I y μ) (v : pV A L F I y c d) {x : Int32} {i : Nat} (hi : i < A) (hx : x = nI i) {Q : Int64 → jM → Prop} (q : ∀ μ', pM z q1 R A L F I y μ' → Q (sweepF I A y i) μ') : ∃ b, (some q1 = some b ∧ ∃ fs, μ b = some (.inr (11, fs))) ∧ wX9_afterSweep z b x μ Q jN := by
  have h' := h
  obtain ⟨X, hv, x0, x1⟩ := v_st v
  obtain ⟨ad, nm, K, k, μr, rfl, hE, rfl, hR, hz, h60⟩ := h
  have hA := hE.2.1
  refine ⟨_, ⟨rfl, ch0 hE.1⟩, c_afterSweep hE hv.2.1.2.1 x0 (by omega) hv.2.2.1.1.2.2 (fun j hj ej => ?_) (fun nr => absurd (ix_in hi (by omega) hx) nr)⟩
  have := ixe (by omega) (by omega) hx ej
  subst this
  exact q _ h'
theorem p_byMoves (h : pM z q1 R A L F I y μ) (v : pV A L F I y c d) {x : Int32} {i : Nat} (hi : i < A) (hx : x = nI i) {Q : Int64 → jM → Prop} (q : ∀ μ', pM z q1 R A L F I y μ' → Q (sweepF I A y i) μ') : ∃ b, (some q1 = some b ∧ ∃ fs, μ b = some (.inr (11, fs))) ∧ wX9_afterSweepByMoves z b x μ Q jN := by
  obtain ⟨X, hv, x0, x1⟩ := v_st v
  have dd := v_d v
  obtain ⟨ad, nm, K, k, μr, rfl, hE, rfl, hR, hz, h60⟩ := h
  have hA := hE.2.1
  refine ⟨_, ⟨rfl, ch0 hE.1⟩, c_byMoves hE hv.2.1.2.1 x0 (by omega) hv.2.2.1.1.2.2 (show d < 2 ^ 31 by omega) (v_108 v) h60 (fun j hj ej K' k' h60' => ?_) (fun nr => absurd (ix_in hi (by omega) hx) nr)⟩
  have := ixe (by omega) (by omega) hx ej
  subst this
  exact q _ ⟨ad, nm, K', k', μr, rfl, hE, rfl, hR, hz, h60'⟩
theorem p_drawn (h : pM z q1 R A L F I y μ) {x : Int32} {i : Nat} (hi : i < L) (hx : x = nI i) {Q : Int32 → jM → Prop} (q : ∀ μ', pM z q1 R A L F I y μ' → Q (y (70 + i)).toInt32 μ') : ∃ b, (some q1 = some b ∧ ∃ fs, μ b = some (.inr (11, fs))) ∧ wX9_drawn z b x μ Q jN := by
  have h' := h
  obtain ⟨ad, nm, K, k, μr, rfl, hE, rfl, hR, hz, h60⟩ := h
  have hL := hE.2.2.1
  refine ⟨_, ⟨rfl, ch0 hE.1⟩, c_drawn hE (fun j hj ej => ?_) (fun nr => absurd (ix_in hi (by omega) hx) nr)⟩
  have := ixe (by omega) (by omega) hx ej
  subst this
  exact q _ h'
theorem p_costOf (h : pM z q1 R A L F I y μ) {x : Int32} {i : Nat} (hi : i < L) (hx : x = nI i) {Q : Int64 → jM → Prop} (q : ∀ μ', pM z q1 R A L F I y μ' → Q (y (82 + i)) μ') : ∃ b, (some q1 = some b ∧ ∃ fs, μ b = some (.inr (11, fs))) ∧ wX9_costOf z b x μ Q jN := by
  have h' := h
  obtain ⟨ad, nm, K, k, μr, rfl, hE, rfl, hR, hz, h60⟩ := h
  have hL := hE.2.2.1
  refine ⟨_, ⟨rfl, ch0 hE.1⟩, c_costOf hE (fun j hj ej => ?_) (fun nr => absurd (ix_in hi (by omega) hx) nr)⟩
  have := ixe (by omega) (by omega) hx ej
  subst this
  exact q _ h'
theorem p_timesLeft (h : pM z q1 R A L F I y μ) {x : Int32} {i : Nat} (hi : i < F) (hx : x = nI i) {Q : Int32 → jM → Prop} (q : ∀ μ', pM z q1 R A L F I y μ' → Q (leftF I y i) μ') : ∃ b, (some q1 = some b ∧ ∃ fs, μ b = some (.inr (11, fs))) ∧ wX9_timesLeft z b x μ Q jN := by
  have h' := h
  obtain ⟨ad, nm, K, k, μr, rfl, hE, rfl, hR, hz, h60⟩ := h
  have hF := hE.2.2.2.1
  refine ⟨_, ⟨rfl, ch0 hE.1⟩, c_timesLeft hE (fun j hj ej => ?_) (fun nr => absurd (ix_in hi (by omega) hx) nr)⟩
  have := ixe (by omega) (by omega) hx ej
  subst this
  exact q _ h'
theorem p_exposure (h : pM z q1 R A L F I y μ) {x : Int32} {i : Nat} (hi : i < 4) (hx : x = nI i) {Q : Int64 → jM → Prop} (q : ∀ μ', pM z q1 R A L F I y μ' → Q (expF I A y i) μ') : ∃ b, (some q1 = some b ∧ ∃ fs, μ b = some (.inr (11, fs))) ∧ wX9_exposure z b x μ Q jN := by
  obtain ⟨ad, nm, K, k, μr, rfl, hE, rfl, hR, hz, h60⟩ := h
  refine ⟨_, ⟨rfl, ch0 hE.1⟩, c_exposure hE (fun j hj ej => ?_) (fun nr => absurd ?_ nr)⟩
  · have := ixe (by omega) (by omega) hx ej
    subst this
    exact q _ ⟨ad, nm, mK K I y A, k, μr, rfl, hE, rfl, hR, hz, h6_K h60 (fun b => if_neg (by omega))⟩
  · rw [hx]
    exact ⟨nI_pos' (by omega), nI_le (b := 3) (by omega) (by omega)⟩
theorem p_poolInterest (h : pM z q1 R A L F I y μ) {x : Int32} {i : Nat} (hi : i < A) (ht : I 3 i = -1) (hx : x = nI i) {Q : Int64 → jM → Prop} (q : ∀ μ', pM z q1 R A L F I y μ' → Q (y (60 + i)) μ') : ∃ b, (some q1 = some b ∧ ∃ fs, μ b = some (.inr (11, fs))) ∧ wX9_poolInterest z b x μ Q jN := by
  have h' := h
  obtain ⟨ad, nm, K, k, μr, rfl, hE, rfl, hR, hz, h60⟩ := h
  have hA := hE.2.1
  refine ⟨_, ⟨rfl, ch0 hE.1⟩, c_poolInterest hE h60 (fun j hj ej _ => ?_) (fun nr => absurd (ix_in hi (by omega) hx) nr) (fun j hj ej np => ?_)⟩
  · have := ixe (by omega) (by omega) hx ej
    subst this
    exact q _ h'
  · have := ixe (by omega) (by omega) hx ej
    subst this
    exact absurd ht np
theorem p_settlementDay (h : pM z q1 R A L F I y μ) {x : Int32} {i : Nat} (hi : i ≤ 450) (hx : x = nI i) {Q : Int32 → jM → Prop} (q : ∀ μ', pM z q1 R A L F I y μ' → Q (oI (stlF I (451 - i) i)) μ') : ∃ b, (some q1 = some b ∧ ∃ fs, μ b = some (.inr (11, fs))) ∧ wX9_settlementDay z b x μ Q jN := by
  have h' := h
  obtain ⟨ad, nm, K, k, μr, rfl, hE, rfl, hR, hz, h60⟩ := h
  refine ⟨_, ⟨rfl, ch0 hE.1⟩, c_settlementDay hE (fun j hj ej => ?_) (fun nr => absurd ?_ nr)⟩
  · have := ixe (by omega) (by omega) hx ej
    subst this
    exact q _ h'
  · rw [hx]
    exact ⟨nI_pos' (by omega), nI_le (b := 450) (by omega) (by omega)⟩
theorem p_scheduled (h : pM z q1 R A L F I y μ) (v : pV A L F I y c d) {x x2 x3 : Int32} {i a b : Nat} (hi : i < A) (hx : x = nI i) (hx2 : x2 = nI a) (hx3 : x3 = nI b) (h1 : d ≤ a) (h2 : a ≤ b) (h3 : b ≤ 450) {Q : Int64 → jM → Prop} (q : ∀ μ', pM z q1 R A L F I y μ' → Q (scF I F y i (nI a) (nI b)) μ') : ∃ b, (some q1 = some b ∧ ∃ fs, μ b = some (.inr (11, fs))) ∧ wX9_scheduled z b x x2 x3 μ Q jN := by
  have h' := h
  obtain ⟨ad, nm, K, k, μr, rfl, hE, rfl, hR, hz, h60⟩ := h
  have hA := hE.2.1
  subst hx2 hx3
  refine ⟨_, ⟨rfl, ch0 hE.1⟩, c_scheduled hE (v_fw v) (v_108 v) (fun j hj ej _ => ?_) (fun nr => absurd (ix_in hi (by omega) hx) nr) (fun _ nP => absurd ⟨nI_le h1 (by omega), nI_le h2 (by omega), nI_le (b := 450) h3 (by omega)⟩ nP)⟩
  have := ixe (by omega) (by omega) hx ej
  subst this
  exact q _ h'
theorem p_forecast (h : pM z q1 R A L F I y μ) (v : pV A L F I y c d) {x x2 : Int32} {i t : Nat} (hi : i < A) (hx : x = nI i) (hx2 : x2 = nI t) (h1 : 1 ≤ t) (h2 : t ≤ 60) {Q : Int64 → jM → Prop} (q : ∀ μ', pM z q1 R A L F I y μ' → Q ((dyF I A L F d (y, fun _ => 0) t).1 i) μ') : ∃ b, (some q1 = some b ∧ ∃ fs, μ b = some (.inr (11, fs))) ∧ wX9_forecast z b x x2 μ Q jN := by
  obtain ⟨X, hv, x0, x1⟩ := v_st v
  have hc := v.2.2
  obtain ⟨ad, nm, K, k, μr, rfl, hE, rfl, hR, hz, h60⟩ := h
  have hA := hE.2.1
  refine ⟨_, ⟨rfl, ch0 hE.1⟩, c_forecast (l := fun _ => 0) hE hv.2.1 hc hv.1 hv.2.2.1 h60 (fun j s hj ej s1 s2 es K' k' h60' => ?_) (fun nr => absurd (ix_in hi (by omega) hx) nr) (fun _ nP => absurd ?_ nP)⟩
  · have := ixe (by omega) (by omega) hx ej
    subst this
    have := ixe (by omega) (by omega) hx2 es
    subst this
    exact q _ ⟨ad, nm, K', k', μr, rfl, hE, rfl, hR, hz, h60'⟩
  · rw [hx2]
    exact ⟨nI_le (a := 1) h1 (by omega), nI_le (b := 60) h2 (by omega)⟩
theorem p_daysToShort (h : pM z q1 R A L F I y μ) (v : pV A L F I y c d) {x x2 : Int32} {i t : Nat} (hi : i < A) (ht : I 3 i = -1) (hx : x = nI i) (hx2 : x2 = nI t) (h1 : 1 ≤ t) (h2 : t ≤ 60) {Q : Int32 → jM → Prop} (q : ∀ μ', pM z q1 R A L F I y μ' → Q (shF I A L F d (y, fun _ => 0) i t 1) μ') : ∃ b, (some q1 = some b ∧ ∃ fs, μ b = some (.inr (11, fs))) ∧ wX9_daysToShort z b x x2 μ Q jN := by
  obtain ⟨X, hv, x0, x1⟩ := v_st v
  have hc := v.2.2
  obtain ⟨ad, nm, K, k, μr, rfl, hE, rfl, hR, hz, h60⟩ := h
  have hA := hE.2.1
  refine ⟨_, ⟨rfl, ch0 hE.1⟩, c_daysToShort (l := fun _ => 0) hE hv.2.1 hc hv.1 hv.2.2.1 h60 (fun j s hj ej s1 s2 es _ K' k' h60' => ?_) (fun nr => absurd (ix_in hi (by omega) hx) nr) (fun _ nP => absurd ?_ nP) (fun j hj ej _ np => ?_)⟩
  · have := ixe (by omega) (by omega) hx ej
    subst this
    have := ixe (by omega) (by omega) hx2 es
    subst this
    exact q _ ⟨ad, nm, K', k', μr, rfl, hE, rfl, hR, hz, h60'⟩
  · rw [hx2]
    exact ⟨nI_le (a := 1) h1 (by omega), nI_le (b := 60) h2 (by omega)⟩
  · have := ixe (by omega) (by omega) hx ej
    subst this
    exact absurd ht np
end PM
