/-! ===== class and reference in one memory ===== -/
/-- the reference and the law's own array lie in what the class leaves alone -/
def lR (z : Nat × Nat) (q1 q4 q7 : Nat) (ad : Nat × Nat → Nat) (nm : Nat → Nat × Nat) (am nn : Nat → Nat) (μ0 : jM) : Prop := ad (0, 0) = q1 ∧ mOk am nn ∧ am 0 = q4 ∧ (∀ a, nn a ≤ 21 → nm a = (100, 0)) ∧ (nm z.1 = (100, 0) ∧ 21 < nn z.1 ∧ μ0 z.1 = some jZ0) ∧ (nm q7 = (100, 0) ∧ 21 < nn q7 ∧ ∃ f, μ0 q7 = some (.inl (1, 1, .inr (.inl f))))
def nOk (n : Nat → Int32) (A L F : Nat) : Prop := n 0 = nI A ∧ n 1 = nI L ∧ n 2 = nI F
/-- what holds between the law's calls, c of them made -/
def lW (z : Nat × Nat) (q1 q4 q7 c : Nat) (μ : jM) : Prop := ∃ (ad : Nat × Nat → Nat) (nm : Nat → Nat × Nat) (A L F : Nat) (I : Nat → Nat → Int32) (K : Nat → Nat → Int64) (k : Nat → Nat → Int32) (μr : jM) (am nn : Nat → Nat) (n : Nat → Int32) (J : Nat → Nat → Int64) (d : Nat) (X : Int), μ = cM z ad nm A L F I (J 1) K k μr ∧ mM am nn n I J μr = μr ∧ cE ad nm A L F I ∧ lR z q1 q4 q7 ad nm am nn μr ∧ nOk n A L F ∧ lV A L F I (J 1) c d X ∧ h6O A I (J 1) K
section FR
variable {z : Nat × Nat} {q1 q4 q7 : Nat} {ad ad' : Nat × Nat → Nat} {nm nm' : Nat → Nat × Nat} {A L F : Nat} {I I' I0 : Nat → Nat → Int32} {K K' : Nat → Nat → Int64} {k : Nat → Nat → Int32} {μ0 μr : jM} {am nn : Nat → Nat} {n : Nat → Int32} {J : Nat → Nat → Int64} {y y' : Nat → Int64} {c d : Nat} {X : Int}
theorem lr_swap (hd : ∀ a, nn a ≤ 21 → nm a = (100, 0)) : cM z ad nm A L F I y K k (mM am nn n I0 J μ0) = mM am nn n I0 J (cM z ad nm A L F I y K k μ0) := by
  funext a
  unfold cM mM
  by_cases h : nn a ≤ 21
  · simp only [hd a h, cC_big (show 22 ≤ 100 by omega), if_pos h]
  · simp only [if_neg h]
theorem mM_idem : mM am nn n I J (mM am nn n I J μ0) = mM am nn n I J μ0 := by
  funext a
  unfold mM
  by_cases h : nn a ≤ 21
  · simp only [if_pos h]
  · simp only [if_neg h]
theorem mM_hi {a : Nat} (h : 21 < nn a) : mM am nn n I J μ0 a = μ0 a := if_neg (by omega)
theorem cM_hi {a : Nat} (h : nm a = (100, 0)) : cM z ad nm A L F I y K k μ0 a = μ0 a := by
  unfold cM
  rw [h, cC_big (by omega)]
theorem lr_es (hd : ∀ a, nn a ≤ 21 → nm a = (100, 0)) (hfix : mM am nn n I0 J μr = μr) : cM z ad nm A L F I y K k μr = mM am nn n I0 J (cM z ad nm A L F I y K k μr) := by
  rw [← lr_swap hd, hfix]
theorem lr_nxt (hR : lR z q1 q4 q7 ad nm am nn μ0) (hfix : mM am nn n I0 J μ0 = μ0) (h : nxt nm μ0 nm' μr) (e : ad' (0, 0) = ad (0, 0)) : lR z q1 q4 q7 ad' nm' am nn μr ∧ mM am nn n I0 J μr = μr := by
  obtain ⟨e1, hM, e4, hd, ⟨z1, z2, z3⟩, w1, w2, f, w3⟩ := hR
  have key : ∀ a, nn a ≤ 21 → nm' a = (100, 0) ∧ μr a = some (mce am n I0 J (nn a)) := fun a ha => by
    have v : μ0 a = some (mce am n I0 J (nn a)) := by
      rw [← hfix]
      exact if_pos ha
    obtain ⟨h1, h2⟩ := h a (hd a ha) (by rw [v]; exact fun g => by cases g)
    exact ⟨h1, h2.trans v⟩
  obtain ⟨a1, a2⟩ := h z.1 z1 (by rw [z3]; exact fun g => by cases g)
  obtain ⟨b1, b2⟩ := h q7 w1 (by rw [w3]; exact fun g => by cases g)
  refine ⟨⟨e.trans e1, hM, e4, fun a ha => (key a ha).1, ⟨a1, z2, a2.trans z3⟩, b1, w2, f, b2.trans w3⟩, ?_⟩
  funext a
  by_cases g : nn a ≤ 21
  · rw [(key a g).2]
    exact if_pos g
  · exact if_neg g
theorem lR_m (hR : lR z q1 q4 q7 ad nm am nn μr) : lR z q1 q4 q7 ad nm am nn (mM am nn n I J μr) := by
  obtain ⟨e1, hM, e4, hd, ⟨z1, z2, z3⟩, w1, w2, f, w3⟩ := hR
  exact ⟨e1, hM, e4, hd, ⟨z1, z2, (mM_hi z2).trans z3⟩, w1, w2, f, (mM_hi w2).trans w3⟩
theorem va_up_cM {a : Nat} {e : Option jE} (h : nm a = (100, 0)) : va_up (cM z ad nm A L F I y K k μr) a e = cM z ad nm A L F I y K k (va_up μr a e) := by
  funext b
  unfold va_up cM
  by_cases hb : b = a
  · rw [if_pos hb, hb, h, cC_big (by omega)]
    exact (if_pos rfl).symm
  · rw [if_neg hb]
    cases hc : cC z ad A L F I y K k (nm b) with
    | some v => rfl
    | none => exact (if_neg hb).symm
theorem va_up_mM {a : Nat} {e : Option jE} (h : 21 < nn a) (hfix : mM am nn n I0 J μr = μr) : mM am nn n I0 J (va_up μr a e) = va_up μr a e := by
  funext b
  by_cases hb : nn b ≤ 21
  · have ne : b ≠ a := fun v => by rw [v] at hb; omega
    rw [va_up_no ne]
    have := congrFun hfix b
    rw [← this]
    show (if nn b ≤ 21 then _ else _) = (if nn b ≤ 21 then _ else _)
    rw [if_pos hb, if_pos hb]
  · exact if_neg hb
/-- the answer put into the law's array -/
theorem lw_put (hR : lR z q1 q4 q7 ad nm am nn μr) (hfix : mM am nn n I0 J μr = μr) {v : Int64} {Q : jM → Prop} (w : ∀ μ2, lR z q1 q4 q7 ad nm am nn μ2 → (∃ f, μ2 q7 = some (.inl (1, 1, .inr (.inl f))) ∧ f 0 = v) → Q (mM am nn n I0 J (cM z ad nm A L F I y K k μ2))) : ∃ μ4 : jM, jsj (cM z ad nm A L F I y K k μr) (some q7) (0 : Int32) v = some μ4 ∧ Q μ4 := by
  obtain ⟨e1, hM, e4, hd, ⟨z1, z2, z3⟩, w1, w2, f, w3⟩ := hR
  have hz7 : z.1 ≠ q7 := fun e => by
    rw [e, w3] at z3
    have := Option.some.inj z3
    unfold jZ0 at this
    have := (Prod.mk.inj (Sum.inl.inj this)).1
    exact absurd this (by decide)
  refine ⟨_, jsj_at (k := 0) ((cM_hi w1).trans w3) (by decide) (by decide) rfl, ?_⟩
  rw [va_up_cM w1, lr_es hd (va_up_mM w2 hfix)]
  refine w _ ⟨e1, hM, e4, hd, ⟨z1, z2, (va_up_no hz7).trans z3⟩, w1, w2, _, va_up_at⟩ ⟨_, va_up_at, ?_⟩
  exact pk_uLs
theorem lr_get (hR : lR z q1 q4 q7 ad nm am nn μr) {v : Int64} (hq : ∃ f, μr q7 = some (.inl (1, 1, .inr (.inl f))) ∧ f 0 = v) : jaj (mM am nn n I0 J (cM z ad nm A L F I y K k μr)) (some q7) (0 : Int32) = some v := by
  obtain ⟨-, -, -, -, -, w1, w2, -⟩ := hR
  obtain ⟨f, h1, h2⟩ := hq
  rw [← h2]
  exact jaj_at (k := 0) ((mM_hi w2).trans ((cM_hi w1).trans h1)) (by decide) (by decide) rfl
theorem lr_z (hR : lR z q1 q4 q7 ad nm am nn μr) : cM z ad nm A L F I y K k μr z.1 = some jZ0 := (cM_hi hR.2.2.2.2.1.1).trans hR.2.2.2.2.1.2.2
theorem lw_mk (hE : cE ad nm A L F I) (hR : lR z q1 q4 q7 ad nm am nn μr) (hn : nOk n A L F) (hy : J 1 = y) (hv : lV A L F I y c d X) (h6 : h6O A I y K) : lW z q1 q4 q7 c (mM am nn n I J (cM z ad nm A L F I y K k μr)) := by
  subst hy
  exact ⟨ad, nm, A, L, F, I, K, k, mM am nn n I J μr, am, nn, n, J, d, X, (lr_swap hR.2.2.2.1).symm, mM_idem, hE, lR_m hR, hn, hv, h6⟩
theorem tl_s (hM : mOk am nn) {M : jM} {v9 : Int64} {cont : jM → Prop} (h3 : n 3 = 0) (hj : jaj (mM am nn n I J M) (some q7) (0 : Int32) = some v9) (k : cont (mM am nn n I J M)) : ∃ b14 : Nat, (some (am 0) = some b14 ∧ ∃ fs, mM am nn n I J M b14 = some (.inr (12, fs))) ∧ wX10_thrown z b14 (mM am nn n I J M) (fun v12 μ13 => ((v12 = 0) → (((¬ (0 : Int32) = 0) → cont μ13) ∧ ((0 : Int32) = 0 → (∃ v15 : Int64, jaj μ13 (some q7) (0 : Int32) = some v15 ∧ (((v15 = v9) → cont μ13) ∧ (¬ (v15 = v9) → False)))))) ∧ (¬ (v12 = 0) → False)) :=
  ⟨am 0, ⟨rfl, mhere hM⟩, m_thrown hM ⟨fun _ => ⟨fun _ => k, fun _ => ⟨v9, hj, fun _ => k, fun c => absurd rfl c⟩⟩, fun c => absurd h3 c⟩⟩
theorem tl_e (hM : mOk am nn) {M : jM} {v4 : Int32} {v9 : Int64} {cont : jM → Prop} (h3 : n 3 = v4) (h0 : ¬ v4 = 0) (k : cont (mM am nn n I J M)) : ∃ b14 : Nat, (some (am 0) = some b14 ∧ ∃ fs, mM am nn n I J M b14 = some (.inr (12, fs))) ∧ wX10_thrown z b14 (mM am nn n I J M) (fun v12 μ13 => ((v12 = v4) → (((¬ v4 = 0) → cont μ13) ∧ (v4 = 0 → (∃ v15 : Int64, jaj μ13 (some q7) (0 : Int32) = some v15 ∧ (((v15 = v9) → cont μ13) ∧ (¬ (v15 = v9) → False)))))) ∧ (¬ (v12 = v4) → False)) :=
  ⟨am 0, ⟨rfl, mhere hM⟩, m_thrown hM ⟨fun _ => ⟨fun _ => k, fun e => absurd e h0⟩, fun c => absurd h3 c⟩⟩
theorem nOk_3 (h : nOk n A L F) {v : Int32} : nOk (upd n 3 v) A L F := ⟨(upd_no (by decide)).trans h.1, (upd_no (by decide)).trans h.2.1, (upd_no (by decide)).trans h.2.2⟩
theorem nOk_A (h : nOk n A L F) : nOk (upd (upd n 3 0) 0 (nI (A + 1))) (A + 1) L F := ⟨upd_at, (upd_no (by decide)).trans (nOk_3 h).2.1, (upd_no (by decide)).trans (nOk_3 h).2.2⟩
theorem nOk_L (h : nOk n A L F) : nOk (upd (upd n 3 0) 1 (nI (L + 1))) A (L + 1) F := ⟨(upd_no (by decide)).trans (nOk_3 h).1, upd_at, (upd_no (by decide)).trans (nOk_3 h).2.2⟩
theorem nOk_F (h : nOk n A L F) : nOk (upd (upd n 3 0) 2 (nI (F + 1))) A L (F + 1) := ⟨(upd_no (by decide)).trans (nOk_3 h).1, (upd_no (by decide)).trans (nOk_3 h).2.1, upd_at⟩
theorem cE_s (s : sI I I') (hE : cE ad nm A L F I) (hn : cEn A L F I') : cE ad nm A L F I' := cE_I s (fun i hi => ⟨(hn.2.2.2.2.2.2.2.2 i hi).1, fun e => (hn.2.2.2.2.2.2.2.2 i hi).2 (by rw [s.r3]; exact e)⟩) hE
theorem h6_3 (h : h6O A I y K) (e : I' 3 = I 3) : h6O A I' y K := fun p hp => h p ⟨hp.1, by rw [← e]; exact hp.2⟩
theorem h6_K (h : h6O A I y K) (e : ∀ b, K' 4 b = K 4 b) : h6O A I y K' := fun p hp => by rw [e, e]; exact h p hp
theorem h6_acc (h : h6O A I y K) (a : aI A I I') (hne : ¬ I' 3 A = -1) : h6O (A + 1) I' y (acK K A) := fun p hp => by
  have e : p ≠ A := fun v => hne (by rw [← v]; exact hp.2)
  have k4 : ∀ b, acK K A 4 b = K 4 b := fun b => by unfold acK; rw [if_neg (by omega)]
  rw [k4, k4]
  exact h p ⟨by have := hp.1; omega, by rw [← a.1 3 p e]; exact hp.2⟩
theorem h6_pool (h : h6O A I y K) (a : aI A I I') (h0 : y (60 + A) = 0) : h6O (A + 1) I' y (apK K A) := fun p hp => by
  by_cases e : p = A
  · have k4 : ∀ b, b / 2 = A → apK K A 4 b = 0 := fun b hb => by unfold apK; rw [if_neg (by omega), if_pos ⟨by omega, hb⟩]
    rw [k4 _ (by omega), k4 _ (by omega), e, h0]
    decide
  · have k4 : ∀ b, b / 2 ≠ A → A < 10 ∨ 10 ≤ A → apK K A 4 b = K 4 b := fun b hb _ => by unfold apK; rw [if_neg (by omega), if_neg (fun v => hb v.2), if_neg (by omega)]
    rw [k4 _ (by omega) (by omega), k4 _ (by omega) (by omega)]
    exact h p ⟨by have := hp.1; omega, by rw [← a.1 3 p e]; exact hp.2⟩
theorem ixe {x : Int32} {i j : Nat} (hi : i < 1000) (hj : j < 1000) (e : x = nI i) (e' : x = nI j) : j = i := (nI_eq (by omega) (by omega)).mp (e'.symm.trans e)
/-! exceptions by name -/
theorem sIA : ¬ ("java/lang/IndexOutOfBoundsException" : String) = "java/lang/IllegalArgumentException" := by decide
theorem sIS : ¬ ("java/lang/IndexOutOfBoundsException" : String) = "java/lang/IllegalStateException" := by decide
theorem sAI : ¬ ("java/lang/IllegalArgumentException" : String) = "java/lang/IndexOutOfBoundsException" := by decide
theorem sAS : ¬ ("java/lang/IllegalArgumentException" : String) = "java/lang/IllegalStateException" := by decide
theorem sSI : ¬ ("java/lang/IllegalStateException" : String) = "java/lang/IndexOutOfBoundsException" := by decide
theorem sSA : ¬ ("java/lang/IllegalStateException" : String) = "java/lang/IllegalArgumentException" := by decide
theorem e11 {s : String} {P : Prop} (p : P) : (s = s → P) ∧ s = s := ⟨fun _ => p, rfl⟩
theorem e21 {s t : String} {P R : Prop} (h : ¬ s = t) (p : P) : (s = s → P) ∧ (s = t → R) ∧ (s = s ∨ s = t) := ⟨fun _ => p, fun e => absurd e h, Or.inl rfl⟩
theorem e22 {s t : String} {P R : Prop} (h : ¬ t = s) (r : R) : (t = s → P) ∧ (t = t → R) ∧ (t = s ∨ t = t) := ⟨fun e => absurd e h, fun _ => r, Or.inr rfl⟩
theorem e31 {s t u : String} {P R S : Prop} (h : ¬ s = t) (h' : ¬ s = u) (p : P) : (s = s → P) ∧ (s = t → R) ∧ (s = u → S) ∧ (s = s ∨ s = t ∨ s = u) := ⟨fun _ => p, fun e => absurd e h, fun e => absurd e h', Or.inl rfl⟩
theorem e32 {s t u : String} {P R S : Prop} (h : ¬ t = s) (h' : ¬ t = u) (r : R) : (t = s → P) ∧ (t = t → R) ∧ (t = u → S) ∧ (t = s ∨ t = t ∨ t = u) := ⟨fun e => absurd e h, fun _ => r, fun e => absurd e h', Or.inr (Or.inl rfl)⟩
theorem e33 {s t u : String} {P R S : Prop} (h : ¬ u = s) (h' : ¬ u = t) (r : S) : (u = s → P) ∧ (u = t → R) ∧ (u = u → S) ∧ (u = s ∨ u = t ∨ u = u) := ⟨fun e => absurd e h, fun e => absurd e h', fun _ => r, Or.inr (Or.inr rfl)⟩
end FR
