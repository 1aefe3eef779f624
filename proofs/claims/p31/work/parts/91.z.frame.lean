/-! ===== class and reference in one memory ===== -/
def nOk (n : Nat → Int32) (A L F : Nat) : Prop := n 0 = nI A ∧ n 1 = nI L ∧ n 2 = nI F
section FR
variable {z : Nat × Nat} {q1 q4 q7 : Nat} {ad ad' : Nat × Nat → Nat} {nm nm' : Nat → Nat × Nat} {A L F : Nat} {I I' I0 : Nat → Nat → Int32} {K K' : Nat → Nat → Int64} {k : Nat → Nat → Int32} {μ0 μr : jM} {am nn : Nat → Nat} {n : Nat → Int32} {J : Nat → Nat → Int64} {y y' : Nat → Int64} {c d : Nat} {X : Int}
theorem cM_hi {a : Nat} (h : nm a = (100, 0)) : cM z ad nm A L F I y K k μ0 a = μ0 a := by
  unfold cM
  rw [h, cC_big (by omega)]
theorem va_up_cM {a : Nat} {e : Option jE} (h : nm a = (100, 0)) : va_up (cM z ad nm A L F I y K k μr) a e = cM z ad nm A L F I y K k (va_up μr a e) := by
  funext b
  unfold va_up cM
  by_cases hb : b = a
  · rw [if_pos hb, hb, h, cC_big (by omega)]
    exact (if_pos rfl).symm
  · rw [if_neg hb]
    cases hc : cC z ad A L F I y K k (nm b) with
    | some v => rfl
    | none => exact (if_neg hb).symm
theorem nOk_3 (h : nOk n A L F) {v : Int32} : nOk (upd n 3 v) A L F := ⟨(upd_no (by decide)).trans h.1, (upd_no (by decide)).trans h.2.1, (upd_no (by decide)).trans h.2.2⟩
theorem nOk_A (h : nOk n A L F) : nOk (upd (upd n 3 0) 0 (nI (A + 1))) (A + 1) L F := ⟨upd_at, (upd_no (by decide)).trans (nOk_3 h).2.1, (upd_no (by decide)).trans (nOk_3 h).2.2⟩
theorem nOk_L (h : nOk n A L F) : nOk (upd (upd n 3 0) 1 (nI (L + 1))) A (L + 1) F := ⟨(upd_no (by decide)).trans (nOk_3 h).1, upd_at, (upd_no (by decide)).trans (nOk_3 h).2.2⟩
theorem nOk_F (h : nOk n A L F) : nOk (upd (upd n 3 0) 2 (nI (F + 1))) A L (F + 1) := ⟨(upd_no (by decide)).trans (nOk_3 h).1, (upd_no (by decide)).trans (nOk_3 h).2.1, upd_at⟩
theorem cE_s (s : sI I I') (hE : cE ad nm A L F I) (hn : cEn A L F I') : cE ad nm A L F I' := cE_I s (fun i hi => ⟨(hn.2.2.2.2.2.2.2.2 i hi).1, fun e => (hn.2.2.2.2.2.2.2.2 i hi).2 (by rw [s.r3]; exact e)⟩) hE
theorem h6_3 (h : h6O A I y K) (e : I' 3 = I 3) : h6O A I' y K := fun p hp => h p ⟨hp.1, by rw [← e]; exact hp.2⟩
theorem h6_K (h : h6O A I y K) (e : ∀ b, K' 4 b = K 4 b) : h6O A I y K' := fun p hp => by rw [e, e]; exact h p hp
theorem h6_acc (h : h6O A I y K) (a : aI A I I') (hne : ¬ I' 3 A = -1) : h6O (A + 1) I' y (acK K A) := fun p hp => by
  have e : p ≠ A := fun v => hne (by rw [← v]; exact hp.2)
  have k4 : ∀ b, acK K A 4 b = K 4 b := fun b => by unfold acK; rw [if_neg (by omega)]
  rw [k4, k4]
  exact h p ⟨by have := hp.1; omega, by rw [← a.1 3 p e]; exact hp.2⟩
theorem h6_pool (h : h6O A I y K) (a : aI A I I') (h0 : y (60 + A) = 0) : h6O (A + 1) I' y (apK K A) := fun p hp => by
  by_cases e : p = A
  · have k4 : ∀ b, b / 2 = A → apK K A 4 b = 0 := fun b hb => by unfold apK; rw [if_neg (by omega), if_pos ⟨by omega, hb⟩]
    rw [k4 _ (by omega), k4 _ (by omega), e, h0]
    decide
  · have k4 : ∀ b, b / 2 ≠ A → A < 10 ∨ 10 ≤ A → apK K A 4 b = K 4 b := fun b hb _ => by unfold apK; rw [if_neg (by omega), if_neg (fun v => hb v.2), if_neg (by omega)]
    rw [k4 _ (by omega) (by omega), k4 _ (by omega) (by omega)]
    exact h p ⟨by have := hp.1; omega, by rw [← a.1 3 p e]; exact hp.2⟩
theorem ixe {x : Int32} {i j : Nat} (hi : i < 1000) (hj : j < 1000) (e : x = nI i) (e' : x = nI j) : j = i := (nI_eq (by omega) (by omega)).mp (e'.symm.trans e)
/-! exceptions by name -/
theorem sIA : ¬ ("java/lang/IndexOutOfBoundsException" : String) = "java/lang/IllegalArgumentException" := by decide
theorem sIS : ¬ ("java/lang/IndexOutOfBoundsException" : String) = "java/lang/IllegalStateException" := by decide
theorem sAI : ¬ ("java/lang/IllegalArgumentException" : String) = "java/lang/IndexOutOfBoundsException" := by decide
theorem sAS : ¬ ("java/lang/IllegalArgumentException" : String) = "java/lang/IllegalStateException" := by decide
theorem sSI : ¬ ("java/lang/IllegalStateException" : String) = "java/lang/IndexOutOfBoundsException" := by decide
theorem sSA : ¬ ("java/lang/IllegalStateException" : String) = "java/lang/IllegalArgumentException" := by decide
theorem e11 {s : String} {P : Prop} (p : P) : (s = s → P) ∧ s = s := ⟨fun _ => p, rfl⟩
theorem e21 {s t : String} {P R : Prop} (h : ¬ s = t) (p : P) : (s = s → P) ∧ (s = t → R) ∧ (s = s ∨ s = t) := ⟨fun _ => p, fun e => absurd e h, Or.inl rfl⟩
theorem e22 {s t : String} {P R : Prop} (h : ¬ t = s) (r : R) : (t = s → P) ∧ (t = t → R) ∧ (t = s ∨ t = t) := ⟨fun e => absurd e h, fun _ => r, Or.inr rfl⟩
theorem e31 {s t u : String} {P R S : Prop} (h : ¬ s = t) (h' : ¬ s = u) (p : P) : (s = s → P) ∧ (s = t → R) ∧ (s = u → S) ∧ (s = s ∨ s = t ∨ s = u) := ⟨fun _ => p, fun e => absurd e h, fun e => absurd e h', Or.inl rfl⟩
theorem e32 {s t u : String} {P R S : Prop} (h : ¬ t = s) (h' : ¬ t = u) (r : R) : (t = s → P) ∧ (t = t → R) ∧ (t = u → S) ∧ (t = s ∨ t = t ∨ t = u) := ⟨fun e => absurd e h, fun _ => r, fun e => absurd e h', Or.inr (Or.inl rfl)⟩
theorem e33 {s t u : String} {P R S : Prop} (h : ¬ u = s) (h' : ¬ u = t) (r : S) : (u = s → P) ∧ (u = t → R) ∧ (u = u → S) ∧ (u = s ∨ u = t ∨ u = u) := ⟨fun e => absurd e h, fun e => absurd e h', fun _ => r, Or.inr (Or.inr rfl)⟩
end FR
