/-! ===== reading and writing at known cells; loops ===== -/
theorem jg_at {μ : jM} {a ci k : Nat} {fs : List Value} (h : μ a = some (.inr (ci, fs))) : jg μ (some a) ci k = fs[k]? := by simp [jg, h]
theorem jp_at {μ : jM} {a ci k : Nat} {fs : List Value} {v : Value} (h : μ a = some (.inr (ci, fs))) (hk : k < fs.length) : jp μ (some a) ci k v = some (va_up μ a (some (.inr (ci, fs.set k v)))) := by simp [jp, h, hk]
theorem jin {k n : Nat} (hk : k < n) (hn : n < 2 ^ 31) : ¬ (nI k < 0 ∨ n ≤ (nI k).toNatClampNeg) := vp_in_nI hk hn
theorem jal_at {μ : jM} {a t n : Nat} {f : (Nat → Int32) ⊕ (Nat → Int64) ⊕ (Nat → UInt32) ⊕ (Nat → UInt64) ⊕ (Nat → Option Nat)} (h : μ a = some (.inl (t, n, f))) (ht : t < 4) : jal μ (some a) = some n := by simp [jal, h, ht]
theorem jai_at {μ : jM} {a t n k : Nat} {f : Nat → Int32} {i : Int32} (h : μ a = some (.inl (t, n, .inl f))) (hk : k < n) (hn : n < 2 ^ 31) (hi : i = nI k) : jai t μ (some a) i = some (f k) := by
  subst hi
  have h1 := jin hk hn
  have h2 : (nI k).toNatClampNeg = k := nI_clamp (by omega)
  simp only [jai, h]
  rw [if_pos ⟨trivial, h1⟩, h2]
theorem jaj_at {μ : jM} {a n k : Nat} {f : Nat → Int64} {i : Int32} (h : μ a = some (.inl (1, n, .inr (.inl f)))) (hk : k < n) (hn : n < 2 ^ 31) (hi : i = nI k) : jaj μ (some a) i = some (f k) := by
  subst hi
  have h1 := jin hk hn
  have h2 : (nI k).toNatClampNeg = k := nI_clamp (by omega)
  simp only [jaj, h]
  rw [if_pos ⟨trivial, h1⟩, h2]
theorem jaq_at {μ : jM} {a n k : Nat} {f : Nat → Option Nat} {i : Int32} (h : μ a = some (.inl (3, n, .inr (.inr (.inr (.inr f)))))) (hk : k < n) (hn : n < 2 ^ 31) (hi : i = nI k) : jaq μ (some a) i = some (f k) := by
  subst hi
  have h1 := jin hk hn
  have h2 : (nI k).toNatClampNeg = k := nI_clamp (by omega)
  simp only [jaq, h]
  rw [if_pos ⟨trivial, h1⟩, h2]
theorem jsi_at {μ : jM} {a t n k : Nat} {f : Nat → Int32} {i x : Int32} (h : μ a = some (.inl (t, n, .inl f))) (hk : k < n) (hn : n < 2 ^ 31) (hi : i = nI k) : jsi t μ (some a) i x = some (va_up μ a (some (.inl (t, n, .inl (upd f k x))))) := by
  subst hi
  have h1 := jin hk hn
  have h2 : (nI k).toNatClampNeg = k := nI_clamp (by omega)
  simp only [jsi, h]
  rw [if_pos ⟨trivial, h1⟩, h2]
theorem jsj_at {μ : jM} {a n k : Nat} {f : Nat → Int64} {i : Int32} {x : Int64} (h : μ a = some (.inl (1, n, .inr (.inl f)))) (hk : k < n) (hn : n < 2 ^ 31) (hi : i = nI k) : jsj μ (some a) i x = some (va_up μ a (some (.inl (1, n, .inr (.inl (vp_updL f k x)))))) := by
  subst hi
  have h1 := jin hk hn
  have h2 : (nI k).toNatClampNeg = k := nI_clamp (by omega)
  simp only [jsj, h]
  rw [if_pos ⟨trivial, h1⟩, h2]
theorem jsq_at {μ : jM} {a n k : Nat} {f : Nat → Option Nat} {i : Int32} {x : Option Nat} (h : μ a = some (.inl (3, n, .inr (.inr (.inr (.inr f)))))) (hk : k < n) (hn : n < 2 ^ 31) (hi : i = nI k) : jsq μ (some a) i x = some (va_up μ a (some (.inl (3, n, .inr (.inr (.inr (.inr (va_up f k x)))))))) := by
  subst hi
  have h1 := jin hk hn
  have h2 : (nI k).toNatClampNeg = k := nI_clamp (by omega)
  simp only [jsq, h]
  rw [if_pos ⟨trivial, h1⟩, h2]
theorem jrf_inj {a b : Option Nat} : (va_rf a = va_rf b) = (a = b) := by
  cases a <;> cases b <;> simp [va_rf]
theorem jrf_ref {a : Nat} {b : Option Nat} : (Value.ref a = va_rf b) = (some a = b) := by
  cases b <;> simp [va_rf]
theorem jrf_null {b : Option Nat} : (Value.null = va_rf b) = (none = b) := by
  cases b <;> simp [va_rf]
/-- what a loop over 0, 1 .. n - 1 makes of a state -/
def itr {σ : Type} (f : Nat → σ → σ) : Nat → σ → σ
  | 0, s => s
  | n + 1, s => f n (itr f n s)
/-- a loop that counts up -/
theorem jfor {σ : Type} (P : Nat → Nat → σ → Prop) (N : Nat) (f : Nat → σ → σ) (s0 : σ) (step : ∀ n k, k < N → P n (k + 1) (f k (itr f k s0)) → P (n + 1) k (itr f k s0)) (done : P 1 N (itr f N s0)) : ∃ n, P n 0 s0 := by
  have h : ∀ j, j ≤ N → P (j + 1) (N - j) (itr f (N - j) s0) := by
    intro j
    induction j with
    | zero => intro _; exact done
    | succ j ih =>
      intro hj
      have h1 := ih (by omega)
      have e : N - j = N - (j + 1) + 1 := by omega
      rw [e] at h1
      exact step (j + 1) (N - (j + 1)) (by omega) h1
  have h1 := h N (Nat.le_refl N)
  rw [Nat.sub_self] at h1
  exact ⟨_, h1⟩
/-- a loop that counts down from n - 1 -/
def itd {σ : Type} (f : Nat → σ → σ) : Nat → σ → σ
  | 0, s => s
  | n + 1, s => itd f n (f n s)
theorem jford {σ : Type} (P : Nat → Nat → σ → Prop) (f : Nat → σ → σ) (N : Nat) : ∀ (s0 : σ) (step : ∀ n k s, k < N → P n k (f k s) → P (n + 1) (k + 1) s) (done : P 1 0 (itd f N s0)), ∃ n, P n N s0 := by
  have h : ∀ M, M ≤ N → ∀ s, (∀ n k s, k < N → P n k (f k s) → P (n + 1) (k + 1) s) → P 1 0 (itd f M s) → P (M + 1) M s := by
    intro M
    induction M with
    | zero => intro _ s _ d; exact d
    | succ M ih => intro hM s st d; exact st _ _ _ (by omega) (ih (by omega) _ st d)
  exact fun s0 step done => ⟨N + 1, h N (Nat.le_refl N) s0 step done⟩
