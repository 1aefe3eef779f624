/-! ===== steps that commute where either order is allowed: one result for all allowed orders ===== -/
def foldS {σ : Type} (S : Nat → σ → σ) (l : List Nat) (y : σ) : σ := l.foldl (fun y k => S k y) y
theorem foldS_nil {σ : Type} (S : Nat → σ → σ) (y : σ) : foldS S [] y = y := rfl
theorem foldS_cons {σ : Type} (S : Nat → σ → σ) (a : Nat) (l : List Nat) (y : σ) : foldS S (a :: l) y = foldS S l (S a y) := rfl
theorem foldS_app {σ : Type} (S : Nat → σ → σ) (a b : List Nat) (y : σ) : foldS S (a ++ b) y = foldS S b (foldS S a y) := List.foldl_append ..
theorem foldS_past {σ : Type} (S : Nat → σ → σ) (a : Nat) (u : List Nat) (h : ∀ x ∈ u, ∀ s, S x (S a s) = S a (S x s)) (y : σ) : foldS S u (S a y) = S a (foldS S u y) := by
  induction u generalizing y with
  | nil => rfl
  | cons b u ih =>
    rw [foldS_cons, foldS_cons, h b List.mem_cons_self, ih (fun x hx => h x (List.mem_cons_of_mem _ hx))]
theorem trace {σ : Type} (S : Nat → σ → σ) (P : Nat → Nat → Prop) (hc : ∀ x y, x ≠ y → P x y → P y x → ∀ s, S x (S y s) = S y (S x s)) :
    ∀ (l1 l2 : List Nat), l1.Perm l2 → l1.Nodup → l1.Pairwise P → l2.Pairwise P → ∀ s, foldS S l1 s = foldS S l2 s := by
  intro l1
  induction l1 with
  | nil =>
    intro l2 hp _ _ _ s
    rw [hp.nil_eq]
  | cons a t ih =>
    intro l2 hp hn h1 h2 s
    obtain ⟨u, v, rfl⟩ := List.append_of_mem (hp.subset List.mem_cons_self)
    have hp2 : t.Perm (u ++ v) := (hp.trans List.perm_middle).cons_inv
    rw [List.nodup_cons] at hn
    rw [List.pairwise_cons] at h1
    have h3 := List.pairwise_append.mp h2
    have h4 := List.pairwise_cons.mp h3.2.1
    have hu : ∀ x ∈ u, ∀ s, S x (S a s) = S a (S x s) := fun x hx s => by
      have hxt : x ∈ t := hp2.symm.subset (List.mem_append_left _ hx)
      refine hc x a (fun e => hn.1 (e ▸ hxt)) (h3.2.2 x hx a List.mem_cons_self) (h1.1 x hxt) s
    rw [foldS_app, foldS_cons, foldS_cons, ih (u ++ v) hp2 hn.2 h1.2 (List.pairwise_append.mpr ⟨h3.1, h4.2, fun x hx y hy => h3.2.2 x hx y (List.mem_cons_of_mem _ hy)⟩), foldS_app, foldS_past S a u hu]
theorem itr_foldS {σ : Type} (S : Nat → σ → σ) (n : Nat) (y : σ) : itr S n y = foldS S (List.range n) y := by
  induction n with
  | zero => rfl
  | succ n ih => rw [List.range_succ, foldS_app, ← ih]; rfl
theorem itd_foldS {σ : Type} (S : Nat → σ → σ) (n : Nat) (y : σ) : itd S n y = foldS S (List.range n).reverse y := by
  induction n generalizing y with
  | zero => rfl
  | succ n ih => rw [List.range_succ, List.reverse_append, foldS_app]; exact ih _
theorem foldS_filter {σ : Type} (S : Nat → σ → σ) (p : Nat → Bool) (l : List Nat) (y : σ) : foldS S (l.filter p) y = foldS (fun k s => if p k = true then S k s else s) l y := by
  induction l generalizing y with
  | nil => rfl
  | cons a l ih =>
    by_cases h : p a = true
    · rw [List.filter_cons_of_pos h, foldS_cons, foldS_cons, ih]
      simp [h]
    · rw [List.filter_cons_of_neg h, foldS_cons, ih]
      simp [h]
/-- a loop over the places of a list -/
theorem itr_list {σ : Type} (S : Nat → σ → σ) (l : List Nat) (y : σ) : itr (fun i s => match l[i]? with | some x => S x s | none => s) l.length y = foldS S l y := by
  have h : ∀ m, m ≤ l.length → itr (fun i s => match l[i]? with | some x => S x s | none => s) m y = foldS S (l.take m) y := by
    intro m
    induction m with
    | zero => intro _; rfl
    | succ m ih =>
      intro hm
      have e : l[m]? = some (l[m]'(by omega)) := List.getElem?_eq_getElem (by omega)
      rw [List.take_succ, foldS_app, ← ih (by omega), e]
      show (match l[m]? with | some x => S x _ | none => _) = _
      rw [e]
      rfl
  rw [h _ (Nat.le_refl _), List.take_length]
