/-! ===== splitting: the class's way and the reference's ===== -/
def sn (f : Nat → Nat) : Nat → Nat
  | 0 => 0
  | n + 1 => sn f n + f n
theorem sn_congr {f g : Nat → Nat} : ∀ n, (∀ j, j < n → f j = g j) → sn f n = sn g n
  | 0, _ => rfl
  | n + 1, h => by
    show sn f n + f n = sn g n + g n
    rw [sn_congr n (fun j hj => h j (by omega)), h n (by omega)]
theorem sn_le {f g : Nat → Nat} : ∀ n, (∀ j, j < n → f j ≤ g j) → sn f n ≤ sn g n
  | 0, _ => Nat.le_refl _
  | n + 1, h => by
    have h1 := sn_le n (fun j hj => h j (by omega))
    have h2 := h n (by omega)
    show sn f n + f n ≤ sn g n + g n
    omega
theorem sn_add {f g : Nat → Nat} : ∀ n, sn (fun j => f j + g j) n = sn f n + sn g n
  | 0 => rfl
  | n + 1 => by
    show sn (fun j => f j + g j) n + (f n + g n) = (sn f n + f n) + (sn g n + g n)
    rw [sn_add n]
    omega
theorem sn_mul {f : Nat → Nat} {a : Nat} : ∀ n, sn (fun j => a * f j) n = a * sn f n
  | 0 => rfl
  | n + 1 => by
    show sn (fun j => a * f j) n + a * f n = a * (sn f n + f n)
    rw [sn_mul n, Nat.mul_add]
theorem sn_mono {f : Nat → Nat} {m n : Nat} (h : m ≤ n) : sn f m ≤ sn f n := by
  induction n with
  | zero => rw [show m = 0 by omega]; exact Nat.le_refl _
  | succ n ih =>
    by_cases e : m = n + 1
    · rw [e]; exact Nat.le_refl _
    · exact Nat.le_trans (ih (by omega)) (Nat.le_add_right _ _)
theorem sn_at {f : Nat → Nat} {i n : Nat} (h : i < n) : f i ≤ sn f n := by
  have h1 : f i ≤ sn f (i + 1) := Nat.le_add_left _ _
  exact Nat.le_trans h1 (sn_mono h)
theorem sn_one {f g : Nat → Nat} {i : Nat} : ∀ n, (∀ j, j < n → j ≠ i → f j = g j) → i < n → sn f n + g i = sn g n + f i
  | 0, _, hi => by omega
  | n + 1, h, hi => by
    show sn f n + f n + g i = sn g n + g n + f i
    by_cases e : i = n
    · rw [sn_congr n (fun j hj => h j (by omega) (by omega)), e]
      omega
    · have := sn_one n (fun j hj hne => h j (by omega) hne) (show i < n by omega)
      have := h n (by omega) (by omega)
      omega
/-- the parts of a division and what is left -/
theorem parts_le {w : Nat → Nat} {a : Nat} (h0 : 0 < sn w 10) : sn (fun i => a * w i / sn w 10) 10 ≤ a ∧ a - sn (fun i => a * w i / sn w 10) 10 ≤ sn (fun i => if 0 < a * w i % sn w 10 then 1 else 0) 10 := by
  generalize hs : sn w 10 = s at h0
  have e1 : sn (fun i => s * (a * w i / s) + a * w i % s) 10 = a * s := by
    rw [← hs, ← sn_mul (f := w) (a := a)]
    exact sn_congr 10 (fun j _ => Nat.div_add_mod _ _)
  rw [sn_add (f := fun i => s * (a * w i / s)) (g := fun i => a * w i % s), sn_mul (f := fun i => a * w i / s) (a := s)] at e1
  have e2 : sn (fun i => a * w i % s) 10 ≤ s * sn (fun i => if 0 < a * w i % s then 1 else 0) 10 := by
    rw [← sn_mul]
    refine sn_le 10 (fun j _ => ?_)
    show a * w j % s ≤ s * (if 0 < a * w j % s then 1 else 0)
    split
    · rw [Nat.mul_one]; exact Nat.le_of_lt (Nat.mod_lt _ h0)
    · omega
  generalize sn (fun i => a * w i / s) 10 = t at e1 ⊢
  generalize sn (fun i => a * w i % s) 10 = r at e1 e2
  generalize sn (fun i => if 0 < a * w i % s then 1 else 0) 10 = c at e2 ⊢
  have t1 : t ≤ a := by
    refine Nat.le_of_mul_le_mul_left ?_ h0
    rw [Nat.mul_comm s a]
    omega
  refine ⟨t1, ?_⟩
  refine Nat.le_of_mul_le_mul_left ?_ h0
  rw [Nat.mul_sub, Nat.mul_comm s a]
  omega
/-! the greatest, the first of several -/
theorem l64_trans {a b c : Int64} (h1 : a ≤ b) (h2 : b < c) : a < c := by
  rw [Int64.lt_iff_toInt_lt] at h2 ⊢
  rw [Int64.le_iff_toInt_le] at h1
  omega
theorem most_max {l : Nat → Int64} : ∀ n, (∀ j, j ≤ n → l j ≤ l (itr (fun k o => if l o < l (k + 1) then k + 1 else o) n 0)) ∧ (∀ j, j < itr (fun k o => if l o < l (k + 1) then k + 1 else o) n 0 → l j < l (itr (fun k o => if l o < l (k + 1) then k + 1 else o) n 0)) := by
  intro n
  induction n with
  | zero => exact ⟨fun j hj => by rw [show j = 0 by omega]; exact Int64.le_refl _, fun j hj => by exact absurd hj (Nat.not_lt_zero _)⟩
  | succ n ih =>
    obtain ⟨h1, h2⟩ := ih
    show (∀ j, j ≤ n + 1 → l j ≤ l (if l (itr (fun k o => if l o < l (k + 1) then k + 1 else o) n 0) < l (n + 1) then n + 1 else itr (fun k o => if l o < l (k + 1) then k + 1 else o) n 0)) ∧ (∀ j, j < (if l (itr (fun k o => if l o < l (k + 1) then k + 1 else o) n 0) < l (n + 1) then n + 1 else itr (fun k o => if l o < l (k + 1) then k + 1 else o) n 0) → l j < l (if l (itr (fun k o => if l o < l (k + 1) then k + 1 else o) n 0) < l (n + 1) then n + 1 else itr (fun k o => if l o < l (k + 1) then k + 1 else o) n 0))
    generalize itr (fun k o => if l o < l (k + 1) then k + 1 else o) n 0 = o at h1 h2 ⊢
    by_cases c : l o < l (n + 1)
    · rw [if_pos c]
      refine ⟨fun j hj => ?_, fun j hj => l64_trans (h1 j (by omega)) c⟩
      by_cases e : j = n + 1
      · rw [e]; exact Int64.le_refl _
      · exact Int64.le_of_lt (l64_trans (h1 j (by omega)) c)
    · rw [if_neg c]
      refine ⟨fun j hj => ?_, h2⟩
      by_cases e : j = n + 1
      · rw [e]; exact Int64.not_lt.mp c
      · exact h1 j (by omega)
theorem most_uniq {l : Nat → Int64} {A m : Nat} (hA : 0 < A) (hm : m < A) (h1 : ∀ j, j < A → l j ≤ l m) (h2 : ∀ j, j < m → l j < l m) : mostF l A = m := by
  obtain ⟨g1, g2⟩ := most_max (l := l) (A - 1)
  have lt := mostF_lt (l := l) hA
  unfold mostF at lt ⊢
  generalize itr (fun k o => if l o < l (k + 1) then k + 1 else o) (A - 1) 0 = o at g1 g2 lt ⊢
  rcases Nat.lt_trichotomy o m with c | c | c
  · exact absurd (h2 o c) (Int64.not_lt.mpr (g1 m (by omega)))
  · exact c
  · exact absurd (g2 m c) (Int64.not_lt.mpr (h1 o lt))
theorem most_ge {l : Nat → Int64} {A : Nat} (hA : 0 < A) : (∀ j, j < A → l j ≤ l (mostF l A)) ∧ ∀ j, j < mostF l A → l j < l (mostF l A) := by
  obtain ⟨g1, g2⟩ := most_max (l := l) (A - 1)
  exact ⟨fun j hj => g1 j (by omega), g2⟩
/-- a loop over places, some of them beyond the list -/
theorem itr_places {σ : Type} (S : Nat → σ → σ) (l : List Nat) (y : σ) : ∀ m, itr (fun i s => match l[i]? with | some x => S x s | none => s) m y = foldS S (l.take m) y := by
  intro m
  induction m with
  | zero => rfl
  | succ m ih =>
    show (match l[m]? with | some x => S x (itr (fun i s => match l[i]? with | some x => S x s | none => s) m y) | none => itr (fun i s => match l[i]? with | some x => S x s | none => s) m y) = _
    rw [ih, List.take_succ, foldS_app]
    cases l[m]? with
    | none => rfl
    | some x => rfl
section SP
variable {A L F : Nat} {I : Nat → Nat → Int32} {y l : Nat → Int64}
theorem cmem_len (hA : A ≤ 10) {p : Nat} : (cmem A I p).length ≤ 10 := by
  unfold cmem
  exact Nat.le_trans (List.length_filter_le _ _) (by rw [List.length_range]; exact hA)
theorem cmem_sorted {p i j a b : Nat} (hi : (cmem A I p)[i]? = some a) (hj : (cmem A I p)[j]? = some b) (h : i < j) : a < b := by
  have hp : (cmem A I p).Pairwise (· < ·) := List.Pairwise.filter _ (List.pairwise_lt_range (n := A))
  obtain ⟨li, ei⟩ := List.getElem?_eq_some_iff.mp hi
  obtain ⟨lj, ej⟩ := List.getElem?_eq_some_iff.mp hj
  rw [← ei, ← ej]
  exact List.pairwise_iff_getElem.mp hp i j li lj h
theorem cmem_place {p x : Nat} (hx : x < A) (ht : tI I x = p) : ∃ i, (cmem A I p)[i]? = some x ∧ i < (cmem A I p).length := by
  obtain ⟨i, hi, e⟩ := List.getElem_of_mem (mem_cmem.mpr ⟨hx, ht⟩)
  exact ⟨i, by rw [List.getElem?_eq_getElem hi, e], hi⟩
/-- how many remainders are above 0 -/
def psF (rm : Nat → Int64) : Nat := sn (fun i => if 0 < rm i then 1 else 0) 10
/-- the two ways stand alike in the middle of splitting -/
def spR (A : Nat) (I : Nat → Nat → Int32) (p : Nat) (sg : Int64) (y : Nat → Int64) (c r : (Nat → Int64) × (Nat → Int64)) : Prop :=
  (∀ i x, (cmem A I p)[i]? = some x → r.2 x = c.2 i ∧ r.1 x = y x + sg * c.1 i ∧ r.1 (50 + x) = y (50 + x) + sg * c.1 i) ∧ (∀ k, k < A → tI I k ≠ p → r.2 k = -1) ∧ (∀ i, i < 10 → (cmem A I p)[i]? = none → c.2 i ≤ 0) ∧
  (∀ m, (∀ x, x < A → tI I x = p → m ≠ x ∧ m ≠ 50 + x) → r.1 m = y m)
theorem round_eq (hA : A ≤ 10) {p : Nat} {sg : Int64} {c r : (Nat → Int64) × (Nat → Int64)} (h : spR A I p sg y c r) (hc : 0 < psF c.2) : ∃ k, k < A ∧ mostF r.2 A = k ∧ (cmem A I p)[mostF c.2 10]? = some k ∧ 0 < c.2 (mostF c.2 10) := by
  obtain ⟨h1, h2, h3, -⟩ := h
  -- a place with something left
  have ex : ∃ j, j < 10 ∧ 0 < c.2 j := by
    by_cases e : ∃ j, j < 10 ∧ 0 < c.2 j
    · exact e
    · have : psF c.2 = 0 := by
        unfold psF
        rw [sn_congr (g := fun _ => 0) 10 (fun j hj => if_neg (fun w => e ⟨j, hj, w⟩))]
        rfl
      omega
  obtain ⟨j0, hj0, p0⟩ := ex
  have pl : ∀ j, j < 10 → 0 < c.2 j → ∃ x, (cmem A I p)[j]? = some x ∧ x < A := by
    intro j hj hp
    cases hx : (cmem A I p)[j]? with
    | none => exact absurd hp (Int64.not_lt.mpr (h3 j hj hx))
    | some x => exact ⟨x, rfl, (cmem_lt hx).1⟩
  obtain ⟨x0, hx0, hx0A⟩ := pl j0 hj0 p0
  have hA0 : 0 < A := by omega
  obtain ⟨g1, g2⟩ := most_ge (l := r.2) hA0
  have lt := mostF_lt (l := r.2) hA0
  have big : 0 < r.2 (mostF r.2 A) := by
    have := g1 x0 hx0A
    rw [(h1 j0 x0 hx0).1] at this
    rw [Int64.lt_iff_toInt_lt] at p0 ⊢
    rw [Int64.le_iff_toInt_le] at this
    omega
  have mem : tI I (mostF r.2 A) = p := by
    by_cases e : tI I (mostF r.2 A) = p
    · exact e
    · rw [h2 _ lt e] at big
      exact absurd big (by decide)
  obtain ⟨j, hj, hjl⟩ := cmem_place lt mem
  have len := cmem_len (I := I) hA (p := p)
  have ej : mostF c.2 10 = j := by
    refine most_uniq (by omega) (by omega) (fun i hi => ?_) (fun i hi => ?_)
    · rw [← (h1 j _ hj).1]
      cases hx : (cmem A I p)[i]? with
      | none => exact Int64.le_of_lt (l64_trans (h3 i hi hx) big)
      | some x =>
        rw [← (h1 i x hx).1]
        exact g1 x (cmem_lt hx).1
    · rw [← (h1 j _ hj).1]
      have hx : (cmem A I p)[i]? = some ((cmem A I p)[i]'(by omega)) := List.getElem?_eq_getElem (by omega)
      generalize (cmem A I p)[i]'(by omega) = x at hx
      rw [← (h1 i x hx).1]
      exact g2 x (cmem_sorted hx hj hi)
  refine ⟨_, lt, rfl, by rw [ej]; exact hj, ?_⟩
  rw [ej, ← (h1 j _ hj).1]
  exact big
theorem cp_dec {rm : Nat → Int64} {i : Nat} (hi : i < 10) (h : 0 < rm i) : psF (vp_updL rm i (-1)) + 1 = psF rm := by
  have := sn_one (f := fun j => if 0 < vp_updL rm i (-1) j then 1 else 0) (g := fun j => if 0 < rm j then 1 else 0) (i := i) 10 (fun j _ hne => by show (if 0 < vp_updL rm i (-1) j then 1 else 0) = _; rw [pk_uLn hne]) hi
  simp only [pk_uLs, if_pos h, if_neg (show ¬ (0 : Int64) < -1 by decide)] at this
  unfold psF
  omega
theorem rounds_eq (hA : A ≤ 10) {p : Nat} {sgI : Int32} : ∀ (n : Nat) (c r : (Nat → Int64) × (Nat → Int64)) (f : Nat → Nat), spR A I p sgI.toInt64 y c r → n ≤ psF c.2 → (∀ i, i < 10 → c.1 i = lN (f i)) →
    spR A I p sgI.toInt64 y (itr (fun _ s => gcR s) n c) (cenF A sgI n r) ∧ ∃ g, (∀ i, i < 10 → (itr (fun _ s => gcR s) n c).1 i = lN (g i)) ∧ sn g 10 = sn f 10 + n := by
  have shift : ∀ (n : Nat) (c : (Nat → Int64) × (Nat → Int64)), itr (fun _ s => gcR s) (n + 1) c = itr (fun _ s => gcR s) n (gcR c) := by
    intro n
    induction n with
    | zero => intro c; rfl
    | succ n ih =>
      intro c
      show gcR (itr (fun _ s => gcR s) (n + 1) c) = gcR (itr (fun _ s => gcR s) n (gcR c))
      rw [ih]
  intro n
  induction n with
  | zero => intro c r f h _ hf; exact ⟨h, f, hf, rfl⟩
  | succ n ih =>
    intro c r f h hn hf
    obtain ⟨k, hk, ek, hm, hp⟩ := round_eq hA h (by omega)
    have hi10 := mostF_lt (l := c.2) (A := 10) (by omega)
    rw [shift]
    show spR A I p sgI.toInt64 y (itr (fun _ s => gcR s) n (gcR c)) (cenF A sgI n (getsF (mostF r.2 A) sgI.toInt64 r.1, vp_updL r.2 (mostF r.2 A) (-1))) ∧ _
    rw [ek]
    have e1 : gcR c = (vp_updL c.1 (mostF c.2 10) (c.1 (mostF c.2 10) + 1), vp_updL c.2 (mostF c.2 10) (-1)) := rfl
    rw [e1]
    generalize mostF c.2 10 = b at hm hp hi10
    obtain ⟨h1, h2, h3, h4⟩ := h
    have ktop := (cmem_lt hm).2
    have hrel : spR A I p sgI.toInt64 y (vp_updL c.1 b (c.1 b + 1), vp_updL c.2 b (-1)) (getsF k sgI.toInt64 r.1, vp_updL r.2 k (-1)) := by
      refine ⟨fun i x hx => ?_, fun x hx ht => ?_, fun i hi hx => ?_, fun m hm2 => ?_⟩
      · have hxA := (cmem_lt hx).1
        obtain ⟨q1, q2, q3⟩ := h1 i x hx
        by_cases e : i = b
        · subst e
          have : x = k := Option.some.inj (hx.symm.trans hm)
          subst this
          show vp_updL r.2 x (-1) x = vp_updL c.2 i (-1) i ∧ getsF x sgI.toInt64 r.1 x = _ + _ * vp_updL c.1 i (c.1 i + 1) i ∧ getsF x sgI.toInt64 r.1 (50 + x) = _ + _ * vp_updL c.1 i (c.1 i + 1) i
          unfold getsF
          rw [pk_uLs, pk_uLs, pk_uLs, pk_uLs, pk_uLn (show x ≠ 50 + x by omega), pk_uLs, q2, q3, Int64.mul_add, Int64.mul_one, Int64.add_assoc, Int64.add_assoc]
          exact ⟨rfl, rfl, rfl⟩
        · have hne : x ≠ k := fun w => e (cmem_inj hx (by rw [w]; exact hm))
          show vp_updL r.2 k (-1) x = vp_updL c.2 b (-1) i ∧ getsF k sgI.toInt64 r.1 x = _ + _ * vp_updL c.1 b (c.1 b + 1) i ∧ getsF k sgI.toInt64 r.1 (50 + x) = _ + _ * vp_updL c.1 b (c.1 b + 1) i
          unfold getsF
          rw [pk_uLn hne, pk_uLn e, pk_uLn e, pk_uLn (show x ≠ 50 + k by omega), pk_uLn hne, pk_uLn (show 50 + x ≠ 50 + k by omega), pk_uLn (show 50 + x ≠ k by omega)]
          exact ⟨q1, q2, q3⟩
      · have hne : x ≠ k := fun w => ht (by rw [w]; exact ktop)
        show vp_updL r.2 k (-1) x = -1
        rw [pk_uLn hne]
        exact h2 x hx ht
      · have hne : i ≠ b := fun w => by rw [w, hm] at hx; cases hx
        show vp_updL c.2 b (-1) i ≤ 0
        rw [pk_uLn hne]
        exact h3 i hi hx
      · obtain ⟨u1, u2⟩ := hm2 k hk ktop
        show getsF k sgI.toInt64 r.1 m = y m
        unfold getsF
        rw [pk_uLn u2, pk_uLn u1]
        exact h4 m hm2
    have hcp := cp_dec hi10 hp
    obtain ⟨a1, g, a2, a3⟩ := ih _ _ (fun i => if i = b then f b + 1 else f i) hrel (by show n ≤ psF (vp_updL c.2 b (-1)); omega) (fun i hi => by
      show vp_updL c.1 b (c.1 b + 1) i = _
      by_cases e : i = b
      · subst e
        rw [pk_uLs, if_pos rfl, hf i hi10, lN_1]
      · rw [pk_uLn e, if_neg e]
        exact hf i hi)
    refine ⟨a1, g, a2, ?_⟩
    have s := sn_one (f := fun i => if i = b then f b + 1 else f i) (g := f) (i := b) 10 (fun j _ hne => if_neg hne) hi10
    simp only [if_true] at s
    omega
end SP
