/-! ===== trees by parents: an account's parent has a lower number ===== -/
def parN (par : Nat → Option Nat) : Nat → Nat → Option Nat
  | 0, j => some j
  | n + 1, j => (par j).bind (parN par n)
def sub (par : Nat → Option Nat) (i j : Nat) : Prop := ∃ n, parN par n j = some i
def kidsF (A : Nat) (par : Nat → Option Nat) (i : Nat) : List Nat := (List.range A).filter (fun c => decide (par c = some i))
def pre (A : Nat) (par : Nat → Option Nat) : Nat → Nat → List Nat
  | 0, _ => []
  | f + 1, i => i :: (kidsF A par i).flatMap (pre A par f)
def post (A : Nat) (par : Nat → Option Nat) : Nat → Nat → List Nat
  | 0, _ => []
  | f + 1, i => (kidsF A par i).flatMap (post A par f) ++ [i]
theorem perm_flat {f g : Nat → List Nat} : ∀ (l : List Nat), (∀ c, (f c).Perm (g c)) → (l.flatMap f).Perm (l.flatMap g)
  | [], _ => List.Perm.refl _
  | a :: l, h => by
    rw [List.flatMap_cons, List.flatMap_cons]
    exact List.Perm.append (h a) (perm_flat l h)
section FO
variable {A : Nat} {par : Nat → Option Nat}
theorem mem_kidsF {i c : Nat} : c ∈ kidsF A par i ↔ c < A ∧ par c = some i := by simp [kidsF]
theorem parN_add (n m j : Nat) : parN par (n + m) j = (parN par n j).bind (parN par m) := by
  induction n generalizing j with
  | zero => simp [parN]
  | succ n ih =>
    rw [Nat.succ_add]
    simp only [parN]
    cases par j with
    | none => rfl
    | some p => exact ih p
theorem parN_le (hp : ∀ i p, par i = some p → p < i) {n j i : Nat} (h : parN par n j = some i) : i ≤ j ∧ (0 < n → i < j) := by
  induction n generalizing j with
  | zero => simp only [parN, Option.some.injEq] at h; omega
  | succ n ih =>
    simp only [parN] at h
    cases hj : par j with
    | none => rw [hj] at h; cases h
    | some p =>
      rw [hj] at h
      have h1 := ih (j := p) h
      have h2 := hp j p hj
      omega
theorem sub_rfl {i : Nat} : sub par i i := ⟨0, rfl⟩
theorem sub_le (hp : ∀ i p, par i = some p → p < i) {i j : Nat} (h : sub par i j) : i ≤ j := by
  obtain ⟨n, h⟩ := h
  exact (parN_le hp h).1
theorem sub_trans {i j k : Nat} (h1 : sub par i j) (h2 : sub par j k) : sub par i k := by
  obtain ⟨n, h1⟩ := h1
  obtain ⟨m, h2⟩ := h2
  exact ⟨m + n, by rw [parN_add, h2]; exact h1⟩
theorem sub_par {i c : Nat} (h : par c = some i) : sub par i c := ⟨1, by simp [parN, h]⟩
/-- two brothers have nothing in common -/
theorem sub_apart (hp : ∀ i p, par i = some p → p < i) {i c d j : Nat} (hc : par c = some i) (hd : par d = some i) (h1 : sub par c j) (h2 : sub par d j) : c = d := by
  have key : ∀ {c d : Nat}, par c = some i → par d = some i → ∀ {n m : Nat}, n ≤ m → parN par n j = some c → parN par m j = some d → c = d := by
    intro c d hc hd n m hnm h1 h2
    obtain ⟨q, rfl⟩ := Nat.exists_eq_add_of_le hnm
    rw [parN_add, h1] at h2
    have h2 : parN par q c = some d := h2
    cases q with
    | zero => exact Option.some.inj h2
    | succ q =>
      simp only [parN, hc] at h2
      have h3 := (parN_le hp (j := i) h2).1
      have h4 := hp d i hd
      omega
  obtain ⟨n, h1⟩ := h1
  obtain ⟨m, h2⟩ := h2
  rcases Nat.le_total n m with h | h
  · exact key hc hd h h1 h2
  · exact (key hd hc h h2 h1).symm
theorem sub_kid {i j : Nat} (h : sub par i j) (hne : i ≠ j) : ∃ c, par c = some i ∧ sub par c j := by
  obtain ⟨n, h⟩ := h
  cases n with
  | zero => exact absurd (Option.some.inj h).symm hne
  | succ n =>
    have h1 : (parN par n j).bind (parN par 1) = some i := by rw [← parN_add]; exact h
    cases hc : parN par n j with
    | none => rw [hc] at h1; cases h1
    | some c =>
      rw [hc] at h1
      have h1 : (par c).bind (parN par 0) = some i := h1
      cases hpc : par c with
      | none => rw [hpc] at h1; cases h1
      | some p =>
        rw [hpc] at h1
        have h1 : some p = some i := h1
        cases h1
        exact ⟨c, hpc, n, hc⟩
theorem mem_pre (hp : ∀ i p, par i = some p → p < i) : ∀ (f i j : Nat), i < A → A - i ≤ f → (j ∈ pre A par f i ↔ j < A ∧ sub par i j) := by
  intro f
  induction f with
  | zero => intro i j hi hf; omega
  | succ f ih =>
    intro i j hi hf
    simp only [pre, List.mem_cons, List.mem_flatMap, mem_kidsF]
    constructor
    · rintro (rfl | ⟨c, ⟨hc, hpc⟩, hj⟩)
      · exact ⟨hi, sub_rfl⟩
      · have hci := hp c i hpc
        have := (ih c j hc (by omega)).mp hj
        exact ⟨this.1, sub_trans (sub_par hpc) this.2⟩
    · rintro ⟨hj, hs⟩
      by_cases hij : i = j
      · exact Or.inl hij.symm
      · obtain ⟨c, hpc, hcs⟩ := sub_kid hs hij
        have hcj := sub_le hp hcs
        have hci := hp c i hpc
        exact Or.inr ⟨c, ⟨by omega, hpc⟩, (ih c j (by omega) (by omega)).mpr ⟨hj, hcs⟩⟩
theorem perm_post : ∀ (f i : Nat), (post A par f i).Perm (pre A par f i) := by
  intro f
  induction f with
  | zero => intro i; exact List.Perm.refl _
  | succ f ih =>
    intro i
    simp only [post, pre]
    refine List.perm_append_comm.trans ?_
    exact List.Perm.cons i (perm_flat _ ih)
theorem nodup_pre (hp : ∀ i p, par i = some p → p < i) : ∀ (f i : Nat), i < A → A - i ≤ f → (pre A par f i).Nodup := by
  intro f
  induction f with
  | zero => intro i hi hf; omega
  | succ f ih =>
    intro i hi hf
    simp only [pre]
    rw [List.nodup_cons]
    constructor
    · intro h
      obtain ⟨c, hc, hj⟩ := List.mem_flatMap.mp h
      rw [mem_kidsF] at hc
      have hci := hp c i hc.2
      have := sub_le hp ((mem_pre hp f c i hc.1 (by omega)).mp hj).2
      omega
    · refine List.pairwise_flatMap.mpr ?_
      constructor
      · intro c hc
        rw [mem_kidsF] at hc
        have hci := hp c i hc.2
        exact ih c hc.1 (by omega)
      · refine List.Pairwise.imp_of_mem ?_ (List.Pairwise.filter _ (List.nodup_range (n := A)))
        intro c d hc hd hne j hjc j2 hjd ej
        subst ej
        have hc := mem_kidsF.mp hc
        have hd := mem_kidsF.mp hd
        have hci := hp c i hc.2
        have hdi := hp d i hd.2
        exact hne (sub_apart hp hc.2 hd.2 ((mem_pre hp f c j hc.1 (by omega)).mp hjc).2 ((mem_pre hp f d j hd.1 (by omega)).mp hjd).2)
end FO
