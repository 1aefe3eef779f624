/-! ===== the memory as a function of the address; the kit's rows over it ===== -/
/-- a cell's content: an array (its kind: 0 int, 1 long, 2 boolean, 3 references; its length and contents) or an object (its class by its place in vwCl, its fields) -/
abbrev jE : Type := (Nat × vp_A) ⊕ (Nat × List Value)
abbrev jM : Type := Nat → Option jE
/-- the classes' ids and slots, and the ids of the array classes by kind -/
abbrev jD : Type := va_G × (Nat → ClassId)
def jtr (D : jD) (e : jE) : va_E := match e with
  | .inl x => .inl (D.2 x.1, x.2)
  | .inr o => .inr o
def jH (D : jD) (μ : jM) (H : Heap) : Prop := ∀ (a : Nat) (e : jE), μ a = some e → va_at D.1 vwCl (a, jtr D e) H
def jty (D : jD) : List (ClassId × FieldType) := [(D.2 0, .int), (D.2 1, .long), (D.2 2, .boolean), (D.2 3, .object "java/lang/Object")]
def jK (D : jD) (s : State) : Prop := va_K D.1 vwCl (jty D) s
theorem j_lst {α : Type} (l : List α) (a : α) : (l ++ [a])[l.length]? = some a := by simp
/-- the empty array that all new lists share: it's never written -/
def jZ0 : jE := .inl (3, 0, .inr (.inr (.inr (.inr (fun _ => none)))))
/-- what a method may change: the cells of its memory but that one, and those that it makes -/
def jA (z : Nat × Nat) (μ : jM) (sz : Nat) : Nat → Prop := fun q => (q ≠ z.1 ∧ ∃ e, μ q = some e) ∨ sz ≤ q
def jW (D : jD) (z : Nat × Nat) (μ : jM) (n : Nat) : va_W := (List.range n).filterMap (fun q => if q = z.1 then none else (μ q).map (fun e => (q, jtr D e)))
theorem jW_at {D : jD} {z : Nat × Nat} {μ : jM} {n k : Nat} {q : Nat × va_E} (h : (jW D z μ n)[k]? = some q) : ∃ e, μ q.1 = some e ∧ q = (q.1, jtr D e) ∧ q.1 < n ∧ q.1 ≠ z.1 := by
  have hm := List.mem_of_getElem? h
  obtain ⟨a, ha, h2⟩ := List.mem_filterMap.mp hm
  split at h2
  · cases h2
  · rename_i hne
    cases he : μ a with
    | none => rw [he] at h2; cases h2
    | some e =>
      rw [he] at h2
      cases h2
      exact ⟨e, he, rfl, List.mem_range.mp ha, hne⟩
theorem jW_of {D : jD} {z : Nat × Nat} {μ : jM} {n a : Nat} {e : jE} (h : μ a = some e) (hn : a < n) (hz : a ≠ z.1) : ∃ k : Nat, (jW D z μ n)[k]? = some (a, jtr D e) := by
  apply List.getElem?_of_mem
  exact List.mem_filterMap.mpr ⟨a, List.mem_range.mpr hn, by rw [if_neg hz, h]; rfl⟩
theorem jW_lt {D : jD} {z : Nat × Nat} {μ : jM} (n : Nat) : (jW D z μ n).Pairwise (fun x y => x.1 < y.1) := by
  unfold jW
  refine List.Pairwise.filterMap _ ?_ List.pairwise_lt_range
  intro a b hab x hx y hy
  split at hx
  · cases hx
  · split at hy
    · cases hy
    · cases ha : μ a with
      | none => rw [ha] at hx; cases hx
      | some e =>
        cases hb : μ b with
        | none => rw [hb] at hy; cases hy
        | some e2 =>
          rw [ha] at hx
          rw [hb] at hy
          cases hx
          cases hy
          exact hab
theorem jW_inj {D : jD} {z : Nat × Nat} {μ : jM} {n i j : Nat} {p q : Nat × va_E} (hi : (jW D z μ n)[i]? = some p) (hj : (jW D z μ n)[j]? = some q) (h : p.1 = q.1) : i = j := by
  have hp := List.pairwise_iff_getElem.mp (jW_lt (D := D) (z := z) (μ := μ) n)
  obtain ⟨li, ei⟩ := List.getElem?_eq_some_iff.mp hi
  obtain ⟨lj, ej⟩ := List.getElem?_eq_some_iff.mp hj
  rcases Nat.lt_trichotomy i j with c | c | c
  · have := hp i j li lj c
    rw [ei, ej] at this
    omega
  · exact c
  · have := hp j i lj li c
    rw [ei, ej] at this
    omega
theorem jW_P {D : jD} {z : Nat × Nat} {μ : jM} {H : Heap} (h : jH D μ H) : va_P D.1 vwCl (jW D z μ H.size) H := by
  intro k q hk
  obtain ⟨e, h1, h2, -⟩ := jW_at hk
  rw [h2]
  exact h _ _ h1
theorem jW1 {D : jD} {μ : jM} {H : Heap} (h : jH D μ H) {a : Nat} {e : jE} (ha : μ a = some e) : va_P D.1 vwCl [(a, jtr D e)] H := by
  intro k q hk
  cases k with
  | zero => cases hk; exact h _ _ ha
  | succ k => simp at hk
theorem jW_D {D : jD} {z : Nat × Nat} {μ : jM} {n : Nat} {A : Nat → Prop} (h : ∀ (a : Nat) (e : jE), μ a = some e → a ≠ z.1 → A a) : va_D A (jW D z μ n) :=
  ⟨fun i j p q hi hj hpq => jW_inj hi hj hpq, fun k q hk => by
    obtain ⟨e, h1, -, -, h2⟩ := jW_at hk
    exact h _ _ h1 h2⟩
theorem jH.lt {D : jD} {μ : jM} {H : Heap} (h : jH D μ H) {a : Nat} {e : jE} (ha : μ a = some e) : a < H.size := (h a e ha).lt
theorem jH_set {D : jD} {z : Nat × Nat} {μ : jM} {H H1 : Heap} {a k : Nat} {e0 e1 : jE} (h : jH D μ H) (hk : (jW D z μ H.size)[k]? = some (a, jtr D e0))
    (hP : va_P D.1 vwCl ((jW D z μ H.size).set k (a, jtr D e1)) H1) (hz : H1[z.1]? = H[z.1]?) : jH D (va_up μ a (some e1)) H1 := by
  have hl := (List.getElem?_eq_some_iff.mp hk).1
  intro b e hb
  unfold va_up at hb
  by_cases hba : b = a
  · subst hba
    rw [if_pos rfl] at hb
    cases hb
    exact hP k _ (List.getElem?_set_self hl)
  · rw [if_neg hba] at hb
    by_cases hbz : b = z.1
    · subst hbz
      exact (h _ e hb).kept hz
    · obtain ⟨kb, hkb⟩ := jW_of (D := D) hb (h.lt hb) hbz
      refine hP kb _ ?_
      rw [List.getElem?_set_ne (fun c => hba ?_)]
      · exact hkb
      · subst c
        have h2 := hkb.symm.trans hk
        exact congrArg Prod.fst (Option.some.inj h2)
theorem jH_push {D : jD} {z : Nat × Nat} {μ : jM} {H H1 : Heap} {A : Nat → Prop} {q : Nat} {e1 : jE} (h : jH D μ H) (hzq : q ≠ z.1)
    (hP : va_P D.1 vwCl (jW D z μ H.size ++ [(q, jtr D e1)]) H1) (hD : va_D A (jW D z μ H.size ++ [(q, jtr D e1)])) (hz : H1[z.1]? = H[z.1]?) : μ q = none ∧ jH D (va_up μ q (some e1)) H1 := by
  have hq : (jW D z μ H.size ++ [(q, jtr D e1)])[(jW D z μ H.size).length]? = some (q, jtr D e1) := by simp
  have hn : μ q = none := by
    cases hc : μ q with
    | none => rfl
    | some e =>
      obtain ⟨k, hk⟩ := jW_of (D := D) hc (h.lt hc) hzq
      have hl := (List.getElem?_eq_some_iff.mp hk).1
      have := hD.1 k _ (q, jtr D e) (q, jtr D e1) (by rw [List.getElem?_append_left hl]; exact hk) hq rfl
      omega
  refine ⟨hn, fun b e hb => ?_⟩
  unfold va_up at hb
  by_cases hba : b = q
  · subst hba
    rw [if_pos rfl] at hb
    cases hb
    exact hP _ _ hq
  · rw [if_neg hba] at hb
    by_cases hbz : b = z.1
    · subst hbz
      exact (h _ e hb).kept hz
    · obtain ⟨kb, hkb⟩ := jW_of (D := D) hb (h.lt hb) hbz
      have hl := (List.getElem?_eq_some_iff.mp hkb).1
      exact hP kb _ (by rw [List.getElem?_append_left hl]; exact hkb)
/-- the memory at a point of a method, what was free at its start -/
def jI (D : jD) (z : Nat × Nat) (A : Nat → Prop) (H0 : Heap) (μ : jM) (H : Heap) (locs : List Loc) : Prop :=
  jH D μ H ∧ (∀ (a : Nat) (e : jE), μ a = some e → a ≠ z.1 → A a) ∧ va_S A H0 H locs ∧ (∀ q, H0.size ≤ q → A q) ∧ μ z.1 = some jZ0 ∧ ¬ A z.1
theorem jI.start {D : jD} {z : Nat × Nat} {μ : jM} {H : Heap} (h : jH D μ H) (hz : μ z.1 = some jZ0) : jI D z (jA z μ H.size) H μ H [] :=
  ⟨h, fun _ e ha hn => Or.inl ⟨hn, e, ha⟩, va_S.rf, fun _ h => Or.inr h, hz, fun q => q.elim (fun q => q.1 rfl) (fun q => absurd (h.lt hz) (Nat.not_lt.mpr q))⟩
theorem jI.dom {D : jD} {z : Nat × Nat} {A : Nat → Prop} {H0 H : Heap} {μ : jM} {locs : List Loc} (h : jI D z A H0 μ H locs) : ∀ q, jA z μ H.size q → A q := by
  intro q hq
  rcases hq with ⟨hn, e, he⟩ | hq
  · exact h.2.1 q e he hn
  · exact h.2.2.2.1 q (Nat.le_trans h.2.2.1.1 hq)
theorem jI.up {D : jD} {z : Nat × Nat} {A : Nat → Prop} {H0 H H1 : Heap} {μ : jM} {locs locs1 : List Loc} (h : jI D z A H0 μ H locs) {a : Nat} {e1 : jE} (ha : A a) (hH : jH D (va_up μ a (some e1)) H1) (hS : va_S A H0 H1 locs1) : jI D z A H0 (va_up μ a (some e1)) H1 locs1 := by
  refine ⟨hH, fun b e hb hn => ?_, hS, h.2.2.2.1, ?_, h.2.2.2.2.2⟩
  · unfold va_up at hb
    by_cases hba : b = a
    · rw [hba]; exact ha
    · rw [if_neg hba] at hb
      exact h.2.1 b e hb hn
  · unfold va_up
    rw [if_neg (fun q => h.2.2.2.2.2 (by rw [q]; exact ha))]
    exact h.2.2.2.2.1
theorem jI.z {D : jD} {z : Nat × Nat} {A : Nat → Prop} {H0 H H1 : Heap} {μ : jM} {locs locs1 : List Loc} (h : jI D z A H0 μ H locs) (hS : va_S A H0 H1 locs1) : H1[z.1]? = H[z.1]? := by
  have hl : z.1 < H0.size := Nat.lt_of_not_le (fun q => h.2.2.2.2.2 (h.2.2.2.1 _ q))
  rw [hS.2.1 _ hl h.2.2.2.2.2, h.2.2.1.2.1 _ hl h.2.2.2.2.2]
theorem jI.ob {D : jD} {z : Nat × Nat} {A : Nat → Prop} {H0 H : Heap} {μ : jM} {locs : List Loc} (h : jI D z A H0 μ H locs) {a : Nat} {o : Nat × List Value} (hm : μ a = some (.inr o)) : a ≠ z.1 := by
  intro q
  rw [q, h.2.2.2.2.1] at hm
  cases hm
theorem jI.ar {D : jD} {z : Nat × Nat} {A : Nat → Prop} {H0 H : Heap} {μ : jM} {locs : List Loc} (h : jI D z A H0 μ H locs) {a t : Nat} {o : vp_A} (hm : μ a = some (.inl (t, o))) (hn : t ≠ 3 ∨ 0 < o.1) : a ≠ z.1 := by
  intro q
  rw [q, h.2.2.2.2.1] at hm
  cases hm
  rcases hn with hn | hn
  · exact hn rfl
  · exact Nat.lt_irrefl _ hn
/-! ## reading and writing as functions -/
def jg (μ : jM) (r : Option Nat) (ci k : Nat) : Option (Value) := match r with
  | none => none
  | some a => match μ a with
    | some (.inr (c, fs)) => if c = ci then fs[k]? else none
    | _ => none
def jp (μ : jM) (r : Option Nat) (ci k : Nat) (v : Value) : Option (jM) := match r with
  | none => none
  | some a => match μ a with
    | some (.inr (c, fs)) => if c = ci ∧ k < fs.length then some (va_up μ a (some (.inr (c, fs.set k v)))) else none
    | _ => none
def jal (μ : jM) (r : Option Nat) : Option (Nat) := match r with
  | none => none
  | some a => match μ a with
    | some (.inl (t, n, _)) => if t < 4 then some (n) else none
    | _ => none
def jai (t : Nat) (μ : jM) (r : Option Nat) (i : Int32) : Option (Int32) := match r with
  | none => none
  | some a => match μ a with
    | some (.inl (t1, n, .inl f)) => if t1 = t ∧ ¬ (i < 0 ∨ n ≤ i.toNatClampNeg) then some (f i.toNatClampNeg) else none
    | _ => none
def jaj (μ : jM) (r : Option Nat) (i : Int32) : Option (Int64) := match r with
  | none => none
  | some a => match μ a with
    | some (.inl (t1, n, .inr (.inl f))) => if t1 = 1 ∧ ¬ (i < 0 ∨ n ≤ i.toNatClampNeg) then some (f i.toNatClampNeg) else none
    | _ => none
def jaq (μ : jM) (r : Option Nat) (i : Int32) : Option (Option Nat) := match r with
  | none => none
  | some a => match μ a with
    | some (.inl (t1, n, .inr (.inr (.inr (.inr f))))) => if t1 = 3 ∧ ¬ (i < 0 ∨ n ≤ i.toNatClampNeg) then some (f i.toNatClampNeg) else none
    | _ => none
def jsi (t : Nat) (μ : jM) (r : Option Nat) (i x : Int32) : Option (jM) := match r with
  | none => none
  | some a => match μ a with
    | some (.inl (t1, n, .inl f)) => if t1 = t ∧ ¬ (i < 0 ∨ n ≤ i.toNatClampNeg) then some (va_up μ a (some (.inl (t, n, .inl (upd f i.toNatClampNeg x))))) else none
    | _ => none
def jsj (μ : jM) (r : Option Nat) (i : Int32) (x : Int64) : Option (jM) := match r with
  | none => none
  | some a => match μ a with
    | some (.inl (t1, n, .inr (.inl f))) => if t1 = 1 ∧ ¬ (i < 0 ∨ n ≤ i.toNatClampNeg) then some (va_up μ a (some (.inl (1, n, .inr (.inl (vp_updL f i.toNatClampNeg x)))))) else none
    | _ => none
def jsq (μ : jM) (r : Option Nat) (i : Int32) (x : Option Nat) : Option (jM) := match r with
  | none => none
  | some a => match μ a with
    | some (.inl (t1, n, .inr (.inr (.inr (.inr f))))) => if t1 = 3 ∧ ¬ (i < 0 ∨ n ≤ i.toNatClampNeg) then some (va_up μ a (some (.inl (3, n, .inr (.inr (.inr (.inr (va_up f i.toNatClampNeg x)))))))) else none
    | _ => none
/-- an object of class ci, or null -/
def jc (μ : jM) (r : Option Nat) (ci : Nat) : Prop := r = none ∨ ∃ (a : Nat) (fs : List Value), r = some a ∧ μ a = some (.inr (ci, fs))
theorem jg_of {μ : jM} {r : Option Nat} {ci k : Nat} {v : Value} (h : jg μ r ci k = some v) : ∃ a fs, r = some a ∧ μ a = some (.inr (ci, fs)) ∧ fs[k]? = some v := by
  unfold jg at h
  split at h
  · cases h
  · rename_i a
    split at h
    · rename_i c fs hm
      split at h
      · rename_i hc
        subst hc
        exact ⟨a, fs, rfl, hm, h⟩
      · cases h
    · cases h
theorem jp_of {μ μ1 : jM} {r : Option Nat} {ci k : Nat} {v : Value} (h : jp μ r ci k v = some μ1) : ∃ a fs, r = some a ∧ μ a = some (.inr (ci, fs)) ∧ k < fs.length ∧ μ1 = va_up μ a (some (.inr (ci, fs.set k v))) := by
  unfold jp at h
  split at h
  · cases h
  · rename_i a
    split at h
    · rename_i c fs hm
      split at h
      · rename_i hc
        obtain ⟨hc, hk⟩ := hc
        subst hc
        exact ⟨a, fs, rfl, hm, hk, (Option.some.inj h).symm⟩
      · cases h
    · cases h
theorem jal_of {μ : jM} {r : Option Nat} {n : Nat} (h : jal μ r = some n) : ∃ a t f, r = some a ∧ μ a = some (.inl (t, n, f)) ∧ t < 4 := by
  unfold jal at h
  split at h
  · cases h
  · rename_i a
    split at h
    · rename_i t n1 f hm
      split at h
      · rename_i h4
        cases h
        exact ⟨a, t, f, rfl, hm, h4⟩
      · cases h
    · cases h
theorem jai_of {t : Nat} {μ : jM} {r : Option Nat} {i v : Int32} (h : jai t μ r i = some v) : ∃ a n f, r = some a ∧ μ a = some (.inl (t, n, .inl f)) ∧ vp_in i n ∧ v = f i.toNatClampNeg := by
  unfold jai at h
  split at h
  · cases h
  · rename_i a
    split at h
    · rename_i t1 n f hm
      split at h
      · rename_i hc
        obtain ⟨hc0, hc⟩ := hc
        subst hc0
        exact ⟨a, n, f, rfl, hm, hc, (Option.some.inj h).symm⟩
      · cases h
    · cases h
theorem jaj_of {μ : jM} {r : Option Nat} {i : Int32} {v : Int64} (h : jaj μ r i = some v) : ∃ a n f, r = some a ∧ μ a = some (.inl (1, n, .inr (.inl f))) ∧ vp_in i n ∧ v = f i.toNatClampNeg := by
  unfold jaj at h
  split at h
  · cases h
  · rename_i a
    split at h
    · rename_i t1 n f hm
      split at h
      · rename_i hc
        obtain ⟨hc0, hc⟩ := hc
        subst hc0
        exact ⟨a, n, f, rfl, hm, hc, (Option.some.inj h).symm⟩
      · cases h
    · cases h
theorem jaq_of {μ : jM} {r : Option Nat} {i : Int32} {v : Option Nat} (h : jaq μ r i = some v) : ∃ a n f, r = some a ∧ μ a = some (.inl (3, n, .inr (.inr (.inr (.inr f))))) ∧ vp_in i n ∧ v = f i.toNatClampNeg := by
  unfold jaq at h
  split at h
  · cases h
  · rename_i a
    split at h
    · rename_i t1 n f hm
      split at h
      · rename_i hc
        obtain ⟨hc0, hc⟩ := hc
        subst hc0
        exact ⟨a, n, f, rfl, hm, hc, (Option.some.inj h).symm⟩
      · cases h
    · cases h
theorem jsi_of {t : Nat} {μ μ1 : jM} {r : Option Nat} {i x : Int32} (h : jsi t μ r i x = some μ1) : ∃ a n f, r = some a ∧ μ a = some (.inl (t, n, .inl f)) ∧ vp_in i n ∧ μ1 = va_up μ a (some (.inl (t, n, .inl (upd f i.toNatClampNeg x)))) := by
  unfold jsi at h
  split at h
  · cases h
  · rename_i a
    split at h
    · rename_i t1 n f hm
      split at h
      · rename_i hc
        obtain ⟨hc0, hc⟩ := hc
        subst hc0
        exact ⟨a, n, f, rfl, hm, hc, (Option.some.inj h).symm⟩
      · cases h
    · cases h
theorem jsj_of {μ μ1 : jM} {r : Option Nat} {i : Int32} {x : Int64} (h : jsj μ r i x = some μ1) : ∃ a n f, r = some a ∧ μ a = some (.inl (1, n, .inr (.inl f))) ∧ vp_in i n ∧ μ1 = va_up μ a (some (.inl (1, n, .inr (.inl (vp_updL f i.toNatClampNeg x))))) := by
  unfold jsj at h
  split at h
  · cases h
  · rename_i a
    split at h
    · rename_i t1 n f hm
      split at h
      · rename_i hc
        obtain ⟨hc0, hc⟩ := hc
        subst hc0
        exact ⟨a, n, f, rfl, hm, hc, (Option.some.inj h).symm⟩
      · cases h
    · cases h
theorem jsq_of {μ μ1 : jM} {r : Option Nat} {i : Int32} {x : Option Nat} (h : jsq μ r i x = some μ1) : ∃ a n f, r = some a ∧ μ a = some (.inl (3, n, .inr (.inr (.inr (.inr f))))) ∧ vp_in i n ∧ μ1 = va_up μ a (some (.inl (3, n, .inr (.inr (.inr (.inr (va_up f i.toNatClampNeg x))))))) := by
  unfold jsq at h
  split at h
  · cases h
  · rename_i a
    split at h
    · rename_i t1 n f hm
      split at h
      · rename_i hc
        obtain ⟨hc0, hc⟩ := hc
        subst hc0
        exact ⟨a, n, f, rfl, hm, hc, (Option.some.inj h).symm⟩
      · cases h
    · cases h
