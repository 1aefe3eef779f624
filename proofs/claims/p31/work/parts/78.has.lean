/-! ===== a list of the memory, as the elements it has ===== -/
def lar (ad : Nat × Nat → Nat) (e : Nat) (l : List Nat) : Nat → Option Nat := fun i => (l[i]?).map (fun x => ad (e, x))
def hasL (z : Nat × Nat) (C : Nat × Nat → Option jE) (ad : Nat × Nat → Nat) (q j : Nat) (m : Int32) (l : List Nat) (e : Nat) : Prop :=
  C (q, j) = some (.inr (2, [.int m, .ref (if l.length = 0 then z.1 else ad (q + 1, j)), .int (nI l.length)])) ∧ (l.length ≠ 0 → C (q + 1, j) = some (.inl (3, ccap l.length, .inr (.inr (.inr (.inr (lar ad e l))))))) ∧ (l.length = 0 → C (q + 1, j) = none)
section HL
variable {z : Nat × Nat} {C C' : Nat × Nat → Option jE} {ad ad' : Nat × Nat → Nat} {nm nm' : Nat → Nat × Nat} {μ0 μ0' : jM} {q j e : Nat} {m : Int32} {l : List Nat}
theorem has_eq (h : hasL z C ad q j m l e) (h' : hasL z C' ad q j m l e) : C (q, j) = C' (q, j) ∧ C (q + 1, j) = C' (q + 1, j) := by
  refine ⟨h.1.trans h'.1.symm, ?_⟩
  by_cases g : l.length = 0
  · rw [h.2.2 g, h'.2.2 g]
  · rw [h.2.1 g, h'.2.1 g]
theorem has_tr (h : hasL z C ad q j m l e) (h1 : C' (q, j) = C (q, j)) (h2 : C' (q + 1, j) = C (q + 1, j)) (a1 : ad' (q + 1, j) = ad (q + 1, j)) (a2 : ∀ x, x ∈ l → ad' (e, x) = ad (e, x)) : hasL z C' ad' q j m l e := by
  have el : lar ad' e l = lar ad e l := by
    funext i
    unfold lar
    cases hx : l[i]? with
    | none => rfl
    | some x =>
      show some (ad' (e, x)) = some (ad (e, x))
      rw [a2 x (List.mem_of_getElem? hx)]
  unfold hasL
  rw [h1, h2, a1, el]
  exact h
theorem z_gM (h : gOk C ad nm) (hzn : nm z.1 = (100, 0)) (hz0 : μ0 z.1 = some jZ0) : gM C nm μ0 z.1 = some jZ0 := by
  unfold gM
  rw [hzn, h.2.2]
  exact hz0
theorem z_nxt (hx : nxt nm μ0 nm' μ0') (hzn : nm z.1 = (100, 0)) (hz0 : μ0 z.1 = some jZ0) : nm' z.1 = (100, 0) ∧ μ0' z.1 = some jZ0 := by
  obtain ⟨h1, h2⟩ := hx z.1 hzn (by rw [hz0]; exact fun v => by cases v)
  exact ⟨h1, h2.trans hz0⟩
/-- appended -/
theorem g_app (h : gOk C ad nm) (hzn : nm z.1 = (100, 0)) (hz0 : μ0 z.1 = some jZ0) (hL : hasL z C ad q j m l e) (hn : l.length ≤ 20) (hq : q ≤ 20) (heq : e ≠ q ∧ e ≠ q + 1) (hO : ∀ x, x ∈ l → ∃ ci fs, C (e, x) = some (.inr (ci, fs))) {v b el : Nat} (hb : ad (q, j) = b) (hel : ad (e, v) = el) (hv : ∃ ci fs, C (e, v) = some (.inr (ci, fs))) {Q : Int32 → jM → Prop}
    (w : ∀ C' ad' nm' μ0', gOk C' ad' nm' → nxt nm μ0 nm' μ0' → (∀ x, x ≠ (q + 1, j) → ad' x = ad x) → hasL z C' ad' q j (m + 1) (l ++ [v]) e → (∀ x, x ≠ (q, j) → x ≠ (q + 1, j) → C' x = C x) → Q 1 (gM C' nm' μ0')) : wJx4a65c_add_9ea2d z b (some el) (gM C nm μ0) Q := by
  have ne : ∀ x : Nat, ((e, x) : Nat × Nat) ≠ (q, j) ∧ ((e, x) : Nat × Nat) ≠ (q + 1, j) := fun x => ⟨fun g => heq.1 (Prod.mk.inj g).1, fun g => heq.2 (Prod.mk.inj g).1⟩
  rw [← hb]
  refine g_add h (z_gM h hzn hz0) hzn hn hq hL.1 (f := lar ad e l) hL.2.1 hL.2.2 (fun i hi => ?_) (fun i u hu => ?_) ?_ (fun ad' nm' μ0' g1 g2 g3 => ?_)
  · unfold lar
    rw [List.getElem?_eq_none hi]
    rfl
  · unfold lar at hu
    cases hx : l[i]? with
    | none => rw [hx] at hu; cases hu
    | some x =>
      rw [hx] at hu
      obtain ⟨ci, fs, o⟩ := hO x (List.mem_of_getElem? hx)
      exact ⟨(e, x), ci, fs, (Option.some.inj hu).symm, o, (ne x).1, (ne x).2⟩
  · obtain ⟨ci, fs, o⟩ := hv
    exact ⟨(e, v), ci, fs, hel.symm, o, (ne v).1, (ne v).2⟩
  · refine w _ ad' nm' μ0' g1 g2 g3 ?_ (fun x h1 h2 => lC_x h1 h2)
    have len : (l ++ [v]).length = l.length + 1 := by rw [List.length_append]; rfl
    have ear : va_up (lar ad e l) l.length (some el) = lar ad' e (l ++ [v]) := by
      funext i
      show (if i = l.length then some el else lar ad e l i) = ((l ++ [v])[i]?).map (fun x => ad' (e, x))
      by_cases h1 : i = l.length
      · rw [if_pos h1, h1, List.getElem?_append_right (Nat.le_refl _), Nat.sub_self]
        show some el = some (ad' (e, v))
        rw [g3 _ (ne v).2, hel]
      · rw [if_neg h1]
        by_cases h2 : i < l.length
        · rw [List.getElem?_append_left h2]
          unfold lar
          rw [List.getElem?_eq_getElem h2]
          show some (ad (e, _)) = some (ad' (e, _))
          rw [g3 _ (ne _).2]
        · rw [List.getElem?_eq_none (by rw [len]; omega)]
          unfold lar
          rw [List.getElem?_eq_none (by omega)]
          rfl
    unfold hasL
    rw [len, lC_o, lC_a, if_neg (by omega), ear]
    exact ⟨rfl, fun _ => rfl, fun g => by omega⟩
end HL
section LH
variable {z : Nat × Nat} {ad : Nat × Nat → Nat} {A L F : Nat} {I : Nat → Nat → Int32} {K : Nat → Nat → Int64} {k : Nat → Nat → Int32} {y : Nat → Int64} {q j : Nat}
theorem ls_has (hl : clv A I q j) : hasL z (cC z ad A L F I y K k) ad q j (k (10 + q) j) (clist A L F I q j) (cel q j) :=
  ⟨ls_o hl, fun h => ls_a hl h, fun h => ls_0 hl h⟩
theorem ls_ob (hl : clv A I q j) {x : Nat} (hm : x ∈ clist A L F I q j) : ∃ ci fs, cC z ad A L F I y K k (cel q j, x) = some (.inr (ci, fs)) := by
  rcases hl with ⟨rfl, g⟩ | ⟨rfl, g⟩ | ⟨rfl, g⟩ | ⟨rfl, g⟩
  · have h5 : j = 0 ∨ j = 1 ∨ j = 2 ∨ j = 3 ∨ j = 4 := by omega
    rcases h5 with rfl | rfl | rfl | rfl | rfl
    · exact ⟨_, _, cC7 (List.mem_range.mp hm)⟩
    · exact ⟨_, _, cC7 (mem_ctops.mp hm).1⟩
    · exact ⟨_, _, cC20 (List.mem_range.mp hm)⟩
    · exact ⟨_, _, cC21 (List.mem_range.mp hm)⟩
    · exact ⟨_, _, cC6 (List.mem_range.mp hm)⟩
  · exact ⟨_, _, cC7 (mem_kidsF.mp hm).1⟩
  · exact ⟨_, _, cC7 (mem_cmem.mp hm).1⟩
  · exact ⟨_, _, cC20 (mem_crk.mp hm).1⟩
end LH
/-! a list begun; a cell made, with what is kept of the rest -/
section NW
variable {z : Nat × Nat} {C : Nat × Nat → Option jE} {ad : Nat × Nat → Nat} {nm : Nat → Nat × Nat} {μ0 : jM} {x : Nat × Nat} {q : Nat}
/-- an ArrayList made new -/
theorem g_list (h : gOk C ad nm) (hq : gM C nm μ0 q = none) (hx : C x = none) (h100 : x ≠ (100, 0)) {Q : Unit → jM → Prop} (w : gOk (upC C x (.inr (2, [.int 0, .ref z.1, .int 0]))) (upA ad x q) (upN nm q x) → nxt nm μ0 (upN nm q x) μ0 → Q () (gM (upC C x (.inr (2, [.int 0, .ref z.1, .int 0]))) (upN nm q x) μ0)) : wJx4a65c_init_da8c8 z q (va_up (gM C nm μ0) q (some (.inr (2, jfJx4a65c)))) Q := by
  obtain ⟨g1, g2, g3⟩ := g_new (e := (.inr (2, jfJx4a65c) : jE)) h hq hx h100
  have hq2 : upA ad x q x = q := upA_at
  obtain ⟨p0, g2⟩ := g_fld (v := .int 0) (μ0 := μ0) g2 hq2 (show 0 < 3 by decide)
  obtain ⟨p1, g2⟩ := g_fld (v := va_rf (some z.1)) (μ0 := μ0) g2 hq2 (show 1 < 3 by decide)
  unfold wJx4a65c_init_da8c8 wJx4a65c_init_da8c8_0 wJxc12de_init_da8c8 wJxc12de_init_da8c8_0 wJxa1e45_init_da8c8 wJxa1e45_init_da8c8_0
  rw [g1]
  exact ⟨_, p0, _, p1, w g2 g3⟩
end NW
