/-! ===== lists in memory that grow ===== -/
/-- the memory with a list and its array -/
def lC (C : Nat × Nat → Option jE) (q j : Nat) (m : Int32) (a n cap : Nat) (f : Nat → Option Nat) : Nat × Nat → Option jE := fun x => if x = (q, j) then some (.inr (2, [.int m, .ref a, .int (nI n)])) else if x = (q + 1, j) then some (.inl (3, cap, .inr (.inr (.inr (.inr f))))) else C x
section LG
variable {z : Nat × Nat} {C : Nat × Nat → Option jE} {ad : Nat × Nat → Nat} {nm : Nat → Nat × Nat} {μ0 : jM} {q j n cap a : Nat} {m : Int32} {f : Nat → Option Nat}
theorem lC_ne : ((q + 1, j) : Nat × Nat) ≠ (q, j) := fun e => by have := (Prod.mk.inj e).1; omega
theorem lC_o : lC C q j m a n cap f (q, j) = some (.inr (2, [.int m, .ref a, .int (nI n)])) := if_pos rfl
theorem lC_a : lC C q j m a n cap f (q + 1, j) = some (.inl (3, cap, .inr (.inr (.inr (.inr f))))) := by
  unfold lC
  rw [if_neg lC_ne, if_pos rfl]
theorem lC_x {x : Nat × Nat} (h1 : x ≠ (q, j)) (h2 : x ≠ (q + 1, j)) : lC C q j m a n cap f x = C x := by
  unfold lC
  rw [if_neg h1, if_neg h2]
theorem lC_uo {m' : Int32} {a' n' : Nat} : upC (lC C q j m a n cap f) (q, j) (.inr (2, [.int m', .ref a', .int (nI n')])) = lC C q j m' a' n' cap f := by
  funext x
  unfold upC lC
  by_cases h : x = (q, j) <;> simp [h]
theorem lC_ua {cap' : Nat} {f' : Nat → Option Nat} : upC (lC C q j m a n cap f) (q + 1, j) (.inl (3, cap', .inr (.inr (.inr (.inr f'))))) = lC C q j m a n cap' f' := by
  funext x
  unfold upC lC
  by_cases h : x = (q, j)
  · subst h
    rw [if_neg (Ne.symm lC_ne), if_pos rfl, if_pos rfl]
  · by_cases h2 : x = (q + 1, j)
    · subst h2
      rw [if_pos rfl, if_neg h, if_pos rfl]
    · simp only [if_neg h, if_neg h2]
theorem lC_id (ho : C (q, j) = some (.inr (2, [.int m, .ref a, .int (nI n)]))) (ha : C (q + 1, j) = some (.inl (3, cap, .inr (.inr (.inr (.inr f)))))) : lC C q j m a n cap f = C := by
  funext x
  unfold lC
  by_cases h : x = (q, j)
  · rw [if_pos h, h, ho]
  · by_cases h2 : x = (q + 1, j)
    · rw [if_neg h, if_pos h2, h2, ha]
    · rw [if_neg h, if_neg h2]
theorem lC_mk (ho : C (q, j) = some (.inr (2, [.int m, .ref a, .int (nI n)]))) {a' : Nat} : upC (upC C (q + 1, j) (.inl (3, cap, .inr (.inr (.inr (.inr f)))))) (q, j) (.inr (2, [.int m, .ref a', .int (nI n)])) = lC C q j m a' n cap f := by
  funext x
  unfold upC lC
  rfl
/-- what an element is -/
def isO (C : Nat × Nat → Option jE) (ad : Nat × Nat → Nat) (q j : Nat) (w : Nat) : Prop := ∃ x ci fs, w = ad x ∧ C x = some (.inr (ci, fs)) ∧ x ≠ (q, j) ∧ x ≠ (q + 1, j)
theorem isO_mem (h : gOk C ad nm) {w : Nat} (hw : isO C ad q j w) : ∃ ci fs, gM C nm μ0 w = some (.inr (ci, fs)) := by
  obtain ⟨x, ci, fs, e, hx, -⟩ := hw
  rw [e]
  exact ⟨ci, fs, g_at h hx⟩
theorem isO_l {ad' : Nat × Nat → Nat} (he : ∀ x, x ≠ (q + 1, j) → ad' x = ad x) {w : Nat} (hw : isO C ad q j w) : isO (lC C q j m a n cap f) ad' q j w := by
  obtain ⟨x, ci, fs, e, hx, h1, h2⟩ := hw
  exact ⟨x, ci, fs, by rw [he x h2]; exact e, by rw [lC_x h1 h2]; exact hx, h1, h2⟩
theorem g_store (h : gOk (lC C q j m (ad (q + 1, j)) n cap f) ad nm) (hn : n < cap) (hc : cap ≤ 32) {w : Nat} (hw : isO (lC C q j m (ad (q + 1, j)) n cap f) ad q j w) {Q : Unit → jM → Prop} (qq : Q () (gM (lC C q j m (ad (q + 1, j)) (n + 1) cap (va_up f n (some w))) nm μ0)) : wJx4a65c_add_72be8_11 z (ad (q, j)) Q (some w) (some (ad (q + 1, j))) (nI n) (gM (lC C q j m (ad (q + 1, j)) n cap f) nm μ0) := by
  obtain ⟨ci, fs, ew⟩ := isO_mem (μ0 := μ0) h hw
  refine ⟨⟨w, ci, fs, rfl, ew⟩, _, jsq_at (g_at h lC_a) hn (by omega) rfl, ?_⟩
  rw [g_put h lC_a, lC_ua]
  have h2 : gOk (lC C q j m (ad (q + 1, j)) n cap (va_up f n (some w))) ad nm := by
    rw [← lC_ua]
    exact g_putOk h lC_a
  refine ⟨_, g_jp h2 lC_o (show 2 < 3 by decide), ?_⟩
  rw [nI_1]
  show Q () (gM (upC _ (q, j) (.inr (2, [.int m, .ref (ad (q + 1, j)), .int (nI (n + 1))]))) nm μ0)
  rw [lC_uo]
  exact qq
theorem cpy_id (hf : ∀ i, n ≤ i → f i = none) : va_cpy f (fun _ => none) 0 0 n = f := by
  funext i
  unfold va_cpy
  by_cases h : i < n
  · rw [if_pos (by omega)]
    congr 1
    omega
  · rw [if_neg (by omega), hf i (by omega)]
theorem g_grow (h : gOk C ad nm) (hz : gM C nm μ0 z.1 = some jZ0) (hn : n = 0 ∨ n = 10 ∨ n = 15) (hq : q ≤ 20) (ho : C (q, j) = some (.inr (2, [.int m, .ref (if n = 0 then z.1 else ad (q + 1, j)), .int (nI n)]))) (ha : n ≠ 0 → C (q + 1, j) = some (.inl (3, ccap n, .inr (.inr (.inr (.inr f)))))) (ha0 : n = 0 → C (q + 1, j) = none) (hf : ∀ i, n ≤ i → f i = none) (hO : ∀ i w, f i = some w → isO C ad q j w) {Q : Option Nat → jM → Prop}
    (w : ∀ ad' nm' μ0', gOk (lC C q j m (ad' (q + 1, j)) n (ccap (n + 1)) f) ad' nm' → nxt nm μ0 nm' μ0' → (∀ x, x ≠ (q + 1, j) → ad' x = ad x) → Q (some (ad' (q + 1, j))) (gM (lC C q j m (ad' (q + 1, j)) n (ccap (n + 1)) f) nm' μ0')) : wJx4a65c_grow_d5877 z (ad (q, j)) (gM C nm μ0) Q := by
  have n100 : ((q + 1, j) : Nat × Nat) ≠ (100, 0) := fun e => by have := (Prod.mk.inj e).1; omega
  unfold wJx4a65c_grow_d5877 wJx4a65c_grow_d5877_0
  refine ⟨_, g_jg h ho 2, g_here h ho, ?_⟩
  unfold wJx4a65c_grow_92f84 wJx4a65c_grow_92f84_0
  by_cases n0 : n = 0
  · subst n0
    have e0 : f = fun _ => none := funext (fun i => hf i (Nat.zero_le i))
    rw [if_pos rfl] at ho
    refine ⟨_, g_jg h ho 1, 0, jal_at hz (by decide), ?_⟩
    intro v3 e3
    subst e3
    refine ⟨fun c => absurd c (by decide), fun _ => ⟨_, g_jg h ho 1, fun _ => ⟨10, by decide, by decide, by decide, ?_⟩, fun c => absurd rfl c⟩⟩
    intro q5 hq5
    obtain ⟨g1, g2, g3⟩ := g_new (e := (.inl (3, 10, .inr (.inr (.inr (.inr (fun _ => none))))) : jE)) h hq5 (ha0 rfl) n100
    have ho2 : upC C (q + 1, j) (.inl (3, 10, .inr (.inr (.inr (.inr (fun _ => none)))))) (q, j) = some (.inr (2, [.int m, .ref z.1, .int (nI 0)])) := by rw [upC_no (Ne.symm lC_ne)]; exact ho
    rw [g1]
    have eo : ad (q, j) = upA ad (q + 1, j) q5 (q, j) := (upA_no (Ne.symm lC_ne)).symm
    have w' := w (upA ad (q + 1, j) q5) (upN nm q5 (q + 1, j)) μ0
    rw [upA_at] at w'
    have eC : upC (upC C (q + 1, j) (.inl (3, 10, .inr (.inr (.inr (.inr (fun _ => none))))))) (q, j) (.inr (2, [.int m, .ref q5, .int (nI 0)])) = lC C q j m q5 0 (ccap (0 + 1)) f := by
      rw [e0]
      exact lC_mk ho
    rw [eo]
    refine ⟨_, g_jp g2 ho2 (show 1 < 3 by decide), ?_⟩
    show Q (some q5) (gM (upC (upC C (q + 1, j) (.inl (3, 10, .inr (.inr (.inr (.inr (fun _ => none))))))) (q, j) (.inr (2, [.int m, .ref q5, .int (nI 0)]))) (upN nm q5 (q + 1, j)) μ0)
    rw [eC]
    refine w' ?_ g3 (fun x hx => upA_no hx)
    rw [← eC]
    exact g_putOk g2 ho2
  · rw [if_neg n0] at ho
    have ha := ha n0
    have ec : ccap n = n := by rcases hn with rfl | rfl | rfl <;> first | omega | rfl
    rw [ec] at ha
    have e15 : (n = 10 ∧ ccap (n + 1) = 15) ∨ (n = 15 ∧ ccap (n + 1) = 22) := by
      rcases hn with rfl | rfl | rfl
      · omega
      · exact Or.inl ⟨rfl, rfl⟩
      · exact Or.inr ⟨rfl, rfl⟩
    refine ⟨_, g_jg h ho 1, n, jal_at (g_at h ha) (by decide), ?_⟩
    intro v3 e3
    subst e3
    refine ⟨fun _ => ?_, fun c => absurd (show (0 : Int32) < nI n from nI_lt (a := 0) (by omega) (by omega)) c⟩
    unfold wJx4a65c_grow_92f84_20 wJ8_newLength_cabcc wJ8_newLength_cabcc_0
    intro v1 e1
    have ev : v1 = nI (ccap (n + 1)) := by
      rw [e1]
      rcases e15 with ⟨rfl, e⟩ | ⟨rfl, e⟩ <;> rw [e] <;> decide
    subst ev
    have c32 : ccap (n + 1) ≤ 22 := (ccap_le (by omega)).2
    have cn : n < ccap (n + 1) := by omega
    refine ⟨fun c => absurd c (Int32.not_le.mpr (nI_lt (a := 0) (by omega) (by omega))), fun _ => ⟨fun c => absurd c (Int32.not_lt.mpr (nI_le (b := 2147483639) (by omega) (by decide))), fun _ => ⟨some (ad (q + 1, j)), g_jg h ho 1, ?_⟩⟩⟩
    unfold wJ7_copyOf_1904c wJ7_copyOf_1904c_0 wJ7_copyOf_6403c wJ7_copyOf_6403c_0
    refine ⟨⟨_, _, _, rfl, g_at h ha⟩, fun c => absurd rfl c, fun _ => ⟨ccap (n + 1), nI_clamp (by omega), nI_pos (by omega), by omega, ?_⟩⟩
    intro q1 hq1
    unfold wJ7_copyOf_6403c_24
    have ne1 := g_ne h ha hq1
    refine ⟨n, jal_at (show va_up (gM C nm μ0) q1 _ (ad (q + 1, j)) = _ from (va_up_no ne1).trans (g_at h ha)) (by decide), ?_⟩
    have emin : (if nI (ccap (n + 1)) < Int32.ofNat n then nI (ccap (n + 1)) else Int32.ofNat n) = nI n := if_neg (nI_nlt (by omega) (by omega))
    rw [emin]
    refine ⟨_, ⟨ad (q + 1, j), q1, n, ccap (n + 1), f, fun _ => none, rfl, rfl, (va_up_no ne1).trans (g_at h ha), va_up_at, by omega, by omega, by decide, by decide, nI_pos (by omega), by rw [nI_clamp (by omega)]; show 0 + n ≤ n; omega, by rw [nI_clamp (by omega)]; show 0 + n ≤ _; omega, ?_, rfl⟩, ?_⟩
    · intro i hi w hw
      have o := hO _ _ hw
      obtain ⟨x, ci, fs, e, hx, -⟩ := o
      refine ⟨ci, fs, ?_⟩
      rw [e]
      exact (va_up_no (g_ne h hx hq1)).trans (g_at h hx)
    · rw [va_up2, nI_clamp (show n < 2 ^ 31 by omega)]
      rw [show va_cpy f (fun _ => none) (0 : Int32).toNatClampNeg (0 : Int32).toNatClampNeg n = f from cpy_id hf]
      obtain ⟨g1, g2, g3⟩ := g_move (e := (.inl (3, ccap (n + 1), .inr (.inr (.inr (.inr f)))) : jE)) h hq1 ha
      have ho2 : upC C (q + 1, j) (.inl (3, ccap (n + 1), .inr (.inr (.inr (.inr f))))) (q, j) = some (.inr (2, [.int m, .ref (ad (q + 1, j)), .int (nI n)])) := by rw [upC_no (Ne.symm lC_ne)]; exact ho
      rw [g1]
      have eo : ad (q, j) = upA ad (q + 1, j) q1 (q, j) := (upA_no (Ne.symm lC_ne)).symm
      have w' := w (upA ad (q + 1, j) q1) _ _ (by
        rw [upA_at, ← lC_mk (a' := q1) ho]
        exact g_putOk g2 ho2) g3 (fun x hx => upA_no hx)
      rw [upA_at, ← lC_mk (a' := q1) ho] at w'
      rw [eo]
      exact ⟨_, g_jp g2 ho2 (show 1 < 3 by decide), w'⟩
/-- an element more at the end -/
theorem g_add (h : gOk C ad nm) (hz : gM C nm μ0 z.1 = some jZ0) (hzn : nm z.1 = (100, 0)) (hn : n ≤ 20) (hq : q ≤ 20) (ho : C (q, j) = some (.inr (2, [.int m, .ref (if n = 0 then z.1 else ad (q + 1, j)), .int (nI n)]))) (ha : n ≠ 0 → C (q + 1, j) = some (.inl (3, ccap n, .inr (.inr (.inr (.inr f)))))) (ha0 : n = 0 → C (q + 1, j) = none) (hf : ∀ i, n ≤ i → f i = none) (hO : ∀ i w, f i = some w → isO C ad q j w) {el : Nat} (hel : isO C ad q j el) {Q : Int32 → jM → Prop}
    (w : ∀ ad' nm' μ0', gOk (lC C q j (m + 1) (ad' (q + 1, j)) (n + 1) (ccap (n + 1)) (va_up f n (some el))) ad' nm' → nxt nm μ0 nm' μ0' → (∀ x, x ≠ (q + 1, j) → ad' x = ad x) → Q 1 (gM (lC C q j (m + 1) (ad' (q + 1, j)) (n + 1) (ccap (n + 1)) (va_up f n (some el))) nm' μ0')) : wJx4a65c_add_9ea2d z (ad (q, j)) (some el) (gM C nm μ0) Q := by
  have h1 := g_putOk (e := (.inr (2, [.int (m + 1), .ref (if n = 0 then z.1 else ad (q + 1, j)), .int (nI n)]) : jE)) h ho
  have ho1 : upC C (q, j) (.inr (2, [.int (m + 1), .ref (if n = 0 then z.1 else ad (q + 1, j)), .int (nI n)])) (q, j) = some (.inr (2, [.int (m + 1), .ref (if n = 0 then z.1 else ad (q + 1, j)), .int (nI n)])) := upC_at
  have ha1 : n ≠ 0 → upC C (q, j) (.inr (2, [.int (m + 1), .ref (if n = 0 then z.1 else ad (q + 1, j)), .int (nI n)])) (q + 1, j) = some (.inl (3, ccap n, .inr (.inr (.inr (.inr f))))) := fun e => by rw [upC_no lC_ne]; exact ha e
  have ha01 : n = 0 → upC C (q, j) (.inr (2, [.int (m + 1), .ref (if n = 0 then z.1 else ad (q + 1, j)), .int (nI n)])) (q + 1, j) = none := fun e => by rw [upC_no lC_ne]; exact ha0 e
  have lift : ∀ v, isO C ad q j v → isO (upC C (q, j) (.inr (2, [.int (m + 1), .ref (if n = 0 then z.1 else ad (q + 1, j)), .int (nI n)]))) ad q j v := by
    rintro v ⟨x, ci, fs, e, hx, x1, x2⟩
    exact ⟨x, ci, fs, e, by rw [upC_no x1]; exact hx, x1, x2⟩
  have hz1 : gM (upC C (q, j) (.inr (2, [.int (m + 1), .ref (if n = 0 then z.1 else ad (q + 1, j)), .int (nI n)]))) nm μ0 z.1 = some jZ0 := by
    unfold gM at hz ⊢
    rw [hzn, h1.2.2]
    rw [hzn, h.2.2] at hz
    exact hz
  have eL : ∀ a' c' f' m' n', lC (upC C (q, j) (.inr (2, [.int (m + 1), .ref (if n = 0 then z.1 else ad (q + 1, j)), .int (nI n)]))) q j m' a' n' c' f' = lC C q j m' a' n' c' f' := by
    intro a' c' f' m' n'
    funext x
    unfold lC
    by_cases e : x = (q, j)
    · rw [if_pos e, if_pos e]
    · rw [if_neg e, if_neg e, upC_no e]
  unfold wJx4a65c_add_9ea2d wJx4a65c_add_9ea2d_0
  have gp : jp (gM C nm μ0) (some (ad (q, j))) 2 0 (.int (m + 1)) = some (gM (upC C (q, j) (.inr (2, [.int (m + 1), .ref (if n = 0 then z.1 else ad (q + 1, j)), .int (nI n)]))) nm μ0) := g_jp h ho (show 0 < 3 by decide)
  refine ⟨m, g_jg h ho 0, _, gp, ?_⟩
  clear gp
  generalize hC1 : upC C (q, j) (.inr (2, [.int (m + 1), .ref (if n = 0 then z.1 else ad (q + 1, j)), .int (nI n)])) = C1 at h1 ho1 ha1 ha01 lift hz1 eL
  refine ⟨some (if n = 0 then z.1 else ad (q + 1, j)), g_jg h1 ho1 1, nI n, g_jg h1 ho1 2, g_here h1 ho1, ?_⟩
  have hO1 : ∀ i v, f i = some v → isO C1 ad q j v := fun i v e => lift v (hO i v e)
  have fin : ∀ ad' nm' μ0', gOk (lC C q j (m + 1) (ad' (q + 1, j)) n (ccap (n + 1)) f) ad' nm' → nxt nm μ0 nm' μ0' → (∀ x, x ≠ (q + 1, j) → ad' x = ad x) → wJx4a65c_add_72be8_11 z (ad (q, j)) (fun _ μ6 => Q 1 μ6) (some el) (some (ad' (q + 1, j))) (nI n) (gM (lC C q j (m + 1) (ad' (q + 1, j)) n (ccap (n + 1)) f) nm' μ0') := by
    intro ad' nm' μ0' g1 g2 g3
    have cn := ccap_le (n := n + 1) (by omega)
    rw [← g3 (q, j) (Ne.symm lC_ne)]
    refine g_store g1 (by omega) (by omega) (isO_l g3 hel) (w ad' nm' μ0' ?_ g2 g3)
    have a1 := g_putOk (e := (.inl (3, ccap (n + 1), .inr (.inr (.inr (.inr (va_up f n (some el)))))) : jE)) g1 lC_a
    rw [lC_ua] at a1
    have a2 := g_putOk (e := (.inr (2, [.int (m + 1), .ref (ad' (q + 1, j)), .int (nI (n + 1))]) : jE)) a1 lC_o
    rw [lC_uo] at a2
    exact a2
  unfold wJx4a65c_add_72be8 wJx4a65c_add_72be8_0
  by_cases full : n = 0 ∨ n = 10 ∨ n = 15
  · have el1 : ∃ c, jal (gM C1 nm μ0) (some (if n = 0 then z.1 else ad (q + 1, j))) = some c ∧ nI n = Int32.ofNat c := by
      by_cases n0 : n = 0
      · subst n0
        exact ⟨0, by rw [if_pos rfl]; exact jal_at hz1 (by decide), rfl⟩
      · rw [if_neg n0]
        refine ⟨ccap n, jal_at (g_at h1 (ha1 n0)) (by decide), ?_⟩
        rcases full with rfl | rfl | rfl
        · omega
        · rfl
        · rfl
    obtain ⟨c, c1, c2⟩ := el1
    refine ⟨c, c1, fun e => absurd c2 e, fun _ => ⟨g_here h1 ho1, ?_⟩⟩
    refine g_grow h1 hz1 full hq ho1 ha1 ha01 hf hO1 (fun ad' nm' μ0' g1 g2 g3 => ?_)
    rw [eL] at g1 ⊢
    exact fin ad' nm' μ0' g1 g2 g3
  · have n0 : n ≠ 0 := fun e => full (Or.inl e)
    have cc : ccap (n + 1) = ccap n ∧ n < ccap n := by
      unfold ccap
      by_cases a1 : n + 1 ≤ 10
      · rw [if_pos a1, if_pos (show n ≤ 10 by omega)]; omega
      · by_cases a2 : n + 1 ≤ 15
        · rw [if_neg a1, if_neg (show ¬ n ≤ 10 by omega), if_pos a2, if_pos (show n ≤ 15 by omega)]; omega
        · rw [if_neg a1, if_neg (show ¬ n ≤ 10 by omega), if_neg a2, if_neg (show ¬ n ≤ 15 by omega)]; omega
    have cn := ccap_le (n := n) (by omega)
    rw [if_neg n0] at ho1 ⊢
    refine ⟨ccap n, jal_at (g_at h1 (ha1 n0)) (by decide), fun _ => ?_, fun e => absurd ((nI_eq (by omega) (by omega)).mp e) (by omega)⟩
    have e1 : C1 = lC C q j (m + 1) (ad (q + 1, j)) n (ccap (n + 1)) f := by
      rw [← eL, cc.1]
      exact (lC_id ho1 (ha1 n0)).symm
    rw [e1]
    rw [e1] at h1
    exact fin ad nm μ0 h1 nxt_refl (fun _ _ => rfl)
end LG
