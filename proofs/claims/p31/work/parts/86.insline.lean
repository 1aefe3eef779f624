/-! ===== a line put among the ranked ones ===== -/
section GI
variable {z : Nat × Nat} {C : Nat × Nat → Option jE} {ad : Nat × Nat → Nat} {nm : Nat → Nat × Nat} {μ0 : jM} {q j e n cap p : Nat} {m : Int32} {l : List Nat} {f : Nat → Option Nat}
theorem cpl_lt {I : Nat → Nat → Int32} {v : Nat} : ∀ (l : List Nat) (i x : Nat), l[i]? = some x → i < cpl I v l → I 13 x ≤ I 13 v
  | [], i, x, h, _ => by cases h
  | y :: l, i, x, h, g => by
    unfold cpl at g
    by_cases c : I 13 y ≤ I 13 v
    · rw [if_pos c] at g
      cases i with
      | zero =>
        have : y = x := Option.some.inj h
        rw [← this]; exact c
      | succ i => exact cpl_lt l i x h (by omega)
    · rw [if_neg c] at g; omega
theorem cpl_at {I : Nat → Nat → Int32} {v : Nat} : ∀ (l : List Nat) (x : Nat), l[cpl I v l]? = some x → ¬ I 13 x ≤ I 13 v
  | [], x, h => by cases h
  | y :: l, x, h => by
    unfold cpl at h
    by_cases c : I 13 y ≤ I 13 v
    · rw [if_pos c] at h
      exact cpl_at l x h
    · rw [if_neg c] at h
      have : y = x := Option.some.inj h
      rw [← this]; exact c
theorem isO_c {cap' n' a a' : Nat} {m' : Int32} {f' : Nat → Option Nat} {w : Nat} (hw : isO (lC C q j m a n cap f) ad q j w) : isO (lC C q j m' a' n' cap' f') ad q j w := by
  obtain ⟨x, ci, fs, e, hx, h1, h2⟩ := hw
  rw [lC_x h1 h2] at hx
  exact ⟨x, ci, fs, e, by rw [lC_x h1 h2]; exact hx, h1, h2⟩
theorem g_ins38 (h : gOk (lC C q j m (ad (q + 1, j)) n cap f) ad nm) (hn : n < cap) (hc : cap ≤ 32) (hp : p ≤ n) (hO : ∀ i v, f i = some v → isO (lC C q j m (ad (q + 1, j)) n cap f) ad q j v) {w : Nat} (hw : isO (lC C q j m (ad (q + 1, j)) n cap f) ad q j w) {Q : Unit → jM → Prop} (qq : gOk (lC C q j m (ad (q + 1, j)) (n + 1) cap (va_up (va_cpy f f p (p + 1) (n - p)) p (some w))) ad nm → Q () (gM (lC C q j m (ad (q + 1, j)) (n + 1) cap (va_up (va_cpy f f p (p + 1) (n - p)) p (some w))) nm μ0)) : wJx4a65c_add_7a177_38 z (ad (q, j)) Q (nI p) (some w) (nI n) (some (ad (q + 1, j))) (gM (lC C q j m (ad (q + 1, j)) n cap f) nm μ0) := by
  have c1 : (nI p).toNatClampNeg = p := nI_clamp (by omega)
  have c2 : (nI p + 1).toNatClampNeg = p + 1 := by rw [nI_1]; exact nI_clamp (by omega)
  have c3 : (nI n - nI p).toNatClampNeg = n - p := by rw [nI_sub2 hp]; exact nI_clamp (by omega)
  have h2 : gOk (lC C q j m (ad (q + 1, j)) n cap (va_cpy f f p (p + 1) (n - p))) ad nm := by
    rw [← lC_ua]
    exact g_putOk h lC_a
  unfold wJx4a65c_add_7a177_38
  refine ⟨_, ⟨ad (q + 1, j), ad (q + 1, j), cap, cap, f, f, rfl, rfl, g_at h lC_a, g_at h lC_a, by omega, by omega, nI_pos (by omega), by rw [nI_1]; exact nI_pos (by omega), by rw [nI_sub2 hp]; exact nI_pos (by omega), by rw [c1, c3]; omega, by rw [c2, c3]; omega, fun i _ v hv => isO_mem h (hO _ v hv), rfl⟩, ?_⟩
  rw [c1, c2, c3, g_put h lC_a, lC_ua]
  obtain ⟨ci, fs, ew⟩ := isO_mem (μ0 := μ0) h2 (isO_c hw)
  refine ⟨⟨w, ci, fs, rfl, ew⟩, _, jsq_at (g_at h2 lC_a) (show p < cap by omega) (by omega) rfl, ?_⟩
  rw [g_put h2 lC_a, lC_ua]
  have h3 : gOk (lC C q j m (ad (q + 1, j)) n cap (va_up (va_cpy f f p (p + 1) (n - p)) p (some w))) ad nm := by
    rw [← lC_ua]
    exact g_putOk h2 lC_a
  refine ⟨_, g_jp h3 lC_o (show 2 < 3 by decide), ?_⟩
  rw [nI_1]
  show Q () (gM (upC _ (q, j) (.inr (2, [.int m, .ref (ad (q + 1, j)), .int (nI (n + 1))]))) nm μ0)
  rw [lC_uo]
  refine qq ?_
  rw [← lC_uo]
  exact g_putOk h3 lC_o
theorem lar_ins {el v : Nat} (hp : p ≤ l.length) (hel : ad (e, v) = el) : va_up (va_cpy (lar ad e l) (lar ad e l) p (p + 1) (l.length - p)) p (some el) = lar ad e (l.take p ++ v :: l.drop p) := by
  have tl : (l.take p).length = p := by rw [List.length_take]; omega
  funext i
  unfold va_up va_cpy lar
  by_cases h1 : i = p
  · rw [if_pos h1, h1, List.getElem?_append_right (by omega), tl, Nat.sub_self]
    show some el = some (ad (e, v))
    rw [hel]
  · rw [if_neg h1]
    by_cases h2 : i < p
    · rw [if_neg (by omega), List.getElem?_append_left (by omega), List.getElem?_take_of_lt h2]
    · obtain ⟨t, rfl⟩ : ∃ t, i = p + 1 + t := ⟨i - (p + 1), by omega⟩
      rw [List.getElem?_append_right (by omega), tl, show p + 1 + t - p = t + 1 by omega, List.getElem?_cons_succ, List.getElem?_drop]
      by_cases h3 : p + t < l.length
      · rw [if_pos (by omega), show p + (p + 1 + t - (p + 1)) = p + t by omega]
      · rw [if_neg (by omega), List.getElem?_eq_none (by omega), List.getElem?_eq_none (by omega)]
/-- put in between -/
theorem g_ins (h : gOk C ad nm) (hzn : nm z.1 = (100, 0)) (hz0 : μ0 z.1 = some jZ0) (hL : hasL z C ad q j m l e) (hn : l.length ≤ 9) (hq : q ≤ 20) (heq : e ≠ q ∧ e ≠ q + 1) (hO : ∀ x, x ∈ l → ∃ ci fs, C (e, x) = some (.inr (ci, fs))) {v b el : Nat} (hp : p ≤ l.length) (hb : ad (q, j) = b) (hel : ad (e, v) = el) (hv : ∃ ci fs, C (e, v) = some (.inr (ci, fs))) {Q : Unit → jM → Prop}
    (w : ∀ C' ad' nm' μ0', gOk C' ad' nm' → nxt nm μ0 nm' μ0' → (∀ x, x ≠ (q + 1, j) → ad' x = ad x) → hasL z C' ad' q j (m + 1) (l.take p ++ v :: l.drop p) e → (∀ x, x ≠ (q, j) → x ≠ (q + 1, j) → C' x = C x) → Q () (gM C' nm' μ0')) : wJx4a65c_add_7a177 z b (nI p) (some el) (gM C nm μ0) Q := by
  have ne : ∀ x : Nat, ((e, x) : Nat × Nat) ≠ (q, j) ∧ ((e, x) : Nat × Nat) ≠ (q + 1, j) := fun x => ⟨fun g => heq.1 (Prod.mk.inj g).1, fun g => heq.2 (Prod.mk.inj g).1⟩
  have ho := hL.1
  have ha := hL.2.1
  have ha0 := hL.2.2
  have hf : ∀ i, l.length ≤ i → lar ad e l i = none := fun i hi => by
    unfold lar
    rw [List.getElem?_eq_none hi]
    rfl
  have len : (l.take p ++ v :: l.drop p).length = l.length + 1 := by
    rw [List.length_append, List.length_cons, List.length_take, List.length_drop]; omega
  rw [← hb]
  unfold wJx4a65c_add_7a177 wJx4a65c_add_7a177_0 wJx4a65c_rangeCheckForAdd_d00df wJx4a65c_rangeCheckForAdd_d00df_0
  refine ⟨g_here h ho, _, g_jg h ho 2, fun c => absurd c (nI_nlt hp (by omega)), fun _ => ⟨fun _ => ?_, fun c => absurd (nI_pos' (by omega)) c⟩⟩
  have gp : jp (gM C nm μ0) (some (ad (q, j))) 2 0 (.int (m + 1)) = some (gM (upC C (q, j) (.inr (2, [.int (m + 1), .ref (if l.length = 0 then z.1 else ad (q + 1, j)), .int (nI l.length)]))) nm μ0) := g_jp h ho (show 0 < 3 by decide)
  refine ⟨m, g_jg h ho 0, _, gp, ?_⟩
  clear gp
  have h1 := g_putOk (e := (.inr (2, [.int (m + 1), .ref (if l.length = 0 then z.1 else ad (q + 1, j)), .int (nI l.length)]) : jE)) h ho
  have ho1 : upC C (q, j) (.inr (2, [.int (m + 1), .ref (if l.length = 0 then z.1 else ad (q + 1, j)), .int (nI l.length)])) (q, j) = some (.inr (2, [.int (m + 1), .ref (if l.length = 0 then z.1 else ad (q + 1, j)), .int (nI l.length)])) := upC_at
  have cx : ∀ x, x ≠ (q, j) → upC C (q, j) (.inr (2, [.int (m + 1), .ref (if l.length = 0 then z.1 else ad (q + 1, j)), .int (nI l.length)])) x = C x := fun x hx => upC_no hx
  generalize upC C (q, j) (.inr (2, [.int (m + 1), .ref (if l.length = 0 then z.1 else ad (q + 1, j)), .int (nI l.length)])) = C1 at h1 ho1 cx ⊢
  have ha1 : l.length ≠ 0 → C1 (q + 1, j) = some (.inl (3, ccap l.length, .inr (.inr (.inr (.inr (lar ad e l)))))) := fun g => (cx _ lC_ne).trans (ha g)
  have ha01 : l.length = 0 → C1 (q + 1, j) = none := fun g => (cx _ lC_ne).trans (ha0 g)
  have isl : ∀ u, (∃ ci fs, C (e, u) = some (.inr (ci, fs))) → isO C1 ad q j (ad (e, u)) := fun u hu => by
    obtain ⟨ci, fs, o⟩ := hu
    exact ⟨(e, u), ci, fs, rfl, (cx _ (ne u).1).trans o, (ne u).1, (ne u).2⟩
  have hO1 : ∀ i u, lar ad e l i = some u → isO C1 ad q j u := fun i u hu => by
    unfold lar at hu
    cases hx : l[i]? with
    | none => rw [hx] at hu; cases hu
    | some x =>
      rw [hx] at hu
      have hu : ad (e, x) = u := Option.some.inj hu
      rw [← hu]
      exact isl x (hO x (List.mem_of_getElem? hx))
  refine ⟨nI l.length, g_jg h1 ho1 2, some (if l.length = 0 then z.1 else ad (q + 1, j)), g_jg h1 ho1 1, ?_⟩
  have fin : ∀ ad' nm' μ0', gOk (lC C1 q j (m + 1) (ad' (q + 1, j)) l.length (ccap (l.length + 1)) (lar ad e l)) ad' nm' → nxt nm μ0 nm' μ0' → (∀ x, x ≠ (q + 1, j) → ad' x = ad x) → wJx4a65c_add_7a177_38 z (ad (q, j)) Q (nI p) (some el) (nI l.length) (some (ad' (q + 1, j))) (gM (lC C1 q j (m + 1) (ad' (q + 1, j)) l.length (ccap (l.length + 1)) (lar ad e l)) nm' μ0') := by
    intro ad' nm' μ0' g1 g2 g3
    have cn := ccap_le (n := l.length + 1) (by omega)
    rw [← g3 (q, j) (Ne.symm lC_ne)]
    refine g_ins38 g1 (by omega) (by omega) hp (fun i u hu => isO_l g3 (hO1 i u hu)) (isO_l g3 (by rw [← hel]; exact isl v hv)) (fun g4 => ?_)
    have ell : lar ad e l = lar ad' e l := by
      funext i
      unfold lar
      cases hx : l[i]? with
      | none => rfl
      | some x =>
        show some (ad (e, x)) = some (ad' (e, x))
        rw [g3 _ (ne x).2]
    rw [ell, lar_ins hp ((g3 _ (ne v).2).trans hel)] at g4 ⊢
    refine w _ ad' nm' μ0' g4 g2 g3 ?_ (fun x x1 x2 => (lC_x x1 x2).trans (cx x x1))
    unfold hasL
    rw [len, lC_o, lC_a, if_neg (by omega)]
    exact ⟨rfl, fun _ => rfl, fun g => by omega⟩
  by_cases n0 : l.length = 0
  · have hz1 : gM C1 nm μ0 z.1 = some jZ0 := z_gM h1 hzn hz0
    refine ⟨0, by rw [if_pos n0]; exact jal_at hz1 (by decide), fun c => absurd (by rw [n0]; rfl) c, fun _ => ⟨g_here h1 ho1, ?_⟩⟩
    exact g_grow h1 hz1 (Or.inl n0) hq ho1 ha1 ha01 hf hO1 fin
  · have c1 : ccap l.length = 10 ∧ ccap (l.length + 1) = 10 := ⟨if_pos (by omega), if_pos (by omega)⟩
    rw [if_neg n0] at ho1 ⊢
    refine ⟨ccap l.length, jal_at (g_at h1 (ha1 n0)) (by decide), fun _ => ?_, fun c => absurd ((nI_eq (b := ccap l.length) (by omega) (by rw [c1.1]; decide)).mp c) (by rw [c1.1]; omega)⟩
    have e1 : lC C1 q j (m + 1) (ad (q + 1, j)) l.length (ccap (l.length + 1)) (lar ad e l) = C1 := lC_id ho1 (by rw [ha1 n0, c1.1, c1.2])
    have f1 := fin ad nm μ0 (by rw [e1]; exact h1) nxt_refl (fun _ _ => rfl)
    rw [e1] at f1
    exact f1
theorem g_get (h : gOk C ad nm) (hL : hasL z C ad q j m l e) (hn : l.length ≤ 20) {i x : Nat} {v : Int32} (hx : l[i]? = some x) (hv : v = nI i) {Q : Option Nat → jM → Prop} (w : Q (some (ad (e, x))) (gM C nm μ0)) : wJx4a65c_get_915e3 z (ad (q, j)) v (gM C nm μ0) Q := by
  have hi := (List.getElem?_eq_some_iff.mp hx).1
  have n0 : ¬ l.length = 0 := by omega
  have o := hL.1
  rw [if_neg n0] at o
  have hc := ccap_le (n := l.length) (by omega)
  have e1 : lar ad e l i = some (ad (e, x)) := by unfold lar; rw [hx]; rfl
  refine l_get (g_at h o) (g_at h (hL.2.1 n0)) hi hc.1 (by omega) hv ?_
  rw [e1]
  exact w
theorem g_rank (h : gOk C ad nm) (hzn : nm z.1 = (100, 0)) (hz0 : μ0 z.1 = some jZ0) {I : Nat → Nat → Int32} {fs10 fsv : List Value} {v b el : Nat} (h10 : C (10, p) = some (.inr (9, fs10))) (f10 : fs10[4]? = some (.ref (ad (13, p)))) (hL : hasL z C ad 13 p m l 20) (hl : l.length ≤ 5) (hO : ∀ x, x ∈ l → ∃ fs, C (20, x) = some (.inr (8, fs)) ∧ fs[2]? = some (.int (I 13 x))) (hv : C (20, v) = some (.inr (8, fsv))) (hv2 : fsv[2]? = some (.int (I 13 v))) (hb : ad (10, p) = b) (hel : ad (20, v) = el) {Q : Unit → jM → Prop}
    (w : ∀ C' ad' nm' μ0', gOk C' ad' nm' → nxt nm μ0 nm' μ0' → (∀ x, x ≠ (14, p) → ad' x = ad x) → hasL z C' ad' 13 p (m + 1) (cins I v l) 20 → (∀ x, x ≠ (13, p) → x ≠ (14, p) → C' x = C x) → Q () (gM C' nm' μ0')) : wX6_rank z b (some el) (gM C nm μ0) Q := by
  rw [← hb]
  have cl := cpl_le (I := I) (x := v) l
  have fin : wX6_rank_40 z (ad (10, p)) Q (some el) (nI (cpl I v l)) (gM C nm μ0) := by
    unfold wX6_rank_40
    refine ⟨some (ad (13, p)), (g_jg h h10 4).trans f10, _, ⟨rfl, g_here h hL.1⟩, ?_⟩
    refine g_ins h hzn hz0 hL (by omega) (by decide) (by decide) (fun x hx => ?_) cl rfl hel ⟨_, _, hv⟩ (fun C' ad' nm' μ0' k1 k2 k3 k4 k5 => w C' ad' nm' μ0' k1 k2 k3 (by rw [cins_at]; exact k4) k5)
    obtain ⟨fs, o, -⟩ := hO x hx
    exact ⟨_, _, o⟩
  have jel : jg (gM C nm μ0) (some el) 8 2 = some (.int (I 13 v)) := by
    rw [← hel]
    exact (g_jg h hv 2).trans hv2
  have loop : ∀ t i, i + t = cpl I v l → wX6_rank_2 z (ad (10, p)) Q (t + 1) (some el) (nI i) (gM C nm μ0) := by
    intro t
    induction t with
    | zero =>
      intro i hi
      have hi : i = cpl I v l := hi
      show wX6_rank_2_b z (ad (10, p)) Q (wX6_rank_2 z (ad (10, p)) Q 0) (some el) (nI i) (gM C nm μ0)
      refine ⟨some (ad (13, p)), (g_jg h h10 4).trans f10, _, ⟨rfl, g_here h hL.1⟩, l_size (g_at h hL.1) ⟨fun _ => by rw [hi]; exact fin, fun c => ?_⟩⟩
      have lt : i < l.length := by
        by_cases g : i < l.length
        · exact g
        · exact absurd (nI_le (show l.length ≤ i by omega) (by omega)) c
      have hx : l[i]? = some (l[i]'lt) := List.getElem?_eq_getElem lt
      generalize l[i]'lt = x at hx
      obtain ⟨fs, o1, o2⟩ := hO x (List.mem_of_getElem? hx)
      refine ⟨some (ad (13, p)), (g_jg h h10 4).trans f10, _, ⟨rfl, g_here h hL.1⟩, g_get h hL (by omega) hx rfl ⟨Or.inr ⟨_, _, rfl, g_at h o1⟩, _, (g_jg h o1 2).trans o2, _, jel, fun _ => by rw [hi]; exact fin, fun c2 => absurd ?_ c2⟩⟩
      rw [hi] at hx
      exact Int32.not_le.mp (cpl_at l x hx)
    | succ t ih =>
      intro i hi
      have lt : i < l.length := by omega
      have hx : l[i]? = some (l[i]'lt) := List.getElem?_eq_getElem lt
      generalize l[i]'lt = x at hx
      obtain ⟨fs, o1, o2⟩ := hO x (List.mem_of_getElem? hx)
      show wX6_rank_2_b z (ad (10, p)) Q (wX6_rank_2 z (ad (10, p)) Q (t + 1)) (some el) (nI i) (gM C nm μ0)
      refine ⟨some (ad (13, p)), (g_jg h h10 4).trans f10, _, ⟨rfl, g_here h hL.1⟩, l_size (g_at h hL.1) ⟨fun c => absurd c (lst_le hx (by omega)), fun _ => ?_⟩⟩
      refine ⟨some (ad (13, p)), (g_jg h h10 4).trans f10, _, ⟨rfl, g_here h hL.1⟩, g_get h hL (by omega) hx rfl ⟨Or.inr ⟨_, _, rfl, g_at h o1⟩, _, (g_jg h o1 2).trans o2, _, jel, fun c2 => absurd c2 (Int32.not_lt.mpr (cpl_lt l i x hx (by omega))), fun _ v12 e12 => ?_⟩⟩
      rw [e12, nI_1]
      exact ih (i + 1) (by omega)
  unfold wX6_rank wX6_rank_0
  intro v1 e1
  have l0 := loop _ 0 (Nat.zero_add _)
  rw [nI_0] at l0
  rw [e1]
  exact ⟨_, l0⟩
end GI
