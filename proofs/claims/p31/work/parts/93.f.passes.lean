/-! ===== the law: days pass ===== -/
abbrev lE (W : Nat → Int64) : jE := .inl (1, 10, .inr (.inl W))
def ext (R R' : jM) : Prop := ∀ a e, R a = some e → R' a = some e
theorem ext_new {R : jM} {a : Nat} {e : jE} (h : R a = none) : ext R (va_up R a (some e)) := fun b e1 hb => by
  rw [va_up_no (fun g => by rw [g, h] at hb; cases hb)]
  exact hb
theorem ext_trans {R R' R'' : jM} (h : ext R R') (h' : ext R' R'') : ext R R'' := fun a e ha => h' a e (h a e ha)
theorem s64_neg {f : Nat → Int64} : ∀ n, s64 (fun j => -(f j)) n = -(s64 f n)
  | 0 => Int64.neg_zero.symm
  | n + 1 => by
    show s64 (fun j => -(f j)) n + -(f n) = -(s64 f n + f n)
    rw [s64_neg n]
    grind
/-- a further one of what is summed by places -/
theorem acc_up {W S g : Nat → Int64} {f : Nat → Nat} {k : Nat} (h : ∀ q, W q = S q + s64 (fun i => if f i = q then g i else 0) k) {v : Int64} (hv : v = W (f k) + g k) : ∀ q, vp_updL W (f k) v q = S q + s64 (fun i => if f i = q then g i else 0) (k + 1) := by
  intro q
  show _ = S q + (s64 (fun i => if f i = q then g i else 0) k + (if f k = q then g k else 0))
  by_cases e : q = f k
  · rw [e, pk_uLs, if_pos rfl, hv, h, Int64.add_assoc]
  · rw [pk_uLn e, if_neg (fun g => e g.symm), Int64.add_zero, h]
section LP
variable {z : Nat × Nat} {q1 q4 q5 q8 q9 : Nat} {R R' : jM} {A L F : Nat} {I : Nat → Nat → Int32} {y y' : Nat → Int64} {c d : Nat} {μ : jM} {T W : Nat → Int32} {S S' N : Nat → Int64}
theorem p_wrE (h : pM z q1 R' A L F I y μ) (x : ext R R') (hz : R z.1 = some jZ0) {a j : Nat} (hr : R a = none) {U : Nat → Int64} (ha : R' a = some (lE U)) (hj : j < 10) {xi : Int32} (hx : xi = nI j) {v : Int64} {P : jM → Prop} (q : ∀ μ' R'', pM z q1 R'' A L F I y μ' → ext R R'' → R'' a = some (lE (vp_updL U j v)) → (∀ b, b ≠ a → R'' b = R' b) → P μ') : ∃ μ', jsj μ (some a) xi v = some μ' ∧ P μ' := by
  have az : a ≠ z.1 := fun g => by rw [g, hz] at hr; cases hr
  obtain ⟨μ', e, h'⟩ := p_wrL (v := v) h ha az hj (by omega) hx
  refine ⟨μ', e, q μ' _ h' (fun b e1 hb => ?_) va_up_at (fun b hb => va_up_no hb)⟩
  rw [va_up_no (fun g => by rw [g, hr] at hb; cases hb)]
  exact x b e1 hb
/-- two arrays besides: what was summed, and what is foretold (of the first k accounts) -/
def pA (z : Nat × Nat) (q1 q8 q9 : Nat) (R : jM) (A L F : Nat) (I : Nat → Nat → Int32) (y : Nat → Int64) (S N : Nat → Int64) (k : Nat) (μ : jM) : Prop :=
  ∃ R' W M, ext R R' ∧ R' q8 = some (lE W) ∧ R' q9 = some (lE M) ∧ (∀ q, W q = S q) ∧ (∀ j, j < k → M j = N j) ∧ pM z q1 R' A L F I y μ
/-- whose own interest counts -/
def p60 (I : Nat → Nat → Int32) (y : Nat → Int64) (i : Nat) : Int64 := if i = tI I i then y (60 + i) else 0
theorem top3 (hn : cEn A L F I) {k : Nat} (hk : k < A) (e : k = tI I k) : I 3 k = -1 := by
  have := (hn.top k hk).2
  rw [← e] at this
  exact this
theorem pool_sum (hn : cEn A L F I) {k : Nat} (hk : k < A) (h3 : I 3 k = -1) {a : Nat → Int64} : s64 (fun i => if tI I i = k then a i - p60 I y i else 0) A = s64 (fun i => if tI I i = k then a i else 0) A - y (60 + k) := by
  have e : s64 (fun i => if tI I i = k then a i - p60 I y i else 0) A = s64 (fun i => (if tI I i = k then a i else 0) - (if tI I i = k then p60 I y i else 0)) A := by
    refine s64_congr A (fun i _ => ?_)
    by_cases g : tI I i = k
    · rw [if_pos g, if_pos g, if_pos g]
    · rw [if_neg g, if_neg g, if_neg g, Int64.sub_zero]
  have st := hn.selfp hk h3
  rw [e, s64_sub]
  congr 1
  rw [s64_at (i := k) (fun j _ hne => ?_) hk]
  · show (if tI I k = k then p60 I y k else 0) = _
    rw [if_pos st]
    exact if_pos st.symm
  · show (if tI I j = k then p60 I y j else 0) = 0
    by_cases g : tI I j = k
    · rw [if_pos g]
      exact if_neg (fun w => hne (w.trans g))
    · exact if_neg g
/-- all that was summed: nothing -/
theorem sum_all (hn : cEn A L F I) {sc : Nat → Int64} {k : Nat} (hk : k < A) (hG : gP A L I k y' = gP A L I k y + s64 (fun i => if tI I i = k then sc i else 0) A) :
    (((0 + s64 (fun i => if tI I i = k then (y i + sc i) - p60 I y i else 0) A) + s64 (fun l => if pL I l = k then y (82 + l) - y (70 + l) else 0) L) + s64 (fun i => if tI I i = k then -(y' i - p60 I y' i) else 0) A) + s64 (fun l => if pL I l = k then -(y' (82 + l) - y' (70 + l)) else 0) L = 0 := by
  by_cases h3 : I 3 k = -1
  · have e1 : s64 (fun i => if tI I i = k then (y i + sc i) - p60 I y i else 0) A = (ps A I k y + s64 (fun i => if tI I i = k then sc i else 0) A) - y (60 + k) := by
      rw [pool_sum hn hk h3]
      congr 1
      unfold ps
      rw [← s64_add]
      refine s64_congr A (fun i _ => ?_)
      by_cases g : tI I i = k
      · rw [if_pos g, if_pos g, if_pos g]
      · rw [if_neg g, if_neg g, if_neg g, Int64.add_zero]
    have e3 : s64 (fun i => if tI I i = k then -(y' i - p60 I y' i) else 0) A = -(ps A I k y' - y' (60 + k)) := by
      have : s64 (fun i => if tI I i = k then y' i - p60 I y' i else 0) A = ps A I k y' - y' (60 + k) := pool_sum hn hk h3
      rw [← this, ← s64_neg]
      refine s64_congr A (fun i _ => ?_)
      by_cases g : tI I i = k
      · rw [if_pos g, if_pos g]
      · rw [if_neg g, if_neg g, Int64.neg_zero]
    have e4 : s64 (fun l => if pL I l = k then -(y' (82 + l) - y' (70 + l)) else 0) L = -(s64 (fun l => if pL I l = k then y' (82 + l) - y' (70 + l) else 0) L) := by
      rw [← s64_neg]
      refine s64_congr L (fun i _ => ?_)
      by_cases g : pL I i = k
      · rw [if_pos g, if_pos g]
      · rw [if_neg g, if_neg g, Int64.neg_zero]
    unfold gP at hG
    rw [e1, e3, e4]
    generalize s64 (fun i => if tI I i = k then sc i else 0) A = a1 at hG ⊢
    generalize s64 (fun l => if pL I l = k then y (82 + l) - y (70 + l) else 0) L = a2 at hG ⊢
    generalize s64 (fun l => if pL I l = k then y' (82 + l) - y' (70 + l) else 0) L = a3 at hG ⊢
    generalize ps A I k y = a4 at hG ⊢
    generalize ps A I k y' = a5 at hG ⊢
    generalize y (60 + k) = a6 at hG ⊢
    generalize y' (60 + k) = a7 at hG ⊢
    grind
  · have nt : ∀ i, i < A → ¬ tI I i = k := fun i hi e => h3 (by rw [← e]; exact (hn.top i hi).2)
    have nl : ∀ l, l < L → ¬ pL I l = k := fun l hl e => h3 (by rw [← e]; exact (hn.2.2.2.2.2.2.1 l hl).2.2)
    rw [s64_0 A (fun i hi => if_neg (nt i hi)), s64_0 L (fun l hl => if_neg (nl l hl)), s64_0 A (fun i hi => if_neg (nt i hi)), s64_0 L (fun l hl => if_neg (nl l hl))]
    rfl
/-- behind the day: 317 -/
theorem l_p317 {x4 : Int32} {k0 : Nat} (hz : R z.1 = some jZ0) (h : pA z q1 q8 q9 R A L F I y S N k0 μ) (v : pV A L F I y c (d + 1)) (hT : R q4 = some (tE T)) (tk : tOk A L I T) (hW : R q5 = some (wE W)) (wk : wOk I W) (hS : ∀ k, k < A → S k = 0) (sd : ¬ x4 = 0 → ¬ (d + 1) % 20 = 0 → sdV A L I y) {Q : Int32 → jM → Prop} (q : ∀ μ', pM z q1 R A L F I y μ' → Q 1 μ') {x7 x8 : Int32} (e7 : x7 = 1) (e8 : x8 = 0) : ∃ n, wL_passes_317 z Q n (some q1) (some q4) (some q5) (nI d) x4 (some q8) x7 x8 μ := by
  subst e7 e8
  rw [pk0]
  refine jforE (fun n k s => wL_passes_317 z Q n (some q1) (some q4) (some q5) (nI d) x4 (some q8) 1 (nI k) s) A (fun _ s => pA z q1 q8 q9 R A L F I y S N k0 s) (fun n k s hk hs ih => ?_) (fun s hs => ?_) μ h
  · obtain ⟨R', U, M, x, a8, a9, u, m, hm⟩ := hs
    have hn := p_cE hm
    have hA := hn.1
    show wL_passes_317_b z Q (wL_passes_317 z Q n) (some q1) (some q4) (some q5) (nI d) x4 (some q8) 1 (nI k) s
    unfold wL_passes_317_b
    refine ⟨_, p_rd hm (x _ _ hT) (j := 0) (by omega) (by omega) pk0, ?_⟩
    rw [tk.1]
    refine ⟨fun g => absurd g (nI_ge hk (by omega)), fun _ => ⟨fun g => absurd g (by decide), fun _ => ?_⟩⟩
    refine ⟨_, p_rdL hm a8 (show k < 10 by omega) (by omega) rfl, ?_⟩
    rw [u k, hS k hk]
    refine ⟨fun g => absurd rfl g, fun _ v9 e9 v10 e10 => ?_⟩
    rw [e9, e10, nI_s]
    exact ih s ⟨R', U, M, x, a8, a9, u, m, hm⟩
  · obtain ⟨R', U, M, x, a8, a9, u, m, hm⟩ := hs
    have hn := p_cE hm
    have hA := hn.1
    have dd := v_d v
    show wL_passes_317_b z Q (wL_passes_317 z Q 0) (some q1) (some q4) (some q5) (nI d) x4 (some q8) 1 (nI A) s
    unfold wL_passes_317_b
    refine ⟨_, p_rd hm (x _ _ hT) (j := 0) (by omega) (by omega) pk0, ?_⟩
    rw [tk.1]
    refine ⟨fun _ => ⟨fun g => absurd g (by decide), fun _ => ?_⟩, fun g => absurd (nI_le (Nat.le_refl A) (by omega)) g⟩
    have fin : Q 1 s := q s (p_less hm x hz)
    refine ⟨fun _ => fin, fun g => ⟨fun _ => fin, fun g4 => ?_⟩⟩
    rw [nI_s] at g
    exact l_isSettled hm v (x _ _ hT) tk (x _ _ hW) wk (sd g4 (fun w => g ((rem20_0 (d := d) (by omega)).mpr w))) (fun μ' h' => ⟨fun g => absurd g (by decide), fun _ => q μ' (p_less h' x hz)⟩)
/-- 271: lines -/
theorem l_p271 {x4 : Int32} {k0 : Nat} (hz : R z.1 = some jZ0) (r8 : R q8 = none) (h89 : q8 ≠ q9) (h : pA z q1 q8 q9 R A L F I y S N k0 μ) (v : pV A L F I y c (d + 1)) (hT : R q4 = some (tE T)) (tk : tOk A L I T) (hW : R q5 = some (wE W)) (wk : wOk I W) (hS : ∀ k, k < A → S k + s64 (fun l => if pL I l = k then -(y (82 + l) - y (70 + l)) else 0) L = 0) (sd : ¬ x4 = 0 → ¬ (d + 1) % 20 = 0 → sdV A L I y) {Q : Int32 → jM → Prop} (q : ∀ μ', pM z q1 R A L F I y μ' → Q 1 μ') {x7 x8 : Int32} (e7 : x7 = 1) (e8 : x8 = 0) : ∃ n, wL_passes_271 z Q n (some q1) (some q4) (some q5) (nI d) x4 (some q8) x7 x8 μ := by
  subst e7 e8
  rw [pk0]
  refine jforE (fun n k s => wL_passes_271 z Q n (some q1) (some q4) (some q5) (nI d) x4 (some q8) 1 (nI k) s) L (fun k s => pA z q1 q8 q9 R A L F I y (fun q => S q + s64 (fun l => if pL I l = q then -(y (82 + l) - y (70 + l)) else 0) k) N k0 s) (fun n k s hk hs ih => ?_) (fun s hs => ?_) μ ?_
  · obtain ⟨R', U, M, x, a8, a9, u, m, hm⟩ := hs
    have hn := p_cE hm
    have hA := hn.1
    have hL := hn.2.1
    obtain ⟨e11, pA', -⟩ := hn.2.2.2.2.2.2.1 k hk
    show wL_passes_271_b z Q (wL_passes_271 z Q n) (some q1) (some q4) (some q5) (nI d) x4 (some q8) 1 (nI k) s
    unfold wL_passes_271_b
    refine ⟨_, p_rd hm (x _ _ hT) (j := 1) (by omega) (by omega) rfl, ?_⟩
    rw [tk.2.1]
    refine ⟨fun g => absurd g (nI_ge hk (by omega)), fun _ => ?_⟩
    refine ⟨_, p_rd hm (x _ _ hT) (show 2 * k + 22 < 64 by omega) (by omega) (i_mul2 k 22), ?_⟩
    rw [(tk.2.2.2.2 k hk).1]
    refine ⟨_, p_rdL hm a8 (show pL I k < 10 by omega) (by omega) e11, ?_⟩
    refine p_costOf hm hk rfl (fun μ3 h3 => ?_)
    refine p_drawn h3 hk rfl (fun μ4 h4 => ?_)
    rw [(dr_int v hk).2.1]
    refine p_wrE h4 x hz r8 a8 (show pL I k < 10 by omega) e11 (fun μ5 R2 h5 x2 b8 o2 v13 e13 => ?_)
    rw [e13, nI_s]
    refine ih μ5 ⟨R2, _, M, x2, b8, (o2 q9 (fun g => h89 g.symm)).trans a9, acc_up u ?_, m, h5⟩
    rw [Int64.sub_eq_add_neg]
  · have hm := hs
    obtain ⟨R', U, M, x, a8, a9, u, m, hm⟩ := hm
    have hn := p_cE hm
    have hL := hn.2.1
    show wL_passes_271_b z Q (wL_passes_271 z Q 0) (some q1) (some q4) (some q5) (nI d) x4 (some q8) 1 (nI L) s
    unfold wL_passes_271_b
    refine ⟨_, p_rd hm (x _ _ hT) (j := 1) (by omega) (by omega) rfl, ?_⟩
    rw [tk.2.1]
    exact ⟨fun _ v2 e2 => l_p317 hz hs v hT tk hW wk hS sd q rfl e2, fun g => absurd (nI_le (Nat.le_refl L) (by omega)) g⟩
  · obtain ⟨R', U, M, x, a8, a9, u, m, hm⟩ := h
    exact ⟨R', U, M, x, a8, a9, fun q => (u q).trans (Int64.add_zero _).symm, m, hm⟩
/-- 187: accounts -/
theorem l_p187 {x4 : Int32} (hz : R z.1 = some jZ0) (r8 : R q8 = none) (h89 : q8 ≠ q9) (h : pA z q1 q8 q9 R A L F I y S y A μ) (v : pV A L F I y c (d + 1)) (hT : R q4 = some (tE T)) (tk : tOk A L I T) (hW : R q5 = some (wE W)) (wk : wOk I W) (hS : ∀ k, k < A → (S k + s64 (fun i => if tI I i = k then -(y i - p60 I y i) else 0) A) + s64 (fun l => if pL I l = k then -(y (82 + l) - y (70 + l)) else 0) L = 0) (sd : ¬ x4 = 0 → ¬ (d + 1) % 20 = 0 → sdV A L I y) {Q : Int32 → jM → Prop} (q : ∀ μ', pM z q1 R A L F I y μ' → Q 1 μ') {x7 x8 : Int32} (e7 : x7 = 1) (e8 : x8 = 0) : ∃ n, wL_passes_187 z Q n (some q1) (some q4) (some q5) (nI d) x4 (some q8) (some q9) x7 x8 μ := by
  subst e7 e8
  rw [pk0]
  refine jforE (fun n k s => wL_passes_187 z Q n (some q1) (some q4) (some q5) (nI d) x4 (some q8) (some q9) 1 (nI k) s) A (fun k s => pA z q1 q8 q9 R A L F I y (fun q => S q + s64 (fun i => if tI I i = q then -(y i - p60 I y i) else 0) k) y A s) (fun n k s hk hs ih => ?_) (fun s hs => ?_) μ ?_
  · obtain ⟨R', U, M, x, a8, a9, u, m, hm⟩ := hs
    have hn := p_cE hm
    have hA := hn.1
    have tk2 := (hn.2.2.2.2.1 k hk).2.1
    show wL_passes_187_b z Q (wL_passes_187 z Q n) (some q1) (some q4) (some q5) (nI d) x4 (some q8) (some q9) 1 (nI k) s
    unfold wL_passes_187_b
    refine ⟨_, p_rd hm (x _ _ hT) (j := 0) (by omega) (by omega) pk0, ?_⟩
    rw [tk.1]
    refine ⟨fun g => absurd g (nI_ge hk (by omega)), fun _ => ?_⟩
    refine l_topA hm (x _ _ hT) tk hk rfl ?_
    refine ⟨_, p_rdL hm a8 (show tI I k < 10 by omega) (by omega) rfl, ?_⟩
    have fin : ∀ (t4 : Int64) (μ3 : jM), t4 = p60 I y k → pM z q1 R' A L F I y μ3 → wL_passes_232 z (wL_passes_187 z Q n) Q (some q1) (some q4) (some q5) (nI d) x4 (some q8) (some q9) 1 (nI k) (some q8) (nI (tI I k)) (U (tI I k)) (y k) t4 μ3 := by
      intro t4 μ3 e4 h3
      unfold wL_passes_232
      refine p_wrE h3 x hz r8 a8 (show tI I k < 10 by omega) rfl (fun μ5 R2 h5 x2 b8 o2 => ⟨fun g => absurd g (by decide), fun _ => ?_⟩)
      have b9 : R2 q9 = some (lE M) := (o2 q9 (fun g => h89 g.symm)).trans a9
      refine p_balance h5 hk rfl (fun μ6 h6 => ?_)
      refine ⟨_, p_rdL h6 b9 (show k < 10 by omega) (by omega) rfl, ?_⟩
      rw [m k hk]
      refine ⟨fun g => absurd rfl g, fun _ v10 e10 v11 e11 => ?_⟩
      rw [e10, e11, nI_s]
      refine ih μ6 ⟨R2, _, M, x2, b8, b9, acc_up u ?_, m, h6⟩
      rw [Int64.sub_eq_add_neg, e4]
    refine p_balance hm hk rfl (fun μ3 h3 => ⟨fun g => ?_, fun g => ?_⟩)
    · exact fin 0 μ3 (if_neg (fun e => g (congrArg nI e))).symm h3
    · have e : k = tI I k := (ti_eq (by omega) (by omega)).mp g
      exact p_poolInterest h3 hk (top3 hn hk e) rfl (fun μ4 h4 => fin _ μ4 (if_pos e).symm h4)
  · have hm := hs
    obtain ⟨R', U, M, x, a8, a9, u, m, hm⟩ := hm
    have hn := p_cE hm
    have hA := hn.1
    show wL_passes_187_b z Q (wL_passes_187 z Q 0) (some q1) (some q4) (some q5) (nI d) x4 (some q8) (some q9) 1 (nI A) s
    unfold wL_passes_187_b
    refine ⟨_, p_rd hm (x _ _ hT) (j := 0) (by omega) (by omega) pk0, ?_⟩
    rw [tk.1]
    exact ⟨fun _ v2 e2 => l_p271 hz r8 h89 hs v hT tk hW wk hS sd q rfl e2, fun g => absurd (nI_le (Nat.le_refl A) (by omega)) g⟩
  · obtain ⟨R', U, M, x, a8, a9, u, m, hm⟩ := h
    exact ⟨R', U, M, x, a8, a9, fun q => (u q).trans (Int64.add_zero _).symm, m, hm⟩
/-- 123: lines, and the day -/
theorem l_p123 {x4 : Int32} (hz : R z.1 = some jZ0) (r8 : R q8 = none) (h89 : q8 ≠ q9) (h : pA z q1 q8 q9 R A L F I y S (dyF I A L F d (y, fun _ => 0) 1).1 A μ) (v : pV A L F I y c d) (hd : d < 400) (hc : c < 512) (hT : R q4 = some (tE T)) (tk : tOk A L I T) (hW : R q5 = some (wE W)) (wk : wOk I W)
    (hS : ∀ k, k < A → ((S k + s64 (fun l => if pL I l = k then y (82 + l) - y (70 + l) else 0) L) + s64 (fun i => if tI I i = k then -((dyF I A L F d (y, fun _ => 0) 1).1 i - p60 I (dyF I A L F d (y, fun _ => 0) 1).1 i) else 0) A) + s64 (fun l => if pL I l = k then -((dyF I A L F d (y, fun _ => 0) 1).1 (82 + l) - (dyF I A L F d (y, fun _ => 0) 1).1 (70 + l)) else 0) L = 0)
    (sd : ¬ x4 = 0 → ¬ (d + 1) % 20 = 0 → sdV A L I (dyF I A L F d (y, fun _ => 0) 1).1) {Q : Int32 → jM → Prop} (q : ∀ y' μ', pM z q1 R A L F I y' μ' → pV A L F I y' (c + 1) (d + 1) → Q 1 μ') {x7 : Int32} (e7 : x7 = 0) : ∃ n, wL_passes_123 z Q n (some q1) (some q4) (some q5) (nI d) x4 (some q8) (some q9) x7 μ := by
  subst e7
  rw [pk0]
  refine jforE (fun n k s => wL_passes_123 z Q n (some q1) (some q4) (some q5) (nI d) x4 (some q8) (some q9) (nI k) s) L (fun k s => pA z q1 q8 q9 R A L F I y (fun q => S q + s64 (fun l => if pL I l = q then y (82 + l) - y (70 + l) else 0) k) (dyF I A L F d (y, fun _ => 0) 1).1 A s) (fun n k s hk hs ih => ?_) (fun s hs => ?_) μ ?_
  · obtain ⟨R', U, M, x, a8, a9, u, m, hm⟩ := hs
    have hn := p_cE hm
    have hA := hn.1
    have hL := hn.2.1
    obtain ⟨e11, pA', -⟩ := hn.2.2.2.2.2.2.1 k hk
    show wL_passes_123_b z Q (wL_passes_123 z Q n) (some q1) (some q4) (some q5) (nI d) x4 (some q8) (some q9) (nI k) s
    unfold wL_passes_123_b
    refine ⟨_, p_rd hm (x _ _ hT) (j := 1) (by omega) (by omega) rfl, ?_⟩
    rw [tk.2.1]
    refine ⟨fun g => absurd g (nI_ge hk (by omega)), fun _ => ?_⟩
    refine ⟨_, p_rd hm (x _ _ hT) (show 2 * k + 22 < 64 by omega) (by omega) (i_mul2 k 22), ?_⟩
    rw [(tk.2.2.2.2 k hk).1]
    refine ⟨_, p_rdL hm a8 (show pL I k < 10 by omega) (by omega) e11, ?_⟩
    refine p_costOf hm hk rfl (fun μ3 h3 => ?_)
    refine p_drawn h3 hk rfl (fun μ4 h4 => ?_)
    rw [(dr_int v hk).2.1]
    refine p_wrE h4 x hz r8 a8 (show pL I k < 10 by omega) e11 (fun μ5 R2 h5 x2 b8 o2 v13 e13 => ?_)
    rw [e13, nI_s]
    exact ih μ5 ⟨R2, _, M, x2, b8, (o2 q9 (fun g => h89 g.symm)).trans a9, acc_up u rfl, m, h5⟩
  · obtain ⟨R', U, M, x, a8, a9, u, m, hm⟩ := hs
    have hn := p_cE hm
    have hL := hn.2.1
    show wL_passes_123_b z Q (wL_passes_123 z Q 0) (some q1) (some q4) (some q5) (nI d) x4 (some q8) (some q9) (nI L) s
    unfold wL_passes_123_b
    refine ⟨_, p_rd hm (x _ _ hT) (j := 1) (by omega) (by omega) rfl, ?_⟩
    rw [tk.2.1]
    refine ⟨fun _ => ?_, fun g => absurd (nI_le (Nat.le_refl L) (by omega)) g⟩
    refine p_passDays hm v hc (t := 1) rfl (by omega) (by omega) (by omega) (fun μ2 h2 v2 => ⟨fun g => absurd (nI_s d).symm g, fun _ v8 e8 v9 e9 => ?_⟩)
    exact l_p187 hz r8 h89 ⟨R', U, M, x, a8, a9, u, m, h2⟩ v2 hT tk hW wk hS sd (fun μ' h' => q _ μ' h' v2) e8 e9
  · obtain ⟨R', U, M, x, a8, a9, u, m, hm⟩ := h
    exact ⟨R', U, M, x, a8, a9, fun q => (u q).trans (Int64.add_zero _).symm, m, hm⟩
/-- 45: accounts, ahead -/
theorem l_p45 {x4 : Int32} (hz : R z.1 = some jZ0) (r8 : R q8 = none) (r9 : R q9 = none) (h89 : q8 ≠ q9) (h : pA z q1 q8 q9 R A L F I y (fun _ => 0) (dyF I A L F d (y, fun _ => 0) 1).1 0 μ) (v : pV A L F I y c d) (hd : d < 400) (hc : c < 512) (hT : R q4 = some (tE T)) (tk : tOk A L I T) (hW : R q5 = some (wE W)) (wk : wOk I W) (h4 : ¬ x4 = 0 → stF I d = true) {Q : Int32 → jM → Prop} (q : ∀ y' μ', pM z q1 R A L F I y' μ' → pV A L F I y' (c + 1) (d + 1) → Q 1 μ') {x7 : Int32} (e7 : x7 = 0) : ∃ n, wL_passes_45 z Q n (some q1) (some q4) (some q5) (nI d) x4 (some q8) (some q9) x7 μ := by
  subst e7
  rw [pk0]
  refine jforE (fun n k s => wL_passes_45 z Q n (some q1) (some q4) (some q5) (nI d) x4 (some q8) (some q9) (nI k) s) A (fun k s => pA z q1 q8 q9 R A L F I y (fun q => 0 + s64 (fun i => if tI I i = q then (y i + scF I F y i (nI d) (nI d)) - p60 I y i else 0) k) (dyF I A L F d (y, fun _ => 0) 1).1 k s) (fun n k s hk hs ih => ?_) (fun s hs => ?_) μ ?_
  · obtain ⟨R', U, M, x, a8, a9, u, m, hm⟩ := hs
    have hn := p_cE hm
    have hA := hn.1
    have tk2 := (hn.2.2.2.2.1 k hk).2.1
    show wL_passes_45_b z Q (wL_passes_45 z Q n) (some q1) (some q4) (some q5) (nI d) x4 (some q8) (some q9) (nI k) s
    unfold wL_passes_45_b
    refine ⟨_, p_rd hm (x _ _ hT) (j := 0) (by omega) (by omega) pk0, ?_⟩
    rw [tk.1]
    refine ⟨fun g => absurd g (nI_ge hk (by omega)), fun _ => ?_⟩
    refine l_topA hm (x _ _ hT) tk hk rfl ?_
    refine p_forecast hm v hk rfl (t := 1) rfl (by omega) (by omega) (fun μ2 h2 => ?_)
    refine p_wrE h2 x hz r9 a9 (show k < 10 by omega) rfl (fun μ3 R2 h3 x2 b9 o2 => ?_)
    have b8 : R2 q8 = some (lE U) := (o2 q8 h89).trans a8
    have m2 : ∀ j, j < k + 1 → vp_updL M k ((dyF I A L F d (y, fun _ => 0) 1).1 k) j = (dyF I A L F d (y, fun _ => 0) 1).1 j := fun j hj => by
      by_cases e : j = k
      · rw [e, pk_uLs]
      · rw [pk_uLn e]
        exact m j (by omega)
    refine ⟨_, p_rdL h3 b8 (show tI I k < 10 by omega) (by omega) rfl, ?_⟩
    refine p_balance h3 hk rfl (fun μ4 h4 => ?_)
    refine p_scheduled h4 v hk rfl rfl rfl (Nat.le_refl d) (Nat.le_refl d) (by omega) (fun μ5 h5 => ⟨fun g => ?_, fun g => ?_⟩)
    · refine p_wrE h5 x2 hz r8 b8 (show tI I k < 10 by omega) rfl (fun μ6 R3 h6 x3 c8 o3 v18 e18 => ?_)
      rw [e18, nI_s]
      refine ih μ6 ⟨R3, _, _, x3, c8, (o3 q9 (fun g => h89 g.symm)).trans b9, acc_up u ?_, m2, h6⟩
      rw [show p60 I y k = 0 from if_neg (fun e => g (congrArg nI e))]
    · have e : k = tI I k := (ti_eq (by omega) (by omega)).mp g
      refine p_poolInterest h5 hk (top3 hn hk e) rfl (fun μ6 h6 => ?_)
      refine p_wrE h6 x2 hz r8 b8 (show tI I k < 10 by omega) rfl (fun μ7 R3 h7 x3 c8 o3 v18 e18 => ?_)
      rw [e18, nI_s]
      refine ih μ7 ⟨R3, _, _, x3, c8, (o3 q9 (fun g => h89 g.symm)).trans b9, acc_up u ?_, m2, h7⟩
      rw [show p60 I y k = y (60 + k) from if_pos e]
  · have hm := hs
    obtain ⟨R', U, M, x, a8, a9, u, m, hm⟩ := hm
    have hn := p_cE hm
    have hA := hn.1
    have vs := v_st v
    obtain ⟨X, hv, x0, x1⟩ := vs
    show wL_passes_45_b z Q (wL_passes_45 z Q 0) (some q1) (some q4) (some q5) (nI d) x4 (some q8) (some q9) (nI A) s
    unfold wL_passes_45_b
    refine ⟨_, p_rd hm (x _ _ hT) (j := 0) (by omega) (by omega) pk0, ?_⟩
    rw [tk.1]
    refine ⟨fun _ v2 e2 => l_p123 hz r8 h89 hs v hd hc hT tk hW wk (fun k hk => ?_) (fun g4 g20 => ?_) q e2, fun g => absurd (nI_le (Nat.le_refl A) (by omega)) g⟩
    · exact sum_all hn hk (pass_gP (d := d) (l := fun _ => 0) hv.2.1 v.2.2 (by omega) hv.2.2.1 hv.2.2.2.1 v.2.1 (by omega))
    · exact pass_sd (d := d) (l := fun _ => 0) hv.2.1 v.2.2 (by omega) hv.2.2.1 (h4 g4) g20
  · obtain ⟨R', U, M, x, a8, a9, u, m, hm⟩ := h
    exact ⟨R', U, M, x, a8, a9, fun q => (u q).trans (Int64.add_zero _).symm, m, hm⟩
theorem l_passes (h : pM z q1 R A L F I y μ) (hz : R z.1 = some jZ0) (v : pV A L F I y c d) (hc : c < 512) (hT : R q4 = some (tE T)) (tk : tOk A L I T) (hW : R q5 = some (wE W)) (wk : wOk I W) {Q : Int32 → jM → Prop} (q : ∀ y' d' c' μ', c' ≤ c + 1 → pM z q1 R A L F I y' μ' → pV A L F I y' c' d' → Q 1 μ') : wL_passes z (some q1) (some q4) (some q5) μ Q := by
  have dd := v_d v
  unfold wL_passes wL_passes_0
  refine p_today h v (fun μ2 h2 => ⟨fun g => ?_, fun _ => q _ _ _ μ2 (by omega) h2 v⟩)
  have hd : d < 400 := (nI_lt_iff (b := 400) (by omega) (by omega)).mp g
  refine p_settlementDay h2 (show d ≤ 450 by omega) rfl (fun μ5 h5 => ?_)
  have go : ∀ x4 : Int32, (¬ x4 = 0 → stF I d = true) → ∀ q8 : Nat, μ5 q8 = none → ∀ q9 : Nat, (va_up μ5 q8 (some (lE (fun _ => 0)))) q9 = none → ∀ v10 : Int32, v10 = 0 → ∃ n, wL_passes_45 z Q n (some q1) (some q4) (some q5) (nI d) x4 (some q8) (some q9) v10 (va_up (va_up μ5 q8 (some (lE (fun _ => 0)))) q9 (some (lE (fun _ => 0)))) := by
    intro x4 hx4 q8 n8 q9 n9 v10 e10
    obtain ⟨h6, r8⟩ := p_new (e := lE (fun _ => 0)) h5 n8
    obtain ⟨h7, r9'⟩ := p_new (e := lE (fun _ => 0)) h6 n9
    have h89 : q8 ≠ q9 := fun e => by rw [← e, va_up_at] at r9'; cases r9'
    have r9 : R q9 = none := by rw [va_up_no (fun e => h89 e.symm)] at r9'; exact r9'
    exact l_p45 hz r8 r9 h89 ⟨_, fun _ => 0, fun _ => 0, ext_trans (ext_new r8) (ext_new r9'), (va_up_no h89).trans va_up_at, va_up_at, fun _ => rfl, fun j hj => by omega, h7⟩ v hd hc hT tk hW wk hx4 (fun y' μ' h' v' => q _ _ _ μ' (Nat.le_refl _) h' v') e10
  refine ⟨fun _ v7 e7 => ?_, fun g4 v7 e7 => ?_⟩
  · rw [e7]
    exact go 0 (fun g => absurd rfl g)
  · rw [e7]
    refine go 1 (fun _ => ?_)
    rcases oI_stl (I := I) (e := d) with w | ⟨w, w1, w2, w3, w4, w5⟩
    · rw [w] at g4
      exact absurd g4.symm (n1_neg (by omega))
    · rw [w2] at g4
      rw [← (nI_eq (by omega) (by omega)).mp g4]
      exact w5
end LP
