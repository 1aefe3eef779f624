/-! ===== the law: sweeping ===== -/
section LD
variable {z : Nat × Nat} {q1 q4 : Nat} {R : jM} {A L F : Nat} {I : Nat → Nat → Int32} {y : Nat → Int64} {c d : Nat} {μ : jM} {T : Nat → Int32}
theorem l_short (h : pM z q1 R A L F I y μ) (v : pV A L F I y c d) (hT : R q4 = some (tE T)) (tk : tOk A L I T) {p : Nat} (hp : p < A) (hs : (sweepF I A y p).toInt ≤ (I 8 p).toInt) {x : Int32} (hx : x = nI p) {Q : Int32 → jM → Prop} (q : ∀ μ', pM z q1 R A L F I y μ' → Q 1 μ') : wL_parentIsShort z (some q1) (some q4) x μ Q := by
  have hA := (p_cE h).1
  subst hx
  unfold wL_parentIsShort wL_parentIsShort_0
  refine p_afterSweep h v hp rfl (fun μ1 h1 => ?_)
  refine ⟨_, p_rd h1 hT (show 36 + 3 * p < 64 by omega) (by omega) (i_mul3 p 36), ?_⟩
  rw [(tk.2.2.2.1 p (by omega)).2.2]
  refine ⟨fun g => ?_, fun _ => q _ h1⟩
  rw [Int64.lt_iff_toInt_lt, Int32.toInt_toInt64] at g
  omega
theorem l_227 (h : pM z q1 R A L F I y μ) (v : pV A L F I y c d) (hT : R q4 = some (tE T)) (tk : tOk A L I T) {k p : Nat} (hk : k < A) (hc : cpar A I k = some p) {K4 : Option Nat → Option Nat → Int32 → Int32 → jM → Prop} {Q : Int32 → jM → Prop} {x8 : Int64} (hs : 0 ≤ x8.toInt ∨ (sweepF I A y p).toInt ≤ (I 8 p).toInt) (q : ∀ μ', pM z q1 R A L F I y μ' → K4 (some q1) (some q4) 1 (nI (k + 1)) μ') : wL_isSwept_227 z K4 Q (some q1) (some q4) (nI k) x8 μ := by
  have hn := p_cE h
  have hA := hn.1
  obtain ⟨c1, c2, c3⟩ := cpar_A hc
  obtain ⟨e3, hp⟩ := pI_lt hn.2.2.2.1 hA hk c2
  have nx : ∀ μ', pM z q1 R A L F I y μ' → ∀ u : Int32, u = 1 → ∀ w : Int32, w = nI k + 1 → K4 (some q1) (some q4) u w μ' := fun μ' h' u eu w ew => by
    rw [eu, ew, nI_s]
    exact q μ' h'
  unfold wL_isSwept_227
  refine ⟨fun _ => nx _ h, fun g => ?_⟩
  have hs' : (sweepF I A y p).toInt ≤ (I 8 p).toInt := by
    rcases hs with hs | hs
    · exact absurd (Int64.le_iff_toInt_le.mpr (by rw [i64_0]; exact hs)) g
    · exact hs
  refine l_parent h hT (show k < 10 by omega) rfl ?_
  rw [(tk.2.2.1 k hk).2, e3, ← c3]
  refine l_short h v hT tk (by omega) hs' rfl (fun μ1 h1 => ⟨fun g => absurd g (by decide), fun _ => nx _ h1⟩)
theorem l_205 (h : pM z q1 R A L F I y μ) (v : pV A L F I y c d) (hT : R q4 = some (tE T)) (tk : tOk A L I T) {k p : Nat} (hk : k < A) (hc : cpar A I k = some p) {K4 : Option Nat → Option Nat → Int32 → Int32 → jM → Prop} {Q : Int32 → jM → Prop} {x4 : Int32} {x8 : Int64} (hs : x4 = 1 ∨ x4 = 3 → 0 ≤ x8.toInt ∨ (sweepF I A y p).toInt ≤ (I 8 p).toInt) (q : ∀ μ', pM z q1 R A L F I y μ' → K4 (some q1) (some q4) 1 (nI (k + 1)) μ') : wL_isSwept_205 z K4 Q (some q1) (some q4) (nI k) x4 x8 μ := by
  unfold wL_isSwept_205 wL_isSwept_210
  refine ⟨fun g => absurd g (by decide), fun _ => ⟨fun e => l_227 h v hT tk hk hc (hs (Or.inl e)) q, fun _ => ⟨fun _ u eu w ew => ?_, fun e => l_227 h v hT tk hk hc (hs (Or.inr e)) q⟩⟩⟩
  rw [eu, ew, nI_s]
  exact q μ h
theorem l_isSwept (h : pM z q1 R A L F I y μ) (v : pV A L F I y c d) (hT : R q4 = some (tE T)) (tk : tOk A L I T) {Q : Int32 → jM → Prop} (q : ∀ μ', pM z q1 R A L F I y μ' → Q 1 μ') : wL_isSwept z (some q1) (some q4) μ Q := by
  have hn := p_cE h
  have hA := hn.1
  unfold wL_isSwept wL_isSwept_0
  intro v1 e1 v2 e2
  subst e1 e2
  rw [pk0]
  refine jforE (fun n k s => wL_isSwept_4 z Q n (some q1) (some q4) 1 (nI k) s) A (fun _ s => pM z q1 R A L F I y s) (fun n k s hk hs ih => ?_) (fun s hs => ?_) μ h
  · show wL_isSwept_4_b z Q (wL_isSwept_4 z Q n) (some q1) (some q4) 1 (nI k) s
    unfold wL_isSwept_4_b
    refine ⟨_, p_rd hs hT (j := 0) (by omega) (by omega) pk0, ?_⟩
    rw [tk.1]
    refine ⟨fun g => absurd g (nI_ge hk (by omega)), fun _ => ?_⟩
    refine ⟨_, p_rd hs hT (show 34 + 3 * k < 64 by omega) (by omega) (i_mul3 k 34), ?_⟩
    rw [(tk.2.2.2.1 k (by omega)).1]
    refine p_afterSweep hs v hk rfl (fun μ2 h2 => ?_)
    intro v5 e5 v6 e6
    subst e5 e6
    rw [pk0]
    refine jforE (σ := Int32 × jM) (fun n' i s => wL_isSwept_34 z (wL_isSwept_4 z Q n) Q n' (some q1) (some q4) 1 (nI k) (I 6 k) (sweepF I A y k) s.1 (nI i) s.2) A (fun i s => ((s.1 = nI 0 ∧ ∀ j, j < i → cpar A I j ≠ some k) ∨ s.1 = 1) ∧ pM z q1 R A L F I y s.2) (fun n' i s hi hs' ih' => ?_) (fun s hs' => ?_) (nI 0, μ2) ⟨Or.inl ⟨rfl, fun j hj => by omega⟩, h2⟩
    · obtain ⟨a1, μs⟩ := s
      obtain ⟨s1, hm⟩ := hs'
      show wL_isSwept_34_b z (wL_isSwept_4 z Q n) Q (wL_isSwept_34 z (wL_isSwept_4 z Q n) Q n') (some q1) (some q4) 1 (nI k) (I 6 k) (sweepF I A y k) a1 (nI i) μs
      unfold wL_isSwept_34_b
      refine ⟨_, p_rd hm hT (j := 0) (by omega) (by omega) pk0, ?_⟩
      rw [tk.1]
      refine ⟨fun g => absurd g (nI_ge hi (by omega)), fun _ => ⟨fun g => ?_, fun g => ?_⟩⟩
      · intro u1 eu1 u2 eu2
        rw [eu1, eu2, nI_s]
        exact ih' (1, μs) ⟨Or.inr rfl, hm⟩
      · rcases s1 with ⟨-, s2⟩ | s1
        · refine l_parent hm hT (show i < 10 by omega) rfl ?_
          rw [(tk.2.2.1 i hi).2]
          refine ⟨fun g => ?_, fun g => ?_⟩
          · intro u1 eu1 u2 eu2
            rw [eu1, eu2, nI_s]
            refine ih' (0, μs) ⟨Or.inl ⟨pk0, fun j hj => ?_⟩, hm⟩
            by_cases e : j = i
            · rw [e]
              exact fun w => g ((par_eq hn hi hk).mpr w)
            · exact s2 j (by omega)
          · intro u1 eu1 u2 eu2
            rw [eu1, eu2, nI_s]
            exact ih' (1, μs) ⟨Or.inr rfl, hm⟩
        · have s1 : a1 = 1 := s1
          rw [s1] at g
          exact absurd g (by decide)
    · obtain ⟨a1, μs⟩ := s
      obtain ⟨s1, hm⟩ := hs'
      show wL_isSwept_34_b z (wL_isSwept_4 z Q n) Q (wL_isSwept_34 z (wL_isSwept_4 z Q n) Q 0) (some q1) (some q4) 1 (nI k) (I 6 k) (sweepF I A y k) a1 (nI A) μs
      unfold wL_isSwept_34_b
      refine ⟨_, p_rd hm hT (j := 0) (by omega) (by omega) pk0, ?_⟩
      rw [tk.1]
      refine ⟨fun _ => ?_, fun g => absurd (nI_le (Nat.le_refl A) (by omega)) g⟩
      refine l_parent hm hT (show k < 10 by omega) rfl ?_
      rw [(tk.2.2.1 k hk).2]
      refine ⟨fun _ => ?_, fun g => ⟨fun g2 => ?_, fun g2 => ?_⟩⟩
      · intro u eu
        rw [eu, nI_s]
        exact ih _ hm
      · intro u eu
        rw [eu, nI_s]
        exact ih _ hm
      · -- an account without children, no top account
        have leaf : ∀ j, j < A → cpar A I j ≠ some k := by
          rcases s1 with ⟨-, leaf⟩ | s1
          · exact leaf
          · have s1 : a1 = 1 := s1
            rw [s1] at g2
            exact absurd g2 (by decide)
        have h3 : ¬ I 3 k = -1 := fun e => g (by rw [e]; decide)
        have hc := cpar_s hk h3
        obtain ⟨X, hv, x0, x1⟩ := v_st v
        have htg : tgOk A I := hv.2.1.2.1
        have hb : bdX A (X + 60000000) y := bR_bd hn.2.1 hv.2.2.1.1.2.2
        have hm' := hm
        obtain ⟨ad, nm, K, kk, μr, -, hE, -⟩ := hm'
        obtain ⟨r0, r1, r2, r3, r4⟩ := leaf_rules hE htg (X := X + 60000000) (by omega) (by omega) hb hk hc leaf
        obtain ⟨-, sbd, -, -⟩ := sweep_bd hn.2.2.2.1 htg hA (X := X + 60000000) (by omega) (by omega) hb
        have l1 := bdX_lo sbd hk
        have l2 := bdX_hi sbd hA hk
        obtain ⟨t1, t2, -, -⟩ := htg k hk
        refine ⟨_, p_rd hm hT (show 35 + 3 * k < 64 by omega) (by omega) (i_mul3 k 35), ?_⟩
        rw [(tk.2.2.2.1 k (by omega)).2.1]
        intro o eo
        have ov : o.toInt = (sweepF I A y k).toInt - (I 7 k).toInt := by
          rw [eo, i64_sub (by rw [Int32.toInt_toInt64]; omega) (by rw [Int32.toInt_toInt64]; omega), Int32.toInt_toInt64]
        have nx := ih
        generalize hS : sweepF I A y k = S at r0 r1 r2 r3 r4 l1 l2 ov
        have pos : 0 < o → (I 7 k).toInt < S.toInt := fun g => by
          have := Int64.lt_iff_toInt_lt.mp g
          rw [i64_0] at this
          omega
        rcases (hn.2.2.2.2.2.2.2.2 k hk).1 with r | r | r | r
        · -- rule 0
          have e0 := r0 r
          rw [r]
          refine ⟨fun g => absurd g (by decide), fun _ => ⟨fun g => absurd g (by decide), fun _ => ⟨fun _ => ⟨fun g => absurd rfl g, fun _ => p_balance hm hk rfl (fun μ3 h3 => ⟨fun g => absurd e0 g, fun _ => ?_⟩)⟩, fun g => absurd g (by decide)⟩⟩⟩
          unfold wL_isSwept_139
          refine ⟨fun g => absurd g (by decide), fun _ => ⟨fun g => absurd rfl g, fun _ => ?_⟩⟩
          unfold wL_isSwept_150
          refine p_balance h3 hk rfl (fun μ4 h4 => ⟨fun g => ?_, fun _ => ?_⟩)
          · rw [e0] at g
            exact absurd (Int64.lt_iff_toInt_lt.mp g) (Int.lt_irrefl _)
          · unfold wL_isSwept_181
            exact ⟨fun _ => l_205 h4 v hT tk hk hc (fun g => by rcases g with g | g <;> exact absurd g (by decide)) nx, fun g => absurd g (by decide)⟩
        · -- rule 1
          have e1 := r1 r
          have e4 := r4 (Or.inl r)
          rw [r]
          refine ⟨fun g => absurd g (by decide), fun _ => ⟨fun _ => ?_, fun g => absurd rfl g⟩⟩
          unfold wL_isSwept_113
          refine ⟨fun g => absurd (pos g) (by omega), fun _ => ?_⟩
          unfold wL_isSwept_139
          refine ⟨fun g => absurd g (by decide), fun _ => ⟨fun _ => ⟨fun _ => ?_, fun g => absurd rfl g⟩, fun g => absurd g (by decide)⟩⟩
          unfold wL_isSwept_181
          exact ⟨fun _ => l_205 hm v hT tk hk hc (fun _ => e4.imp (fun g => by omega) id) nx, fun g => absurd g (by decide)⟩
        · -- rule 2
          obtain ⟨e1, e2⟩ := r2 r
          rw [r]
          refine ⟨fun g => absurd g (by decide), fun _ => ⟨fun g => absurd g (by decide), fun _ => ⟨fun g => absurd rfl g, fun _ => ?_⟩⟩⟩
          unfold wL_isSwept_113
          refine ⟨fun g => absurd (pos g) (by omega), fun _ => ?_⟩
          unfold wL_isSwept_139
          refine ⟨fun _ => ?_, fun g => absurd rfl g⟩
          unfold wL_isSwept_150
          refine p_balance hm hk rfl (fun μ4 h4 => ⟨fun g => ?_, fun _ => ?_⟩)
          · have := Int64.lt_iff_toInt_lt.mp g
            omega
          · unfold wL_isSwept_181
            exact ⟨fun _ => l_205 h4 v hT tk hk hc (fun g => by rcases g with g | g <;> exact absurd g (by decide)) nx, fun g => absurd g (by decide)⟩
        · -- rule 3
          obtain ⟨e1, e2⟩ := r3 r
          have e4 := r4 (Or.inr r)
          rw [r]
          refine ⟨fun g => absurd g (by decide), fun _ => ⟨fun g => absurd g (by decide), fun _ => ⟨fun _ => ⟨fun _ => ?_, fun g => absurd g (by decide)⟩, fun g => absurd g (by decide)⟩⟩⟩
          unfold wL_isSwept_139
          refine ⟨fun g => absurd g (by decide), fun _ => ⟨fun _ => ⟨fun g => absurd g (by decide), fun _ => ?_⟩, fun g => absurd g (by decide)⟩⟩
          refine p_balance hm hk rfl (fun μ4 h4 => ⟨fun g => ?_, fun _ => ?_⟩)
          · have := Int64.lt_iff_toInt_lt.mp g
            omega
          · unfold wL_isSwept_181
            refine ⟨fun g => absurd rfl g, fun _ => ⟨fun _ => ?_, fun g => ?_⟩⟩
            · exact l_205 h4 v hT tk hk hc (fun _ => e4.imp (fun g => by omega) id) nx
            · refine p_balance h4 hk rfl (fun μ5 h5 => ⟨fun g2 => ?_, fun _ => ?_⟩)
              · rcases e2 with e2 | e2
                · have : ¬ o.toInt ≤ 0 := fun w => g (Int64.le_iff_toInt_le.mpr (by rw [i64_0]; exact w))
                  omega
                · exact absurd e2 g2
              · exact l_205 h5 v hT tk hk hc (fun _ => e4.imp (fun g => by omega) id) nx
  · show wL_isSwept_4_b z Q (wL_isSwept_4 z Q 0) (some q1) (some q4) 1 (nI A) s
    unfold wL_isSwept_4_b
    refine ⟨_, p_rd hs hT (j := 0) (by omega) (by omega) pk0, ?_⟩
    rw [tk.1]
    exact ⟨fun _ => ⟨by decide, q s hs⟩, fun g => absurd (nI_le (Nat.le_refl A) (by omega)) g⟩
end LD
