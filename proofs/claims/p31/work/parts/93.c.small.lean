/-! ===== the law's small methods; sums, exposures, lines ===== -/
/-- the law's own picture of the desk -/
def tOk (A L : Nat) (I : Nat → Nat → Int32) (T : Nat → Int32) : Prop :=
  T 0 = nI A ∧ T 1 = nI L ∧ (∀ k, k < A → T (2 * k + 2) = I 5 k ∧ T (2 * k + 3) = I 3 k) ∧ (∀ k, k < 10 → T (34 + 3 * k) = I 6 k ∧ T (35 + 3 * k) = I 7 k ∧ T (36 + 3 * k) = I 8 k) ∧ ∀ l, l < L → T (2 * l + 22) = I 11 l ∧ T (2 * l + 23) = I 12 l
abbrev tE (T : Nat → Int32) : jE := .inl (0, 64, .inl T)
abbrev wE (W : Nat → Int32) : jE := .inl (0, 4, .inl W)
theorem i_mul2 (k c : Nat) : (2 : Int32) * nI k + nI c = nI (2 * k + c) := by
  show nI 2 * nI k + nI c = _
  rw [nI_mul2, nI_add]
theorem i_mul3 (k c : Nat) : (3 : Int32) * nI k + nI c = nI (c + 3 * k) := by
  show nI 3 * nI k + nI c = _
  rw [nI_mul2, nI_add, Nat.add_comm]
theorem n1_neg {k : Nat} (h : k < 2 ^ 31) : ¬ nI k = -1 := fun e => by have := nI_pos (n := k) h; rw [e] at this; exact this (by decide)
section LM
variable {z : Nat × Nat} {q1 q4 : Nat} {R : jM} {A L F : Nat} {I : Nat → Nat → Int32} {y : Nat → Int64} {c d : Nat} {μ : jM} {T : Nat → Int32}
/-- draws -/
theorem and_nn (v : Int32) : ∃ b, b < 2 ^ 31 ∧ v &&& 2147483647 = nI b := by
  have h : (v &&& 2147483647).toBitVec.toNat ≤ 2147483647 := by
    have e : (v &&& 2147483647).toBitVec = v.toBitVec &&& (2147483647 : Int32).toBitVec := rfl
    rw [e, BitVec.toNat_and]
    exact Nat.le_trans Nat.and_le_right (by decide)
  refine ⟨(v &&& 2147483647).toBitVec.toNat, by omega, ?_⟩
  apply Int32.toBitVec_inj.mp
  show _ = BitVec.ofNat 32 _
  rw [BitVec.ofNat_toNat]
  simp
theorem l_draw {b LL : Nat} {xs : Nat → Int32} {k m : Nat} (hL : LL ≤ 260) (hk : k < 2 ^ 20) (hm0 : 0 < m) (hm : m < 2 ^ 31) {x1 x2 : Int32} (e1 : x1 = nI k) (e2 : x2 = nI m) {Q : Int32 → jM → Prop} (q : ∀ r, r < m → Q (nI r) μ) : wL_draw z b LL xs x1 x2 μ Q := by
  subst e1 e2
  have md : ∀ v : Int32, (¬ nI m = 0) ∧ Q ((v &&& 2147483647) - (v &&& 2147483647) / nI m * nI m) μ := fun v => by
    obtain ⟨r, hr, er⟩ := and_nn v
    refine ⟨nI_ne0 hm0 hm, ?_⟩
    rw [er, pk_rem hr hm0 hm]
    exact q _ (Nat.mod_lt _ hm0)
  unfold wL_draw wL_draw_0
  refine ⟨fun _ v _ => md v, fun g => ⟨?_, fun v _ => md v⟩⟩
  have : k < LL := Nat.lt_of_not_le (fun w => g (nI_le (a := LL) w (by omega)))
  exact vp_in_nI this (by omega)
theorem l_parent (h : pM z q1 R A L F I y μ) (hT : R q4 = some (tE T)) {x : Int32} {k : Nat} (hk : k < 10) (hx : x = nI k) {Q : Int32 → jM → Prop} (q : Q (T (2 * k + 3)) μ) : wL_parent z (some q4) x μ Q := by
  subst hx
  unfold wL_parent wL_parent_0
  exact ⟨_, p_rd h hT (show 2 * k + 3 < 64 by omega) (by omega) (i_mul2 k 3), q⟩
theorem l_top (h : pM z q1 R A L F I y μ) (hT : R q4 = some (tE T)) (tp : ∀ k, k < A → T (2 * k + 3) = I 3 k) {Q : Int32 → jM → Prop} : ∀ (n k : Nat), k < n → k < A → Q (nI (tI I k)) μ → wL_top_2 z Q n (some q4) (nI k) μ := by
  have hn := p_cE h
  have hA := hn.1
  intro n
  induction n with
  | zero => intro k hk; omega
  | succ n ih =>
    intro k hk hkA q
    show wL_top_2_b z Q (wL_top_2 z Q n) (some q4) (nI k) μ
    unfold wL_top_2_b
    refine l_parent h hT (show k < 10 by omega) rfl ?_
    rw [tp k hkA]
    rcases hn.2.2.2.2.2.1 k hkA with ⟨h3, e⟩ | ⟨h3, e⟩
    · rw [h3]
      rw [e] at q
      exact ⟨fun _ => q, fun g => absurd (by decide) g⟩
    · obtain ⟨e3, hp⟩ := pI_lt hn.2.2.2.1 hA hkA h3
      rw [e3]
      refine ⟨fun g => absurd g (nI_pos (by omega)), fun _ => ?_⟩
      refine l_parent h hT (show k < 10 by omega) rfl ?_
      rw [tp k hkA, e3]
      exact ih (pI I k) (by omega) (by omega) (by rw [← e]; exact q)
theorem l_topT (h : pM z q1 R A L F I y μ) (hT : R q4 = some (tE T)) (tp : ∀ k, k < A → T (2 * k + 3) = I 3 k) {x : Int32} {k : Nat} (hk : k < A) (hx : x = nI k) {Q : Int32 → jM → Prop} (q : Q (nI (tI I k)) μ) : wL_top z (some q4) x μ Q := by
  subst hx
  unfold wL_top wL_top_0
  exact ⟨k + 1, l_top h hT tp (k + 1) k (by omega) hk q⟩
theorem l_topA (h : pM z q1 R A L F I y μ) (hT : R q4 = some (tE T)) (tk : tOk A L I T) {x : Int32} {k : Nat} (hk : k < A) (hx : x = nI k) {Q : Int32 → jM → Prop} (q : Q (nI (tI I k)) μ) : wL_top z (some q4) x μ Q := l_topT h hT (fun k hk => (tk.2.2.1 k hk).2) hk hx q
/-! ## sums -/
theorem ti_eq {i k : Nat} (hi : i < 1000) (hk : k < 1000) : nI i = nI k ↔ i = k := nI_eq (by omega) (by omega)
theorem par_eq (hn : cEn A L F I) {i k : Nat} (hi : i < A) (hk : k < A) : I 3 i = nI k ↔ cpar A I i = some k := by
  have hA := hn.1
  constructor
  · intro e
    have h3 : ¬ I 3 i = -1 := by rw [e]; exact n1_neg (by omega)
    obtain ⟨e3, hp⟩ := pI_lt hn.2.2.2.1 hA hi h3
    rw [cpar_s hi h3]
    rw [e3] at e
    rw [(ti_eq (by omega) (by omega)).mp e]
  · intro e
    obtain ⟨-, h3, e2⟩ := cpar_A e
    rw [(pI_lt hn.2.2.2.1 hA hi h3).1, e2]
/-- what the inner loop has at i -/
def sumI (A : Nat) (I : Nat → Nat → Int32) (y : Nat → Int64) (k i : Nat) (s : Int64 × Int64 × Int64 × Int64) : Prop :=
  s.1 = y k + s64 (fun j => if cpar A I j = some k then sumF I A y (I 4 j) j else 0) i ∧ s.2.1 = s64 (fun j => if tI I j = k then y j else 0) i ∧ s.2.2.1 = s64 (fun j => if tI I j = k then sweepF I A y j else 0) i ∧ s.2.2.2 = s64 (fun j => if tI I j = k then y (50 + j) else 0) i
theorem l_areSums (h : pM z q1 R A L F I y μ) (v : pV A L F I y c d) (hT : R q4 = some (tE T)) (tk : tOk A L I T) {Q : Int32 → jM → Prop} (q : ∀ μ', pM z q1 R A L F I y μ' → Q 1 μ') : wL_areSums z (some q1) (some q4) μ Q := by
  have hn := p_cE h
  have hA := hn.1
  unfold wL_areSums wL_areSums_0
  refine p_accounts h (fun μ1 h1 => ?_)
  refine ⟨_, p_rd h1 hT (j := 0) (by omega) (by omega) pk0, fun g => absurd tk.1.symm g, fun _ v8 e8 v9 e9 => ?_⟩
  subst e8 e9
  rw [pk0]
  refine jforE (fun n k s => wL_areSums_18 z Q n (some q1) (some q4) 1 (nI k) s) A (fun _ s => pM z q1 R A L F I y s) (fun n k s hk hs ih => ?_) (fun s hs => ?_) μ1 h1
  · show wL_areSums_18_b z Q (wL_areSums_18 z Q n) (some q1) (some q4) 1 (nI k) s
    unfold wL_areSums_18_b
    refine ⟨_, p_rd hs hT (j := 0) (by omega) (by omega) pk0, ?_⟩
    rw [tk.1]
    refine ⟨fun g => absurd g (nI_ge hk (by omega)), fun _ => ⟨fun g => absurd g (by decide), fun _ => ?_⟩⟩
    refine p_balance hs hk rfl (fun μ2 h2 => ?_)
    intro v5 e5 v6 e6 v7 e7 v8 e8
    subst e5 e6 e7 e8
    rw [pk0]
    refine jforE (σ := (Int64 × Int64 × Int64 × Int64) × jM) (fun n' i s => wL_areSums_48 z (wL_areSums_18 z Q n) Q n' (some q1) (some q4) (nI k) s.1.1 s.1.2.1 s.1.2.2.1 s.1.2.2.2 (nI i) s.2) A (fun i s => sumI A I y k i s.1 ∧ pM z q1 R A L F I y s.2) (fun n' i s hi hs' ih' => ?_) (fun s hs' => ?_) ((y k, 0, 0, 0), μ2) ⟨⟨(Int64.add_zero _).symm, rfl, rfl, rfl⟩, h2⟩
    · obtain ⟨⟨a1, a2, a3, a4⟩, μs⟩ := s
      obtain ⟨⟨s1, s2, s3, s4⟩, hm⟩ := hs'
      show wL_areSums_48_b z (wL_areSums_18 z Q n) Q (wL_areSums_48 z (wL_areSums_18 z Q n) Q n') (some q1) (some q4) (nI k) a1 a2 a3 a4 (nI i) μs
      unfold wL_areSums_48_b
      refine ⟨_, p_rd hm hT (j := 0) (by omega) (by omega) pk0, ?_⟩
      rw [tk.1]
      refine ⟨fun g => absurd g (nI_ge hi (by omega)), fun _ => ?_⟩
      -- behind the first sum
      have go : ∀ (w : Int64) (μ3 : jM), w = (if cpar A I i = some k then sumF I A y (I 4 i) i else 0) → pM z q1 R A L F I y μ3 → wL_areSums_78 z (wL_areSums_18 z Q n) (wL_areSums_48 z (wL_areSums_18 z Q n) Q n') Q (some q1) (some q4) (nI k) a2 a3 a4 (nI i) a1 w μ3 := by
        intro w μ3 ew h3
        unfold wL_areSums_78
        intro u1 eu1
        refine l_topA h3 hT tk hi rfl ?_
        have s1' : u1 = y k + s64 (fun j => if cpar A I j = some k then sumF I A y (I 4 j) j else 0) (i + 1) := by
          have f1 : a1 = y k + s64 (fun j => if cpar A I j = some k then sumF I A y (I 4 j) j else 0) i := s1
          rw [eu1, f1, ew, Int64.add_assoc]
          rfl
        have ti := (hn.2.2.2.2.1 i hi).2.1
        refine ⟨fun g => ?_, fun g => ?_⟩
        · have ne : ¬ tI I i = k := fun e => g (by rw [e])
          intro u2 eu2
          rw [eu2, nI_s]
          have z0 : ∀ x : Int64, (if tI I i = k then x else 0) = 0 := fun x => if_neg ne
          refine ih' ((u1, a2, a3, a4), μ3) ⟨⟨s1', ?_, ?_, ?_⟩, h3⟩
          · show a2 = s64 _ i + (if tI I i = k then y i else 0)
            rw [z0, Int64.add_zero]; exact s2
          · show a3 = s64 _ i + (if tI I i = k then sweepF I A y i else 0)
            rw [z0, Int64.add_zero]; exact s3
          · show a4 = s64 _ i + (if tI I i = k then y (50 + i) else 0)
            rw [z0, Int64.add_zero]; exact s4
        · have e : tI I i = k := (ti_eq (by omega) (by omega)).mp g
          refine p_balance h3 hi rfl (fun μ4 h4 => ?_)
          intro u3 eu3
          refine p_afterSweep h4 v hi rfl (fun μ5 h5 => ?_)
          intro u4 eu4
          refine p_interestOf h5 hi rfl (fun μ6 h6 => ?_)
          intro u5 eu5 u6 eu6
          rw [eu6, nI_s]
          have z1 : ∀ x : Int64, (if tI I i = k then x else 0) = x := fun x => if_pos e
          refine ih' ((u1, u3, u4, u5), μ6) ⟨⟨s1', ?_, ?_, ?_⟩, h6⟩
          · show u3 = s64 _ i + (if tI I i = k then y i else 0)
            rw [z1, eu3, show a2 = _ from s2]
          · show u4 = s64 _ i + (if tI I i = k then sweepF I A y i else 0)
            rw [z1, eu4, show a3 = _ from s3]
          · show u5 = s64 _ i + (if tI I i = k then y (50 + i) else 0)
            rw [z1, eu5, show a4 = _ from s4]
      refine l_parent hm hT (show i < 10 by omega) rfl ?_
      rw [(tk.2.2.1 i hi).2]
      refine ⟨fun g => ?_, fun g => ?_⟩
      · exact go 0 _ (if_neg (fun e => g ((par_eq hn hi hk).mpr e))).symm hm
      · refine p_total hm hi rfl (fun μ3 h3 => ?_)
        exact go _ _ (if_pos ((par_eq hn hi hk).mp g)).symm h3
    · obtain ⟨⟨a1, a2, a3, a4⟩, μs⟩ := s
      obtain ⟨⟨s1, s2, s3, s4⟩, hm⟩ := hs'
      have f1 : a1 = sumF I A y (I 4 k) k := by rw [total_kids hn hk]; exact s1
      have f2 : a2 = ps A I k y := s2
      have f3 : a3 = ps A I k y := by rw [← ps_sweep (y := y) hn (p := k)]; exact s3
      have f4 : a4 = ps A I k (fun i => y (50 + i)) := s4
      show wL_areSums_48_b z (wL_areSums_18 z Q n) Q (wL_areSums_48 z (wL_areSums_18 z Q n) Q 0) (some q1) (some q4) (nI k) a1 a2 a3 a4 (nI A) μs
      unfold wL_areSums_48_b
      refine ⟨_, p_rd hm hT (j := 0) (by omega) (by omega) pk0, ?_⟩
      rw [tk.1]
      refine ⟨fun _ => ?_, fun g => absurd (nI_le (Nat.le_refl A) (by omega)) g⟩
      refine p_total hm hk rfl (fun μ3 h3 => ⟨fun g => absurd f1.symm g, fun _ => ?_⟩)
      refine p_poolOf h3 hk rfl (fun μ4 h4 => ?_)
      refine l_topA h4 hT tk hk rfl ?_
      refine ⟨fun g => absurd (hn.2.2.2.2.1 k hk).1 g, fun _ => ?_⟩
      refine p_afterSweep h4 v hk rfl (fun μ5 h5 => ?_)
      refine p_byMoves h5 v hk rfl (fun μ6 h6 => ⟨fun g => absurd rfl g, fun _ => ?_⟩)
      unfold wL_areSums_173
      refine ⟨fun g => absurd g (by decide), fun _ => ?_⟩
      refine l_parent h6 hT (show k < 10 by omega) rfl ?_
      rw [(tk.2.2.1 k hk).2]
      have nx : ∀ μ', pM z q1 R A L F I y μ' → ∀ u : Int32, u = 1 → ∀ w : Int32, w = nI k + 1 → wL_areSums_18 z Q n (some q1) (some q4) u w μ' := fun μ' h' u eu w ew => by
        rw [eu, ew, nI_s]
        exact ih μ' h'
      refine ⟨fun _ => nx _ h6, fun g => ?_⟩
      have h3 : I 3 k = -1 := by
        rcases hn.2.2.2.1 k hk with g2 | ⟨p, hp, g2⟩
        · exact g2
        · rw [g2] at g
          exact absurd (nI_pos' (by omega)) g
      have tp := total_pool (y := y) hn hk h3
      refine p_total h6 hk rfl (fun μ7 h7 => ⟨fun g => absurd (tp.trans f2.symm) g, fun _ => ⟨fun g => absurd (f3.trans f2.symm) g, fun _ => ?_⟩⟩)
      refine p_poolInterest h7 hk h3 rfl (fun μ8 h8 => ⟨fun g => absurd ?_ g, fun _ => nx _ h8⟩)
      rw [f4]
      exact (v.2.1.1 k ⟨hk, h3⟩).symm
  · show wL_areSums_18_b z Q (wL_areSums_18 z Q 0) (some q1) (some q4) 1 (nI A) s
    unfold wL_areSums_18_b
    refine ⟨_, p_rd hs hT (j := 0) (by omega) (by omega) pk0, ?_⟩
    rw [tk.1]
    exact ⟨fun _ => ⟨by decide, q s hs⟩, fun g => absurd (nI_le (Nat.le_refl A) (by omega)) g⟩
/-! ## exposures -/
theorem l_areExposed (h : pM z q1 R A L F I y μ) (hT : R q4 = some (tE T)) (tk : tOk A L I T) {Q : Int32 → jM → Prop} (q : ∀ μ', pM z q1 R A L F I y μ' → Q 1 μ') : wL_areExposed z (some q1) (some q4) μ Q := by
  have hn := p_cE h
  have hA := hn.1
  unfold wL_areExposed wL_areExposed_0
  intro v1 e1 v2 e2
  subst e1 e2
  rw [pk0]
  refine jforE (fun n k s => wL_areExposed_4 z Q n (some q1) (some q4) 1 (nI k) s) 4 (fun _ s => pM z q1 R A L F I y s) (fun n k s hk hs ih => ?_) (fun s hs => ?_) μ h
  · show wL_areExposed_4_b z Q (wL_areExposed_4 z Q n) (some q1) (some q4) 1 (nI k) s
    unfold wL_areExposed_4_b
    refine ⟨fun g => absurd g (nI_ge (b := 4) hk (by omega)), fun _ => ?_⟩
    intro v1 e1 v2 e2
    subst e1 e2
    rw [pk0]
    refine jforE (σ := Int64 × jM) (fun n' i s => wL_areExposed_15 z (wL_areExposed_4 z Q n) Q n' (some q1) (some q4) 1 (nI k) s.1 (nI i) s.2) A (fun i s => s.1 = itr (expS I y k) i 0 ∧ pM z q1 R A L F I y s.2) (fun n' i s hi hs' ih' => ?_) (fun s hs' => ?_) (0, s) ⟨rfl, hs⟩
    · obtain ⟨a1, μs⟩ := s
      obtain ⟨s1, hm⟩ := hs'
      have s1 : a1 = itr (expS I y k) i 0 := s1
      show wL_areExposed_15_b z (wL_areExposed_4 z Q n) Q (wL_areExposed_15 z (wL_areExposed_4 z Q n) Q n') (some q1) (some q4) 1 (nI k) a1 (nI i) μs
      unfold wL_areExposed_15_b
      refine ⟨_, p_rd hm hT (j := 0) (by omega) (by omega) pk0, ?_⟩
      rw [tk.1]
      refine ⟨fun g => absurd g (nI_ge hi (by omega)), fun _ => ?_⟩
      refine ⟨_, p_rd hm hT (show 2 * i + 2 < 64 by omega) (by omega) (i_mul2 i 2), ?_⟩
      rw [(tk.2.2.1 i hi).1]
      have st : itr (expS I y k) (i + 1) 0 = if I 5 i = nI k ∧ 0 < y i then itr (expS I y k) i 0 + y i else itr (expS I y k) i 0 := rfl
      refine ⟨fun g => ?_, fun g => ?_⟩
      · intro u1 eu1 u2 eu2
        rw [eu2, nI_s]
        refine ih' (u1, μs) ⟨?_, hm⟩
        show u1 = _
        rw [st, if_neg (fun w => g w.1), eu1, s1, Int64.add_zero]
      · refine p_balance hm hi rfl (fun μ3 h3 => ⟨fun g2 => ?_, fun g2 => ?_⟩)
        · intro u1 eu1 u2 eu2
          rw [eu2, nI_s]
          refine ih' (u1, μ3) ⟨?_, h3⟩
          show u1 = _
          rw [st, if_neg (fun w => absurd w.2 (Int64.not_lt.mpr g2)), eu1, s1, Int64.add_zero]
        · refine p_balance h3 hi rfl (fun μ4 h4 => ?_)
          intro u1 eu1 u2 eu2
          rw [eu2, nI_s]
          refine ih' (u1, μ4) ⟨?_, h4⟩
          show u1 = _
          rw [st, if_pos ⟨g, Int64.not_le.mp g2⟩, eu1, s1]
    · obtain ⟨a1, μs⟩ := s
      obtain ⟨s1, hm⟩ := hs'
      have s1 : a1 = expF I A y k := s1
      show wL_areExposed_15_b z (wL_areExposed_4 z Q n) Q (wL_areExposed_15 z (wL_areExposed_4 z Q n) Q 0) (some q1) (some q4) 1 (nI k) a1 (nI A) μs
      unfold wL_areExposed_15_b
      refine ⟨_, p_rd hm hT (j := 0) (by omega) (by omega) pk0, ?_⟩
      rw [tk.1]
      refine ⟨fun _ => ⟨fun g => absurd g (by decide), fun _ => ?_⟩, fun g => absurd (nI_le (Nat.le_refl A) (by omega)) g⟩
      refine p_exposure hm hk rfl (fun μ3 h3 => ⟨fun g => absurd s1.symm g, fun _ => ?_⟩)
      intro u1 eu1 u2 eu2
      rw [eu1, eu2, nI_s]
      exact ih μ3 h3
  · show wL_areExposed_4_b z Q (wL_areExposed_4 z Q 0) (some q1) (some q4) 1 (nI 4) s
    unfold wL_areExposed_4_b
    exact ⟨fun _ => ⟨by decide, q s hs⟩, fun g => absurd (by decide) g⟩
/-! ## lines -/
/-- drawn amounts, as ints -/
theorem dr_int (v : pV A L F I y c d) {l : Nat} (hl : l < L) : (y (70 + l)).toInt32.toInt = (y (70 + l)).toInt ∧ (y (70 + l)).toInt32.toInt64 = y (70 + l) ∧ 0 ≤ (y (70 + l)).toInt ∧ (y (70 + l)).toInt ≤ (I 12 l).toInt ∧ (I 12 l).toInt ≤ 10000000 := by
  obtain ⟨X, hv, -, -⟩ := v_st v
  obtain ⟨d1, d2, d3⟩ := hv.2.2.1.1.2.2.2.2 l hl
  have e1 : y (70 + l) = lN (y (70 + l)).toInt.toNat := lN_of d1
  have e2 : (y (70 + l)).toInt32 = nI (y (70 + l)).toInt.toNat := by
    have := lN_i (y (70 + l)).toInt.toNat
    rw [← e1] at this
    exact this
  have lt : (y (70 + l)).toInt.toNat < 2 ^ 31 := by omega
  refine ⟨by rw [e2, nI_toInt lt]; omega, ?_, d1, d2, d3⟩
  rw [e2, nI_l lt]
  exact e1.symm
theorem l_areLines (h : pM z q1 R A L F I y μ) (v : pV A L F I y c d) (hT : R q4 = some (tE T)) (tk : tOk A L I T) {Q : Int32 → jM → Prop} (q : ∀ μ', pM z q1 R A L F I y μ' → Q 1 μ') : wL_areLines z (some q1) (some q4) μ Q := by
  have hn := p_cE h
  have hL := hn.2.1
  unfold wL_areLines wL_areLines_0
  intro v1 e1 v2 e2
  subst e1 e2
  rw [pk0]
  refine jforE (fun n k s => wL_areLines_4 z Q n (some q1) (some q4) 1 (nI k) s) L (fun _ s => pM z q1 R A L F I y s) (fun n k s hk hs ih => ?_) (fun s hs => ?_) μ h
  · show wL_areLines_4_b z Q (wL_areLines_4 z Q n) (some q1) (some q4) 1 (nI k) s
    unfold wL_areLines_4_b
    refine ⟨_, p_rd hs hT (j := 1) (by omega) (by omega) rfl, ?_⟩
    rw [tk.2.1]
    refine ⟨fun g => absurd g (nI_ge hk (by omega)), fun _ => ⟨fun g => absurd g (by decide), fun _ => ?_⟩⟩
    obtain ⟨d1, d2, d3, d4, d5⟩ := dr_int v hk
    refine p_drawn hs hk rfl (fun μ1 h1 => ⟨fun g => ?_, fun _ => ?_⟩)
    · rw [Int32.lt_iff_toInt_lt, d1] at g
      have : (0 : Int32).toInt = 0 := by decide
      omega
    refine p_drawn h1 hk rfl (fun μ2 h2 => ?_)
    refine ⟨_, p_rd h2 hT (show 2 * k + 23 < 64 by omega) (by omega) (i_mul2 k 23), ?_⟩
    rw [(tk.2.2.2.2 k hk).2]
    refine ⟨fun g => ?_, fun _ => ?_⟩
    · rw [Int32.lt_iff_toInt_lt, d1] at g
      omega
    refine p_costOf h2 hk rfl (fun μ3 h3 => ⟨fun g => ?_, fun _ => ?_⟩)
    · rw [Int64.lt_iff_toInt_lt, i64_0] at g
      have := (v.2.1.2.2 k hk).1
      omega
    · intro u1 eu1 u2 eu2
      rw [eu1, eu2, nI_s]
      exact ih μ3 h3
  · show wL_areLines_4_b z Q (wL_areLines_4 z Q 0) (some q1) (some q4) 1 (nI L) s
    unfold wL_areLines_4_b
    refine ⟨_, p_rd hs hT (j := 1) (by omega) (by omega) rfl, ?_⟩
    rw [tk.2.1]
    exact ⟨fun _ => ⟨by decide, q s hs⟩, fun g => absurd (nI_le (Nat.le_refl L) (by omega)) g⟩
end LM
