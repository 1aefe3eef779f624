/-! ===== the law: settled ===== -/
def wOk (I : Nat → Nat → Int32) (W : Nat → Int32) : Prop := ∀ b, b < 4 → W b = I 14 b ∧ (I 14 b = -1 ∨ 0 ≤ (I 14 b).toInt)
section LE
variable {z : Nat × Nat} {q1 q4 q5 : Nat} {R : jM} {A L F : Nat} {I : Nat → Nat → Int32} {y : Nat → Int64} {c d : Nat} {μ : jM} {T W : Nat → Int32}
theorem lim_neg {x : Int32} (h : x = -1 ∨ 0 ≤ x.toInt) (g : x < 0) : x = -1 := by
  rcases h with h | h
  · exact h
  · rw [Int32.lt_iff_toInt_lt] at g
    have : (0 : Int32).toInt = 0 := by decide
    omega
theorem lim_n1 {x : Int32} (g : ¬ x < 0) : ¬ x = -1 := fun e => g (by rw [e]; decide)
theorem lim_le {x : Int32} {v : Int64} : x.toInt64 ≤ v ↔ x.toInt ≤ v.toInt := by rw [Int64.le_iff_toInt_le, Int32.toInt_toInt64]
theorem lim_ge {x : Int32} {v : Int64} : v ≤ x.toInt64 ↔ v.toInt ≤ x.toInt := by rw [Int64.le_iff_toInt_le, Int32.toInt_toInt64]
theorem l_isSettled (h : pM z q1 R A L F I y μ) (v : pV A L F I y c d) (hT : R q4 = some (tE T)) (tk : tOk A L I T) (hW : R q5 = some (wE W)) (wk : wOk I W) (sd : sdV A L I y) {Q : Int32 → jM → Prop} (q : ∀ μ', pM z q1 R A L F I y μ' → Q 1 μ') : wL_isSettled z (some q1) (some q4) (some q5) μ Q := by
  have hn := p_cE h
  have hA := hn.1
  have hL := hn.2.1
  unfold wL_isSettled wL_isSettled_0
  intro v1 e1 v2 e2
  subst e1 e2
  rw [pk0]
  refine jforE (fun n k s => wL_isSettled_5 z Q n (some q1) (some q4) (some q5) 1 (nI k) s) A (fun _ s => pM z q1 R A L F I y s) (fun n k s hk hs ih => ?_) (fun s hs => ?_) μ h
  · show wL_isSettled_5_b z Q (wL_isSettled_5 z Q n) (some q1) (some q4) (some q5) 1 (nI k) s
    have ak := hn.2.2.2.2.1 k hk
    have lines : ∀ μ2, pM z q1 R A L F I y μ2 → ∀ v7 : Int32, v7 = 0 → ∃ n8, wL_isSettled_168 z (wL_isSettled_5 z Q n) Q n8 (some q1) (some q4) (some q5) 1 (nI k) v7 μ2 := by
      intro μ2 h2 v7 e7
      subst e7
      rw [pk0]
      refine jforE (fun n' l s => wL_isSettled_168 z (wL_isSettled_5 z Q n) Q n' (some q1) (some q4) (some q5) 1 (nI k) (nI l) s) L (fun _ s => pM z q1 R A L F I y s) (fun n' l s hl hs' ih' => ?_) (fun s hs' => ?_) μ2 h2
      · show wL_isSettled_168_b z (wL_isSettled_5 z Q n) Q (wL_isSettled_168 z (wL_isSettled_5 z Q n) Q n') (some q1) (some q4) (some q5) 1 (nI k) (nI l) s
        have nx : ∀ μ', pM z q1 R A L F I y μ' → ∀ u : Int32, u = 1 → ∀ w : Int32, w = nI l + 1 → wL_isSettled_168 z (wL_isSettled_5 z Q n) Q n' (some q1) (some q4) (some q5) u (nI k) w μ' := fun μ' h' u eu w ew => by
          rw [eu, ew, nI_s]
          exact ih' μ' h'
        obtain ⟨e11, pA, -⟩ := hn.2.2.2.2.2.2.1 l hl
        unfold wL_isSettled_168_b
        refine ⟨_, p_rd hs' hT (j := 1) (by omega) (by omega) rfl, ?_⟩
        rw [tk.2.1]
        refine ⟨fun g => absurd g (nI_ge hl (by omega)), fun _ => ⟨fun g => absurd g (by decide), fun _ => ?_⟩⟩
        refine ⟨_, p_rd hs' hT (show 2 * l + 22 < 64 by omega) (by omega) (i_mul2 l 22), ?_⟩
        rw [(tk.2.2.2.2 l hl).1]
        refine ⟨fun _ => nx _ hs', fun g => ?_⟩
        have ep : pL I l = k := (ti_eq (by omega) (by omega)).mp (e11.symm.trans g)
        refine p_balance hs' hk rfl (fun μ3 h3 => ⟨fun _ => nx _ h3, fun g1 => ?_⟩)
        have dr := sd.2 l hl
        rw [ep] at dr
        have dr : (y (70 + l)).toInt = (I 12 l).toInt := by
          rcases dr with dr | dr
          · exact absurd (Int64.le_iff_toInt_le.mpr (by rw [i64_0]; exact dr)) g1
          · exact dr
        refine p_drawn h3 hl rfl (fun μ4 h4 => ?_)
        refine ⟨_, p_rd h4 hT (show 2 * l + 23 < 64 by omega) (by omega) (i_mul2 l 23), ?_⟩
        rw [(tk.2.2.2.2 l hl).2]
        exact ⟨fun g2 => absurd (Int32.toInt_inj.mp ((dr_int v hl).1.trans dr)) g2, fun _ => nx _ h4⟩
      · show wL_isSettled_168_b z (wL_isSettled_5 z Q n) Q (wL_isSettled_168 z (wL_isSettled_5 z Q n) Q 0) (some q1) (some q4) (some q5) 1 (nI k) (nI L) s
        unfold wL_isSettled_168_b
        refine ⟨_, p_rd hs' hT (j := 1) (by omega) (by omega) rfl, ?_⟩
        rw [tk.2.1]
        refine ⟨fun _ v2 e2 => ?_, fun g => absurd (nI_le (Nat.le_refl L) (by omega)) g⟩
        rw [e2, nI_s]
        exact ih _ hs'
    have go : ∀ (x6 : Int32) (μ2 : jM), (¬ x6 = 0 → 0 < (y k).toInt ∧ ¬ I 14 (bI I k) = -1 ∧ (I 14 (bI I k)).toInt < (expF I A y (bI I k)).toInt) → pM z q1 R A L F I y μ2 → ∀ v7 : Int32, v7 = 0 → ∃ n8, wL_isSettled_66 z (wL_isSettled_5 z Q n) Q n8 (some q1) (some q4) (some q5) 1 (nI k) x6 v7 μ2 := by
      intro x6 μ2 hx6 h2 v7 e7
      subst e7
      rw [pk0]
      refine jforE (fun n' i s => wL_isSettled_66 z (wL_isSettled_5 z Q n) Q n' (some q1) (some q4) (some q5) 1 (nI k) x6 (nI i) s) A (fun _ s => pM z q1 R A L F I y s) (fun n' i s hi hs' ih' => ?_) (fun s hs' => ?_) μ2 h2
      · show wL_isSettled_66_b z (wL_isSettled_5 z Q n) Q (wL_isSettled_66 z (wL_isSettled_5 z Q n) Q n') (some q1) (some q4) (some q5) 1 (nI k) x6 (nI i) s
        have ai := hn.2.2.2.2.1 i hi
        have nx : ∀ μ', pM z q1 R A L F I y μ' → ∀ u : Int32, u = 1 → ∀ w : Int32, w = nI i + 1 → wL_isSettled_66 z (wL_isSettled_5 z Q n) Q n' (some q1) (some q4) (some q5) u (nI k) x6 w μ' := fun μ' h' u eu w ew => by
          rw [eu, ew, nI_s]
          exact ih' μ' h'
        have off : ∀ μ', pM z q1 R A L F I y μ' → wL_isSettled_136 z (wL_isSettled_5 z Q n) (wL_isSettled_66 z (wL_isSettled_5 z Q n) Q n') Q (some q1) (some q4) (some q5) 1 (nI k) x6 (nI i) μ' := fun μ' h' => by
          unfold wL_isSettled_136 wL_isSettled_137
          exact ⟨fun g => absurd g (by decide), fun _ => ⟨fun _ => nx μ' h', fun _ => ⟨fun g => absurd rfl g, fun _ => nx μ' h'⟩⟩⟩
        have on : ∀ μ', pM z q1 R A L F I y μ' → x6 = 0 → wL_isSettled_132 z (wL_isSettled_5 z Q n) (wL_isSettled_66 z (wL_isSettled_5 z Q n) Q n') Q (some q1) (some q4) (some q5) 1 (nI k) x6 (nI i) μ' := fun μ' h' g0 => by
          unfold wL_isSettled_132 wL_isSettled_137
          exact ⟨fun g => absurd g (by decide), fun _ => ⟨fun _ => nx μ' h', fun g => absurd g0 g⟩⟩
        unfold wL_isSettled_66_b
        refine ⟨_, p_rd hs' hT (j := 0) (by omega) (by omega) pk0, ?_⟩
        rw [tk.1]
        refine ⟨fun g => absurd g (nI_ge hi (by omega)), fun _ => ?_⟩
        refine ⟨_, p_rd hs' hT (show 2 * i + 2 < 64 by omega) (by omega) (i_mul2 i 2), ?_⟩
        rw [(tk.2.2.1 i hi).1]
        refine l_topA hs' hT tk hi rfl ?_
        refine l_topA hs' hT tk hk rfl ?_
        refine ⟨fun _ => off _ hs', fun g => ?_⟩
        have et : tI I i = tI I k := (ti_eq (by omega) (by omega)).mp g
        refine p_balance hs' hi rfl (fun μ3 h3 => ⟨fun _ => off _ h3, fun g1 => ?_⟩)
        have n0 : 0 ≤ (y i).toInt := by
          have : ¬ (y i).toInt < 0 := fun w => g1 (Int64.lt_iff_toInt_lt.mpr (by rw [i64_0]; exact w))
          omega
        have bi : bI I i < 4 := ai.2.2.2
        have no : (I 14 (bI I i) = -1 ∨ (expF I A y (bI I i)).toInt < (I 14 (bI I i)).toInt) → x6 = 0 := fun w => by
          refine Classical.byContradiction (fun g2 => ?_)
          obtain ⟨a1, a2, a3⟩ := hx6 g2
          exact sd.1 k i hk hi et a1 a2 a3 n0 w
        refine ⟨_, p_rd h3 hW bi (by omega) ai.2.2.1, ?_⟩
        rw [(wk _ bi).1]
        refine ⟨fun g2 => on _ h3 (no (Or.inl (lim_neg (wk _ bi).2 g2))), fun g2 => ?_⟩
        refine p_exposure h3 bi ai.2.2.1 (fun μ4 h4 => ?_)
        refine ⟨_, p_rd h4 hW bi (by omega) ai.2.2.1, ?_⟩
        rw [(wk _ bi).1]
        refine ⟨fun _ => off _ h4, fun g3 => on _ h4 (no (Or.inr ?_))⟩
        rw [lim_le] at g3
        omega
      · show wL_isSettled_66_b z (wL_isSettled_5 z Q n) Q (wL_isSettled_66 z (wL_isSettled_5 z Q n) Q 0) (some q1) (some q4) (some q5) 1 (nI k) x6 (nI A) s
        unfold wL_isSettled_66_b
        refine ⟨_, p_rd hs' hT (j := 0) (by omega) (by omega) pk0, ?_⟩
        rw [tk.1]
        exact ⟨fun _ => lines _ hs', fun g => absurd (nI_le (Nat.le_refl A) (by omega)) g⟩
    have bk : bI I k < 4 := ak.2.2.2
    unfold wL_isSettled_5_b
    refine ⟨_, p_rd hs hT (j := 0) (by omega) (by omega) pk0, ?_⟩
    rw [tk.1]
    refine ⟨fun g => absurd g (nI_ge hk (by omega)), fun _ => ?_⟩
    refine ⟨_, p_rd hs hT (show 2 * k + 2 < 64 by omega) (by omega) (i_mul2 k 2), ?_⟩
    rw [(tk.2.2.1 k hk).1]
    have no0 : ¬ (0 : Int32) = 0 → 0 < (y k).toInt ∧ ¬ I 14 (bI I k) = -1 ∧ (I 14 (bI I k)).toInt < (expF I A y (bI I k)).toInt := fun g => absurd rfl g
    refine p_balance hs hk rfl (fun μ3 h3 => ⟨fun _ v6 e6 => by rw [e6]; exact go 0 μ3 no0 h3, fun g1 => ?_⟩)
    have p0 : 0 < (y k).toInt := by
      have : ¬ (y k).toInt ≤ 0 := fun w => g1 (Int64.le_iff_toInt_le.mpr (by rw [i64_0]; exact w))
      omega
    refine ⟨_, p_rd h3 hW bk (by omega) ak.2.2.1, ?_⟩
    rw [(wk _ bk).1]
    refine ⟨fun _ v6 e6 => by rw [e6]; exact go 0 μ3 no0 h3, fun g2 => ?_⟩
    refine p_exposure h3 bk ak.2.2.1 (fun μ4 h4 => ?_)
    refine ⟨_, p_rd h4 hW bk (by omega) ak.2.2.1, ?_⟩
    rw [(wk _ bk).1]
    refine ⟨fun _ v6 e6 => by rw [e6]; exact go 0 μ4 no0 h4, fun g3 v6 e6 => ?_⟩
    rw [e6]
    refine go 1 μ4 (fun _ => ⟨p0, lim_n1 g2, ?_⟩) h4
    rw [lim_ge] at g3
    omega
  · show wL_isSettled_5_b z Q (wL_isSettled_5 z Q 0) (some q1) (some q4) (some q5) 1 (nI A) s
    unfold wL_isSettled_5_b
    refine ⟨_, p_rd hs hT (j := 0) (by omega) (by omega) pk0, ?_⟩
    rw [tk.1]
    exact ⟨fun _ => ⟨by decide, q s hs⟩, fun g => absurd (nI_le (Nat.le_refl A) (by omega)) g⟩
end LE
