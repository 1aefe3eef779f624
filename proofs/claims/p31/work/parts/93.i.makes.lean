/-! ===== the law: a step's calls ===== -/
section LI
variable {z : Nat × Nat} {q1 q4 q5 q7 : Nat} {R R' : jM} {A L F : Nat} {I I' : Nat → Nat → Int32} {y y' : Nat → Int64} {c d : Nat} {μ : jM} {T W : Nat → Int32} {S S' N : Nat → Int64}
theorem p_z (h : pM z q1 R A L F I y μ) : R z.1 = some jZ0 := by
  obtain ⟨ad, nm, K, k, μr, e1, hE, e2, hR, hz, h60⟩ := h
  exact hz
theorem p_wrI (h : pM z q1 R A L F I y μ) {a n j : Nat} {U : Nat → Int32} {x v : Int32} (ha : R a = some (.inl (0, n, .inl U))) (hz : a ≠ z.1) (hj : j < n) (hn : n < 2 ^ 31) (hx : x = nI j) {P : jM → Prop} (q : ∀ μ', pM z q1 (va_up R a (some (.inl (0, n, .inl (upd U j v))))) A L F I y μ' → P μ') : ∃ μ', jsi 0 μ (some a) x v = some μ' ∧ P μ' := by
  obtain ⟨μ', e, h'⟩ := p_wr (v := v) h ha hz hj hn hx
  exact ⟨μ', e, q μ' h'⟩
theorem wOk_c (e : I' 14 = I 14) (h : wOk I W) : wOk I' W := fun b hb => by rw [e]; exact h b hb
theorem tOk_c (e3 : I' 3 = I 3) (e5 : I' 5 = I 5) (e6 : I' 6 = I 6) (e7 : I' 7 = I 7) (e8 : I' 8 = I 8) (e11 : I' 11 = I 11) (e12 : I' 12 = I 12) (h : tOk A L I T) : tOk A L I' T := by
  unfold tOk
  rw [e3, e5, e6, e7, e8, e11, e12]
  exact h
/-! ## accounts -/
theorem tOk_A (a : aI A I I') (hA : A < 10) {b p : Int32} (e3 : I' 3 A = p) (e5 : I' 5 A = b) (h : tOk A L I T) : tOk (A + 1) L I' (upd (upd (upd T 0 (nI A + 1)) (2 * A + 2) b) (2 * A + 3) p) := by
  obtain ⟨t0, t1, t2, t3, t4⟩ := h
  have o : ∀ m, m ≠ 0 → m ≠ 2 * A + 2 → m ≠ 2 * A + 3 → upd (upd (upd T 0 (nI A + 1)) (2 * A + 2) b) (2 * A + 3) p m = T m := fun m h1 h2 h3 => by rw [upd_no h3, upd_no h2, upd_no h1]
  have rw6 : I' 6 = I 6 := a.2 6 (by decide) (by decide) (by decide) (by decide) (by decide)
  have rw7 : I' 7 = I 7 := a.2 7 (by decide) (by decide) (by decide) (by decide) (by decide)
  have rw8 : I' 8 = I 8 := a.2 8 (by decide) (by decide) (by decide) (by decide) (by decide)
  have rw11 : I' 11 = I 11 := a.2 11 (by decide) (by decide) (by decide) (by decide) (by decide)
  have rw12 : I' 12 = I 12 := a.2 12 (by decide) (by decide) (by decide) (by decide) (by decide)
  refine ⟨?_, ?_, fun k hk => ?_, fun k hk => ?_, fun l hl => ?_⟩
  · rw [upd_no (by omega), upd_no (by omega), upd_at, nI_s]
  · rw [o 1 (by omega) (by omega) (by omega), t1]
  · by_cases e : k = A
    · rw [e, upd_no (show 2 * A + 2 ≠ 2 * A + 3 by omega), upd_at, upd_at, e3, e5]
      exact ⟨rfl, rfl⟩
    · rw [o _ (by omega) (by omega) (by omega), o _ (by omega) (by omega) (by omega), a.1 5 k e, a.1 3 k e]
      exact t2 k (by omega)
  · rw [o _ (by omega) (by omega) (by omega), o _ (by omega) (by omega) (by omega), o _ (by omega) (by omega) (by omega), rw6, rw7, rw8]
    exact t3 k hk
  · rw [o _ (by omega) (by omega) (by omega), o _ (by omega) (by omega) (by omega), rw11, rw12]
    exact t4 l hl
theorem l_m36 (h : pM z q1 R A L F I y μ) (v : pV A L F I y c d) (hc : c < 512) (hA : A < 10) (h4z : q4 ≠ z.1) (hT : R q4 = some (tE T)) (tk : tOk A L I T) {a b : Nat} (ha : a < 2 ^ 31) (hb : b < 2 ^ 31) {x5 t0 : Int32} (ht : (¬ x5 = 0 ∧ t0 = -1) ∨ (x5 = 0 ∧ ∃ i, i < A ∧ t0 = nI i)) {Q : Int32 → jM → Prop} (q : ∀ R' I' T' μ', pM z q1 R' (A + 1) L F I' y μ' → R' q4 = some (tE T') → (∀ b, b ≠ q4 → R' b = R b) → tOk (A + 1) L I' T' → I' 14 = I 14 → pV (A + 1) L F I' y (c + 1) d → Q (nI A) μ') : wL_makes_36 z Q (some q1) (some q4) (nI a) (nI b) (nI A) x5 t0 μ := by
  have d10 : nI a / 10 = nI (a / 10) := dv_n (m := 10) ha (by omega) (by omega) rfl
  have d40 : nI a / 40 = nI (a / 40) := dv_n (m := 40) ha (by omega) (by omega) rfl
  have f40 : nI b / 40 = nI (b / 40) := dv_n (m := 40) hb (by omega) (by omega) rfl
  have a10 : a / 10 < 2 ^ 31 := by omega
  have a40 : a / 40 < 2 ^ 31 := by omega
  have b40 : b / 40 < 2 ^ 31 := by omega
  have r4 : nI (a / 10) - nI (a / 10) / 4 * 4 = nI (a / 10 % 4) := rm_n (m := 4) a10 (by omega) (by omega) rfl
  have r1 : nI (a / 40) - nI (a / 40) / 1001 * 1001 = nI (a / 40 % 1001) := rm_n (m := 1001) a40 (by omega) (by omega) rfl
  have r2 : nI (b / 40) - nI (b / 40) / 1001 * 1001 = nI (b / 40 % 1001) := rm_n (m := 1001) b40 (by omega) (by omega) rfl
  have l4 : a / 10 % 4 < 4 := Nat.mod_lt _ (by omega)
  have l1 : a / 40 % 1001 < 1001 := Nat.mod_lt _ (by omega)
  have l2 : b / 40 % 1001 < 1001 := Nat.mod_lt _ (by omega)
  unfold wL_makes_36
  rw [d10, d40, f40, r4, r1, r2]
  refine p_wrI h hT h4z (j := 0) (by omega) (by omega) pk0 (fun μ1 h1 => ?_)
  refine p_wrI h1 va_up_at h4z (show 2 * A + 2 < 64 by omega) (by omega) (i_mul2 A 2) (fun μ2 h2 => ?_)
  refine p_wrI h2 va_up_at h4z (show 2 * A + 3 < 64 by omega) (by omega) (i_mul2 A 3) (fun μ3 h3 => ?_)
  have oth : ∀ b, b ≠ q4 → va_up (va_up (va_up R q4 (some (tE (upd T 0 (nI A + 1))))) q4 (some (tE (upd (upd T 0 (nI A + 1)) (2 * A + 2) (nI (a / 10 % 4)))))) q4 (some (tE (upd (upd (upd T 0 (nI A + 1)) (2 * A + 2) (nI (a / 10 % 4))) (2 * A + 3) t0))) b = R b := fun b hb => by rw [va_up_no hb, va_up_no hb, va_up_no hb]
  have b4 : 0 ≤ nI (a / 10 % 4) ∧ nI (a / 10 % 4) ≤ 3 := ⟨nI_pos' (by omega), nI_le (b := 3) (by omega) (by omega)⟩
  refine ⟨fun g => ?_, fun g => ?_⟩
  · rcases ht with ⟨g2, -⟩ | ⟨-, i, hi, e⟩
    · exact absurd g g2
    · refine p_addAccount h3 v hc hA hi e b4 (fun μ4 h4 v4 => ?_)
      have aA : aI A I (addI A t0 (I 4 i) (nI (a / 10 % 4)) 0 0 I) := aI_add
      obtain ⟨e3, -, e5, -⟩ := addI_at (A := A) (I := I) (pr := t0) (tp := I 4 i) (bk := nI (a / 10 % 4)) (cr := 0) (db := 0)
      exact q _ _ _ μ4 h4 va_up_at oth (tOk_A aA hA e3 e5 tk) (aA.2 14 (by decide) (by decide) (by decide) (by decide) (by decide)) v4
  · rcases ht with ⟨-, e⟩ | ⟨g2, -⟩
    · refine p_addPool h3 v hc hA ⟨b4, ⟨nI_pos' (by omega), nI_le (b := 1000) (by omega) (by omega)⟩, ⟨nI_pos' (by omega), nI_le (b := 1000) (by omega) (by omega)⟩⟩ (fun μ4 h4 v4 => ?_)
      have aA : aI A I (addI A (-1) (nI A) (nI (a / 10 % 4)) (nI (a / 40 % 1001)) (nI (b / 40 % 1001)) I) := aI_add
      obtain ⟨e3, -, e5, -⟩ := addI_at (A := A) (I := I) (pr := -1) (tp := nI A) (bk := nI (a / 10 % 4)) (cr := nI (a / 40 % 1001)) (db := nI (b / 40 % 1001))
      exact q _ _ _ μ4 h4 va_up_at oth (tOk_A aA hA (e3.trans e.symm) e5 tk) (aA.2 14 (by decide) (by decide) (by decide) (by decide) (by decide)) v4
    · exact absurd g2 g
theorem l_makes (h : pM z q1 R A L F I y μ) (v : pV A L F I y c d) (hc : c < 512) (hA : A < 10) (h4z : q4 ≠ z.1) (hT : R q4 = some (tE T)) (tk : tOk A L I T) {a b : Nat} (ha : a < 2 ^ 31) (hb : b < 2 ^ 31) {Q : Int32 → jM → Prop} (q : ∀ R' I' T' μ', pM z q1 R' (A + 1) L F I' y μ' → R' q4 = some (tE T') → (∀ b, b ≠ q4 → R' b = R b) → tOk (A + 1) L I' T' → I' 14 = I 14 → pV (A + 1) L F I' y (c + 1) d → Q (nI A) μ') : wL_makes z (some q1) (some q4) (nI a) (nI b) μ Q := by
  unfold wL_makes wL_makes_0
  refine ⟨_, p_rd h hT (j := 0) (by omega) (by omega) pk0, ?_⟩
  rw [tk.1]
  have pool : wL_makes_16 z Q (some q1) (some q4) (nI a) (nI b) (nI A) μ := by
    unfold wL_makes_16 wL_makes_21
    exact ⟨fun g => absurd g (by decide), fun _ => l_m36 h v hc hA h4z hT tk ha hb (Or.inl ⟨by decide, rfl⟩) q⟩
  refine ⟨fun _ => pool, fun g => ⟨fun _ => ?_, fun _ => pool⟩⟩
  have a0 : 0 < A := Nat.pos_of_ne_zero (fun e => g (by rw [e]; rfl))
  unfold wL_makes_21
  refine ⟨fun _ => ⟨g, ?_⟩, fun g => absurd rfl g⟩
  rw [pk_rem ha a0 (by omega)]
  exact l_m36 h v hc hA h4z hT tk ha hb (Or.inr ⟨rfl, _, Nat.mod_lt _ a0, rfl⟩) q
/-! ## floors and rules -/
theorem rg_sub {r m : Nat} (hr : r ≤ 2 * m) (hm : m ≤ 1000000) : -1000000 ≤ nI r - nI m ∧ nI r - nI m ≤ 1000000 := by
  have t : (nI r - nI m).toInt = (r : Int) - m := by
    rw [Int32.toInt_sub, nI_toInt (by omega), nI_toInt (by omega)]
    exact Int.bmod_eq_of_le (by omega) (by omega)
  have c1 : (-1000000 : Int32).toInt = -1000000 := by decide
  have c2 : (1000000 : Int32).toInt = 1000000 := by decide
  rw [Int32.le_iff_toInt_le, Int32.le_iff_toInt_le, t, c1, c2]
  omega
theorem tOk_S {T' : Nat → Int32} (hA : A ≤ 10) (hL : L ≤ 6) (e3 : I' 3 = I 3) (e5 : I' 5 = I 5) (e11 : I' 11 = I 11) (e12 : I' 12 = I 12) (ho : ∀ m, m < 34 → T' m = T m) (h6 : ∀ k, k < 10 → T' (34 + 3 * k) = I' 6 k ∧ T' (35 + 3 * k) = I' 7 k ∧ T' (36 + 3 * k) = I' 8 k) (h : tOk A L I T) : tOk A L I' T' := by
  obtain ⟨t0, t1, t2, t3, t4⟩ := h
  refine ⟨(ho 0 (by omega)).trans t0, (ho 1 (by omega)).trans t1, fun k hk => ?_, h6, fun l hl => ?_⟩
  · rw [ho _ (by omega), ho _ (by omega), e5, e3]
    exact t2 k hk
  · rw [ho _ (by omega), ho _ (by omega), e11, e12]
    exact t4 l hl
theorem l_t46 (h : pM z q1 R A L F I y μ) (v : pV A L F I y c d) (hc : c < 512) (h4z : q4 ≠ z.1) (hT : R q4 = some (tE T)) (tk : tOk A L I T) {i : Nat} (hi : i < A) {t0 : Int32} (ht : -1000000 ≤ t0 ∧ t0 ≤ 1000000) {Q : Int32 → jM → Prop} (q : ∀ R' I' T' μ', pM z q1 R' A L F I' y μ' → R' q4 = some (tE T') → (∀ b, b ≠ q4 → R' b = R b) → tOk A L I' T' → I' 14 = I 14 → pV A L F I' y (c + 1) d → Q 1 μ') : wL_sets_46 z Q (some q1) (some q4) (nI i) t0 μ := by
  have hn := p_cE h
  have hA := hn.1
  have hL := hn.2.1
  unfold wL_sets_46
  refine ⟨_, p_rd h hT (show 36 + 3 * i < 64 by omega) (by omega) (i_mul3 i 36), ?_⟩
  refine p_wrI h hT h4z (show 36 + 3 * i < 64 by omega) (by omega) (i_mul3 i 36) (fun μ1 h1 => ?_)
  refine p_setFloor h1 v hc hi rfl ht (fun μ2 h2 v2 => ⟨fun g => absurd (tk.2.2.2.1 i (by omega)).2.2.symm g, fun _ => ?_⟩)
  refine q _ _ _ μ2 h2 va_up_at (fun b hb => va_up_no hb) (tOk_S hA hL (upR_o (by decide)) (upR_o (by decide)) (upR_o (by decide)) (upR_o (by decide)) (fun m hm => upd_no (by omega)) (fun k hk => ?_) tk) (upR_o (by decide)) v2
  obtain ⟨t1, t2, t3⟩ := tk.2.2.2.1 k hk
  rw [upd_no (by omega), upd_no (by omega), upR_o (show 6 ≠ 8 by decide), upR_o (show 7 ≠ 8 by decide), upR_at]
  refine ⟨t1, t2, ?_⟩
  by_cases e : k = i
  · rw [e, upd_at, upd_at]
  · rw [upd_no (by omega), upd_no e]
    exact t3
theorem l_t29 (h : pM z q1 R A L F I y μ) (v : pV A L F I y c d) (hc : c < 512) (h4z : q4 ≠ z.1) (hT : R q4 = some (tE T)) (tk : tOk A L I T) {i b : Nat} (hi : i < A) (hb : b < 2 ^ 31) {t0 : Int32} (ht : -1000000 ≤ t0 ∧ t0 ≤ 1000000) {Q : Int32 → jM → Prop} (q : ∀ R' I' T' μ', pM z q1 R' A L F I' y μ' → R' q4 = some (tE T') → (∀ b, b ≠ q4 → R' b = R b) → tOk A L I' T' → I' 14 = I 14 → pV A L F I' y (c + 1) d → Q 1 μ') : wL_sets_29 z Q (some q1) (some q4) (nI i) (nI b) t0 μ := by
  have hn := p_cE h
  have hA := hn.1
  have hL := hn.2.1
  have d3 : nI b / 3 = nI (b / 3) := dv_n (m := 3) hb (by omega) (by omega) rfl
  have b3 : b / 3 < 2 ^ 31 := by omega
  have r4 : nI (b / 3) - nI (b / 3) / 4 * 4 = nI (b / 3 % 4) := rm_n (m := 4) b3 (by omega) (by omega) rfl
  have l4 : b / 3 % 4 < 4 := Nat.mod_lt _ (by omega)
  unfold wL_sets_29
  rw [d3, r4]
  refine ⟨fun _ => l_t46 h v hc h4z hT tk hi ht q, fun _ => ?_⟩
  refine l_parent h hT (show i < 10 by omega) rfl ?_
  rw [(tk.2.2.1 i hi).2]
  refine ⟨fun g => ?_, fun _ => l_t46 h v hc h4z hT tk hi ht q⟩
  have n3 : ¬ I 3 i = -1 := fun e => by rw [e] at g; exact absurd g (by decide)
  refine ⟨_, p_rd h hT (show 34 + 3 * i < 64 by omega) (by omega) (i_mul3 i 34), ?_⟩
  refine p_wrI h hT h4z (show 34 + 3 * i < 64 by omega) (by omega) (i_mul3 i 34) (fun μ1 h1 => ?_)
  refine p_wrI h1 va_up_at h4z (show 35 + 3 * i < 64 by omega) (by omega) (i_mul3 i 35) (fun μ2 h2 => ?_)
  refine p_setRule h2 v hc hi rfl ⟨⟨nI_pos' (by omega), nI_le (b := 3) (by omega) (by omega)⟩, ht⟩ n3 (fun μ3 h3 v3 => ⟨fun g => absurd (tk.2.2.2.1 i (by omega)).1.symm g, fun _ => ?_⟩)
  have ro : ∀ r, r ≠ 6 → r ≠ 7 → upR (upR I 6 (upd (I 6) i (nI (b / 3 % 4)))) 7 (upd (I 7) i t0) r = I r := fun r g6 g7 => (upR_o g7).trans (upR_o g6)
  refine q _ _ _ μ3 h3 va_up_at (fun b hb => by rw [va_up_no hb, va_up_no hb]) (tOk_S hA hL (ro 3 (by decide) (by decide)) (ro 5 (by decide) (by decide)) (ro 11 (by decide) (by decide)) (ro 12 (by decide) (by decide)) (fun m hm => (upd_no (by omega)).trans (upd_no (by omega))) (fun k hk => ?_) tk) (ro 14 (by decide) (by decide)) v3
  obtain ⟨t1, t2, t3⟩ := tk.2.2.2.1 k hk
  rw [ro 8 (by decide) (by decide), upR_at, upR_o (show 6 ≠ 7 by decide), upR_at, upd_no (show 36 + 3 * k ≠ 35 + 3 * i by omega), upd_no (show 36 + 3 * k ≠ 34 + 3 * i by omega), upd_no (show 34 + 3 * k ≠ 35 + 3 * i by omega)]
  by_cases e : k = i
  · rw [e, upd_at, upd_at, upd_at, upd_at]
    rw [e] at t3
    exact ⟨rfl, rfl, t3⟩
  · rw [upd_no (show 34 + 3 * k ≠ 34 + 3 * i by omega), upd_no (show 35 + 3 * k ≠ 35 + 3 * i by omega), upd_no (show 35 + 3 * k ≠ 34 + 3 * i by omega), upd_no e, upd_no e]
    exact ⟨t1, t2, t3⟩
theorem l_sets (h : pM z q1 R A L F I y μ) (v : pV A L F I y c d) (hc : c < 512) (h4z : q4 ≠ z.1) (hT : R q4 = some (tE T)) (tk : tOk A L I T) {i a b : Nat} (hi : i < A) (ha : a < 2 ^ 31) (hb : b < 2 ^ 31) {Q : Int32 → jM → Prop} (q : ∀ R' I' T' μ', pM z q1 R' A L F I' y μ' → R' q4 = some (tE T') → (∀ b, b ≠ q4 → R' b = R b) → tOk A L I' T' → I' 14 = I 14 → pV A L F I' y (c + 1) d → Q 1 μ') : wL_sets z (some q1) (some q4) (nI i) (nI a) (nI b) μ Q := by
  have d3 : nI a / 3 = nI (a / 3) := dv_n (m := 3) ha (by omega) (by omega) rfl
  have a3 : a / 3 < 2 ^ 31 := by omega
  have r1 : nI (a / 3) - nI (a / 3) / 2001 * 2001 = nI (a / 3 % 2001) := rm_n (m := 2001) a3 (by omega) (by omega) rfl
  have r2 : nI (a / 3) - nI (a / 3) / 2000001 * 2000001 = nI (a / 3 % 2000001) := rm_n (m := 2000001) a3 (by omega) (by omega) rfl
  have l1 : a / 3 % 2001 < 2001 := Nat.mod_lt _ (by omega)
  have l2 : a / 3 % 2000001 < 2000001 := Nat.mod_lt _ (by omega)
  unfold wL_sets wL_sets_0
  rw [d3, r1, r2]
  exact ⟨fun _ => l_t29 h v hc h4z hT tk hi hb (rg_sub (m := 1000) (by omega) (by omega)) q, fun _ => l_t29 h v hc h4z hT tk hi hb (rg_sub (m := 1000000) (by omega) (by omega)) q⟩
/-! ## lines -/
theorem l_b62 {i b r : Nat} (h : pM z q1 R A L F I y μ) (v : pV A L F I y c d) (hc : c < 512) (hL : L < 6) (h4z : q4 ≠ z.1) (hT : R q4 = some (tE (upd (upd T 1 (nI L + 1)) (2 * L + 22) (nI (tI I i))))) (tk : tOk A L I T) (hi : i < A) (hb : b < 2 ^ 31) (hr : r < 10000000) {t1 : Int32} (e1 : t1 = 2 * nI L + 23) {Q : Int32 → jM → Prop} (q : ∀ R' I' T' μ', pM z q1 R' A (L + 1) F I' y μ' → R' q4 = some (tE T') → (∀ b, b ≠ q4 → R' b = R b) → tOk A (L + 1) I' T' → I' 14 = I 14 → pV A (L + 1) F I' y (c + 1) d → Q 1 μ') : wL_borrows_62 z Q (some q1) (some q4) (nI i) (nI b) (nI L) (some q4) t1 1 (nI r) μ := by
  have hn := p_cE h
  have hA := hn.1
  subst e1
  have d2 : nI b / 2 = nI (b / 2) := dv_n (m := 2) hb (by omega) (by omega) rfl
  have b2 : b / 2 < 2 ^ 31 := by omega
  have r1 : nI (b / 2) - nI (b / 2) / 1001 * 1001 = nI (b / 2 % 1001) := rm_n (m := 1001) b2 (by omega) (by omega) rfl
  have l1 : b / 2 % 1001 < 1001 := Nat.mod_lt _ (by omega)
  have er : (1 : Int32) + nI r = nI (1 + r) := nI_add 1 r
  obtain ⟨tt, t3⟩ := hn.top i hi
  obtain ⟨k0, k1, k2, k3, k4⟩ := tk
  unfold wL_borrows_62
  rw [d2, r1, er]
  refine p_wrI h hT h4z (show 2 * L + 23 < 64 by omega) (by omega) (i_mul2 L 23) (fun μ1 h1 => ?_)
  have o : ∀ m, m ≠ 1 → m ≠ 2 * L + 22 → m ≠ 2 * L + 23 → upd (upd (upd T 1 (nI L + 1)) (2 * L + 22) (nI (tI I i))) (2 * L + 23) (nI (1 + r)) m = T m := fun m g1 g2 g3 => by rw [upd_no g3, upd_no g2, upd_no g1]
  refine l_topT h1 va_up_at (fun k hk => by rw [o _ (by omega) (by omega) (by omega)]; exact (k2 k hk).2) hi rfl ?_
  refine ⟨_, p_rd h1 va_up_at (show 2 * L + 23 < 64 by omega) (by omega) (i_mul2 L 23), ?_⟩
  rw [upd_at]
  refine p_addLine h1 v hc hL tt rfl t3 ⟨⟨nI_le (a := 1) (by omega) (by omega), nI_le (b := 10000000) (by omega) (by omega)⟩, ⟨nI_pos' (by omega), nI_le (b := 1000) (by omega) (by omega)⟩⟩ (fun μ2 h2 v2 => ⟨fun g => absurd rfl g, fun _ => ?_⟩)
  have ro : ∀ r', r' ≠ 11 → r' ≠ 12 → r' ≠ 13 → lnI I L (nI (tI I i)) (nI (1 + r)) (nI (b / 2 % 1001)) r' = I r' := fun r' g1 g2 g3 => lnI_ro g1 g2 g3
  refine q _ _ _ μ2 h2 va_up_at (fun b hb => va_up_no hb) ⟨?_, ?_, fun k hk => ?_, fun k hk => ?_, fun l hl => ?_⟩ (ro 14 (by decide) (by decide) (by decide)) v2
  · rw [o 0 (by omega) (by omega) (by omega), k0]
  · rw [upd_no (by omega), upd_no (by omega), upd_at, nI_s]
  · rw [o _ (by omega) (by omega) (by omega), o _ (by omega) (by omega) (by omega), ro 5 (by decide) (by decide) (by decide), ro 3 (by decide) (by decide) (by decide)]
    exact k2 k hk
  · rw [o _ (by omega) (by omega) (by omega), o _ (by omega) (by omega) (by omega), o _ (by omega) (by omega) (by omega), ro 6 (by decide) (by decide) (by decide), ro 7 (by decide) (by decide) (by decide), ro 8 (by decide) (by decide) (by decide)]
    exact k3 k hk
  · by_cases e : l = L
    · obtain ⟨r11, r12, -⟩ := lnI_at (I := I) (L := L) (x := nI (tI I i)) (x2 := nI (1 + r)) (x3 := nI (b / 2 % 1001))
      rw [e, upd_no (show 2 * L + 22 ≠ 2 * L + 23 by omega), upd_at, upd_at, r11, r12]
      exact ⟨rfl, rfl⟩
    · rw [o _ (by omega) (by omega) (by omega), o _ (by omega) (by omega) (by omega), lnI_no e, lnI_no e]
      exact k4 l (by omega)
theorem l_borrows (h : pM z q1 R A L F I y μ) (v : pV A L F I y c d) (hc : c < 512) (h4z : q4 ≠ z.1) (hT : R q4 = some (tE T)) (tk : tOk A L I T) {i a b : Nat} (hi : i < A) (ha : a < 2 ^ 31) (hb : b < 2 ^ 31) {Q : Int32 → jM → Prop} (q0 : Q 1 μ) (q : ∀ R' I' T' μ', pM z q1 R' A (L + 1) F I' y μ' → R' q4 = some (tE T') → (∀ b, b ≠ q4 → R' b = R b) → tOk A (L + 1) I' T' → I' 14 = I 14 → pV A (L + 1) F I' y (c + 1) d → Q 1 μ') : wL_borrows z (some q1) (some q4) (nI i) (nI a) (nI b) μ Q := by
  have hn := p_cE h
  have hA := hn.1
  have hL := hn.2.1
  have r1 : nI a - nI a / 500000 * 500000 = nI (a % 500000) := rm_n (m := 500000) ha (by omega) (by omega) rfl
  have r2 : nI a - nI a / 10000000 * 10000000 = nI (a % 10000000) := rm_n (m := 10000000) ha (by omega) (by omega) rfl
  have l1 : a % 500000 < 500000 := Nat.mod_lt _ (by omega)
  have l2 : a % 10000000 < 10000000 := Nat.mod_lt _ (by omega)
  unfold wL_borrows wL_borrows_0
  rw [r1, r2]
  refine ⟨_, p_rd h hT (j := 1) (by omega) (by omega) rfl, ?_⟩
  rw [tk.2.1]
  refine ⟨fun g => ?_, fun _ => q0⟩
  have L6 : L ≠ 6 := fun e => g (by rw [e]; rfl)
  refine p_wrI h hT h4z (j := 1) (by omega) (by omega) rfl (fun μ1 h1 => ?_)
  refine l_topT h1 va_up_at (fun k hk => by rw [upd_no (by omega)]; exact (tk.2.2.1 k hk).2) hi rfl ?_
  refine p_wrI h1 va_up_at h4z (show 2 * L + 22 < 64 by omega) (by omega) (i_mul2 L 22) (fun μ2 h2 => ?_)
  have q' : ∀ R' I' T' μ', pM z q1 R' A (L + 1) F I' y μ' → R' q4 = some (tE T') → (∀ b, b ≠ q4 → R' b = va_up (va_up R q4 (some (tE (upd T 1 (nI L + 1))))) q4 (some (tE (upd (upd T 1 (nI L + 1)) (2 * L + 22) (nI (tI I i))))) b) → tOk A (L + 1) I' T' → I' 14 = I 14 → pV A (L + 1) F I' y (c + 1) d → Q 1 μ' := fun R' I' T' μ' g1 g2 g3 g4 g5 g6 => q R' I' T' μ' g1 g2 (fun b hb => by rw [g3 b hb, va_up_no hb, va_up_no hb]) g4 g5 g6
  exact ⟨fun _ => l_b62 h2 v hc (by omega) h4z va_up_at tk hi hb (by omega) rfl q', fun _ => l_b62 h2 v hc (by omega) h4z va_up_at tk hi hb (by omega) rfl q'⟩
end LI
