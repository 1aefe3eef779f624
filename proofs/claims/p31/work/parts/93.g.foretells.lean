/-! ===== the law: what is foretold ===== -/
section LF
variable {z : Nat × Nat} {q1 q4 q5 q7 : Nat} {R R' : jM} {A L F : Nat} {I : Nat → Nat → Int32} {y y' : Nat → Int64} {c d : Nat} {μ : jM} {T W : Nat → Int32} {S S' N : Nat → Int64}
/-- the first day with a balance below 0, within f more days -/
theorem sh_or {s : (Nat → Int64) × (Nat → Int64)} {i : Nat} : ∀ f t, (shF I A L F d s i f t = -1 ∧ ∀ j, t ≤ j → j < t + f → 0 ≤ (dyF I A L F d s j).1 i) ∨ ∃ j, t ≤ j ∧ j < t + f ∧ shF I A L F d s i f t = nI j ∧ ¬ 0 ≤ (dyF I A L F d s j).1 i ∧ ∀ j', t ≤ j' → j' < j → 0 ≤ (dyF I A L F d s j').1 i
  | 0, t => Or.inl ⟨rfl, fun j h1 h2 => by omega⟩
  | f + 1, t => by
    unfold shF
    by_cases c : 0 ≤ (dyF I A L F d s t).1 i
    · rw [if_pos c]
      rcases sh_or f (t + 1) with ⟨h1, h2⟩ | ⟨j, h1, h2, h3, h4, h5⟩
      · refine Or.inl ⟨h1, fun j g1 g2 => ?_⟩
        by_cases e : j = t
        · rw [e]; exact c
        · exact h2 j (by omega) (by omega)
      · refine Or.inr ⟨j, by omega, by omega, h3, h4, fun j' g1 g2 => ?_⟩
        by_cases e : j' = t
        · rw [e]; exact c
        · exact h5 j' (by omega) g2
    · rw [if_neg c]
      exact Or.inr ⟨t, Nat.le_refl t, by omega, rfl, c, fun j' g1 g2 => by omega⟩
theorem sh_none {s : (Nat → Int64) × (Nat → Int64)} {i f t : Nat} (h : ∀ j, t ≤ j → j < t + f → 0 ≤ (dyF I A L F d s j).1 i) : shF I A L F d s i f t = -1 := by
  rcases sh_or (I := I) (A := A) (L := L) (F := F) (d := d) (s := s) (i := i) f t with ⟨h1, -⟩ | ⟨j, h1, h2, -, h4, -⟩
  · exact h1
  · exact absurd (h j h1 h2) h4
/-- what is foretold of the first k -/
def pF (z : Nat × Nat) (q1 q7 : Nat) (R : jM) (A L F : Nat) (I : Nat → Nat → Int32) (y N : Nat → Int64) (k : Nat) (μ : jM) : Prop :=
  ∃ R' M, ext R R' ∧ R' q7 = some (lE M) ∧ (∀ j, j < k → M j = N j) ∧ pM z q1 R' A L F I y μ
theorem l_f207 (hz : R z.1 = some jZ0) (h : pF z q1 q7 R A L F I y y A μ) (hT : R q4 = some (tE T)) (tk : tOk A L I T) {Q : Int32 → jM → Prop} (q : ∀ μ', pM z q1 R A L F I y μ' → Q 1 μ') {x6 x8 : Int32} (e6 : x6 = 1) (e8 : x8 = 0) : ∃ n, wL_foretells_207 z Q n (some q1) (some q4) x6 (some q7) x8 μ := by
  subst e6 e8
  rw [pk0]
  refine jforE (fun n k s => wL_foretells_207 z Q n (some q1) (some q4) 1 (some q7) (nI k) s) A (fun _ s => pF z q1 q7 R A L F I y y A s) (fun n k s hk hs ih => ?_) (fun s hs => ?_) μ h
  · obtain ⟨R', M, x, a7, m, hm⟩ := hs
    have hA := (p_cE hm).1
    show wL_foretells_207_b z Q (wL_foretells_207 z Q n) (some q1) (some q4) 1 (some q7) (nI k) s
    unfold wL_foretells_207_b
    refine ⟨_, p_rd hm (x _ _ hT) (j := 0) (by omega) (by omega) pk0, ?_⟩
    rw [tk.1]
    refine ⟨fun g => absurd g (nI_ge hk (by omega)), fun _ => ⟨fun g => absurd g (by decide), fun _ => ?_⟩⟩
    refine p_balance hm hk rfl (fun μ2 h2 => ?_)
    refine ⟨_, p_rdL h2 a7 (show k < 10 by omega) (by omega) rfl, ?_⟩
    rw [m k hk]
    refine ⟨fun g => absurd rfl g, fun _ v10 e10 v11 e11 => ?_⟩
    rw [e10, e11, nI_s]
    exact ih μ2 ⟨R', M, x, a7, m, h2⟩
  · obtain ⟨R', M, x, a7, m, hm⟩ := hs
    have hA := (p_cE hm).1
    show wL_foretells_207_b z Q (wL_foretells_207 z Q 0) (some q1) (some q4) 1 (some q7) (nI A) s
    unfold wL_foretells_207_b
    refine ⟨_, p_rd hm (x _ _ hT) (j := 0) (by omega) (by omega) pk0, ?_⟩
    rw [tk.1]
    exact ⟨fun _ => ⟨by decide, q s (p_less hm x hz)⟩, fun g => absurd (nI_le (Nat.le_refl A) (by omega)) g⟩
theorem l_f152 {t : Nat} (h1 : 1 ≤ t) (h2 : t ≤ 60) (h3 : d + t ≤ 400) (hz : R z.1 = some jZ0) (r7 : R q7 = none) (h : pF z q1 q7 R A L F I y (dyF I A L F d (y, fun _ => 0) t).1 0 μ) (v : pV A L F I y c d) (hc : c < 512) (hT : R q4 = some (tE T)) (tk : tOk A L I T) {Q : Int32 → jM → Prop} (q : ∀ y' μ', pM z q1 R A L F I y' μ' → pV A L F I y' (c + 1) (d + t) → Q 1 μ') {x8 : Int32} (e8 : x8 = 0) : ∃ n, wL_foretells_152 z Q n (some q1) (some q4) (nI t) 1 (some q7) x8 μ := by
  subst e8
  rw [pk0]
  refine jforE (fun n k s => wL_foretells_152 z Q n (some q1) (some q4) (nI t) 1 (some q7) (nI k) s) A (fun k s => pF z q1 q7 R A L F I y (dyF I A L F d (y, fun _ => 0) t).1 k s) (fun n k s hk hs ih => ?_) (fun s hs => ?_) μ h
  · obtain ⟨R', M, x, a7, m, hm⟩ := hs
    have hA := (p_cE hm).1
    show wL_foretells_152_b z Q (wL_foretells_152 z Q n) (some q1) (some q4) (nI t) 1 (some q7) (nI k) s
    unfold wL_foretells_152_b
    refine ⟨_, p_rd hm (x _ _ hT) (j := 0) (by omega) (by omega) pk0, ?_⟩
    rw [tk.1]
    refine ⟨fun g => absurd g (nI_ge hk (by omega)), fun _ => ?_⟩
    refine p_forecast hm v hk rfl (t := t) rfl h1 h2 (fun μ2 g2 => ?_)
    refine p_wrE g2 x hz r7 a7 (show k < 10 by omega) rfl (fun μ3 R2 g3 x2 b7 o2 v21 e21 => ?_)
    rw [e21, nI_s]
    refine ih μ3 ⟨R2, _, x2, b7, fun j hj => ?_, g3⟩
    by_cases e : j = k
    · rw [e, pk_uLs]
    · rw [pk_uLn e]
      exact m j (by omega)
  · obtain ⟨R', M, x, a7, m, hm⟩ := hs
    have hA := (p_cE hm).1
    show wL_foretells_152_b z Q (wL_foretells_152 z Q 0) (some q1) (some q4) (nI t) 1 (some q7) (nI A) s
    unfold wL_foretells_152_b
    refine ⟨_, p_rd hm (x _ _ hT) (j := 0) (by omega) (by omega) pk0, ?_⟩
    rw [tk.1]
    refine ⟨fun _ => ⟨fun g => absurd g (by decide), fun _ => ?_⟩, fun g => absurd (nI_le (Nat.le_refl A) (by omega)) g⟩
    refine p_passDays hm v hc (t := t) rfl h1 h2 h3 (fun μ2 g2 v2 => ?_)
    refine p_today g2 v2 (fun μ3 g3 => ⟨fun g => absurd rfl g, fun _ v14 e14 v15 e15 => ?_⟩)
    exact l_f207 hz ⟨R', M, x, a7, m, g3⟩ hT tk (fun μ' h' => q _ μ' h' v2) e14 e15
theorem l_f132 {t : Nat} (h2 : t ≤ 60) (h3 : d + t ≤ 400) (hz : R z.1 = some jZ0) (h : pM z q1 R A L F I y μ) (v : pV A L F I y c d) (hc : c < 512) (hT : R q4 = some (tE T)) (tk : tOk A L I T) {Q : Int32 → jM → Prop} (q : ∀ y' d' c' μ', c' ≤ c + 1 → pM z q1 R A L F I y' μ' → pV A L F I y' c' d' → Q 1 μ') : wL_foretells_132 z Q (some q1) (some q4) (nI t) 1 μ := by
  unfold wL_foretells_132
  refine ⟨fun g q7 n7 v2 e2 => ?_, fun _ => ⟨by decide, q _ _ _ μ (by omega) h v⟩⟩
  have h1 : 1 ≤ t := (nI_le_iff (a := 1) (by omega) (by omega)).mp g
  obtain ⟨h6, r7⟩ := p_new (e := lE (fun _ => 0)) h n7
  exact l_f152 h1 h2 h3 hz r7 ⟨_, fun _ => 0, ext_new r7, va_up_at, fun j hj => by omega, h6⟩ v hc hT tk (fun y' μ' h' v' => q _ _ _ μ' (Nat.le_refl _) h' v') e2
theorem l_foretells {p t : Nat} {x2 x3 : Int32} (hp : p < A) (hp3 : I 3 p = -1) (ep : x2 = nI p) (et : x3 = nI t) (h1 : 1 ≤ t) (h2 : t ≤ 60) (h : pM z q1 R A L F I y μ) (hz : R z.1 = some jZ0) (v : pV A L F I y c d) (hc : c < 512) (hT : R q4 = some (tE T)) (tk : tOk A L I T) {Q : Int32 → jM → Prop} (q : ∀ y' d' c' μ', c' ≤ c + 1 → pM z q1 R A L F I y' μ' → pV A L F I y' c' d' → Q 1 μ') : wL_foretells z (some q1) (some q4) x2 x3 μ Q := by
  subst ep et
  have hA := (p_cE h).1
  have dd := v_d v
  have ge0 : ∀ {v1 : Int64}, 0 ≤ v1 → ¬ v1 < 0 := fun h g => by
    rw [Int64.lt_iff_toInt_lt] at g
    rw [Int64.le_iff_toInt_le] at h
    omega
  -- at the number of days that can pass
  have go : ∀ (m : Nat) (μ2 : jM), m ≤ 60 → d + m ≤ 400 → pM z q1 R A L F I y μ2 → wL_foretells_24 z Q (some q1) (some q4) (nI p) (nI t) (nI m) μ2 := by
    intro m μ2 m1 m2 hm
    unfold wL_foretells_24
    refine p_daysToShort hm v hp hp3 rfl rfl h1 h2 (fun μ3 h3 => ?_)
    rcases sh_or (I := I) (A := A) (L := L) (F := F) (d := d) (s := (y, fun _ => 0)) (i := p) t 1 with ⟨g1, g2⟩ | ⟨j, j1, j2, j3, j4, j5⟩
    · rw [g1]
      refine ⟨fun _ => ?_, fun g => absurd rfl g⟩
      unfold wL_foretells_83 wL_foretells_88
      refine ⟨fun g => absurd g (by decide), fun _ => ⟨fun g => absurd rfl g, fun _ => ?_⟩⟩
      refine p_forecast h3 v hp rfl rfl h1 h2 (fun μ4 h4 => ⟨fun g => absurd g (ge0 (g2 t (by omega) (by omega))), fun _ => ?_⟩)
      have eh : (1 : Int32) + nI t / 2 = nI (1 + t / 2) := by
        rw [show (2 : Int32) = nI 2 from rfl, pk_div (by omega) (by omega) (by omega), show (1 : Int32) = nI 1 from rfl, nI_add]
      refine p_forecast h4 v hp rfl eh (by omega) (by omega) (fun μ5 h5 => ⟨fun g => absurd g (ge0 (g2 (1 + t / 2) (by omega) (by omega))), fun _ => ?_⟩)
      unfold wL_foretells_127
      exact l_f132 m1 m2 hz h5 v hc hT tk q
    · have jn : ¬ nI j = (-1 : Int32) := n1_neg (by omega)
      have j83 : ∀ μ', pM z q1 R A L F I y μ' → wL_foretells_83 z Q (some q1) (some q4) (nI p) (nI t) (nI m) (nI j) μ' := fun μ' h' => by
        unfold wL_foretells_83 wL_foretells_88
        refine ⟨fun g => absurd g (by decide), fun _ => ⟨fun _ => ?_, fun g => absurd g jn⟩⟩
        unfold wL_foretells_127
        exact l_f132 m1 m2 hz h' v hc hT tk q
      rw [j3]
      refine ⟨fun g => absurd g jn, fun _ => ⟨fun g => absurd g (nI_nlt (a := j) (b := 1) j1 (by omega)), fun _ => ⟨fun g => absurd g (nI_nlt (a := t) (b := j) (by omega) (by omega)), fun _ => ?_⟩⟩⟩
      refine p_forecast h3 v hp rfl rfl j1 (by omega) (fun μ4 h4 => ⟨fun g => absurd g j4, fun _ => ⟨fun _ => j83 μ4 h4, fun gj => ?_⟩⟩)
      have j0 : j ≠ 1 := fun e => gj (by rw [e]; rfl)
      have ej : nI j - 1 = nI (j - 1) := nI_sub2 (b := 1) j1
      refine p_daysToShort h4 v hp hp3 rfl ej (by omega) (by omega) (fun μ5 h5 => ?_)
      rw [sh_none (fun j' a b => j5 j' a (by omega))]
      exact ⟨fun g => absurd rfl g, fun _ => j83 μ5 h5⟩
  unfold wL_foretells wL_foretells_0
  refine p_today h v (fun μ2 g2 => ?_)
  have e4 : (400 : Int32) - nI d = nI (400 - d) := nI_sub2 (a := 400) dd
  rw [e4]
  refine ⟨fun g => ?_, fun g => ?_⟩
  · have : t ≤ 400 - d := (nI_le_iff (by omega) (by omega)).mp g
    exact go t μ2 h2 (by omega) g2
  · have : ¬ t ≤ 400 - d := fun w => g ((nI_le_iff (by omega) (by omega)).mpr w)
    refine p_today g2 v (fun μ3 g3 => ?_)
    rw [e4]
    exact go (400 - d) μ3 (by omega) (by omega) g3
end LF
