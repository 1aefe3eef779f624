/-! ===== a holiday more, both sides ===== -/
def hcS (I : Nat → Nat → Int32) (d : Nat) (s : Int32) : Int32 := s + bI1 (stF I d)
def hcF (I : Nat → Nat → Int32) : Int32 := itr (hcS I) 451 0
theorem nar1 : vp_nar .boolean (1 : Int32) = 1 := by decide
section HO
variable {z : Nat × Nat} {ad : Nat × Nat → Nat} {nm : Nat → Nat × Nat} {A L F : Nat} {I : Nat → Nat → Int32} {K : Nat → Nat → Int64} {k : Nat → Nat → Int32} {μ0 : jM} {y : Nat → Int64}
theorem c_countSettling (h : cE ad nm A L F I) {Q : Int32 → jM → Prop} (q : Q (hcF I) (cM z ad nm A L F I y K k μ0)) : wX2_countSettling z (ad (2, 0)) (cM z ad nm A L F I y K k μ0) Q := by
  unfold wX2_countSettling wX2_countSettling_0
  intro v1 e1 v2 e2
  subst e1
  subst e2
  refine jfor (fun f j s => wX2_countSettling_4 z (ad (2, 0)) Q f s (nI j) (cM z ad nm A L F I y K k μ0)) 451 (hcS I) 0 ?_ ?_
  · intro f j hj hw
    generalize itr (hcS I) j 0 = s at hw ⊢
    show wX2_countSettling_4_b z (ad (2, 0)) Q (wX2_countSettling_4 z (ad (2, 0)) Q f) s (nI j) _
    unfold wX2_countSettling_4_b
    refine ⟨fun w => absurd (show nI 450 < nI j from w) (nI_nlt (by omega) (by omega)), fun _ => ⟨ch2 h.1, c_settles h rfl (Or.inl (by omega)) ?_⟩⟩
    unfold hcS at hw
    refine ⟨fun w => ?_, fun w => ?_⟩
    · intro v3 e3
      rw [w, Int32.add_zero] at hw
      rw [e3, nI_1]
      exact hw
    · intro v4 e4 v5 e5
      have e : bI1 (stF I j) = 1 := by
        revert w
        cases stF I j with
        | true => intro _; rfl
        | false => intro w; exact absurd rfl w
      rw [e] at hw
      rw [e4, e5, nI_1]
      exact hw
  · show wX2_countSettling_4_b z (ad (2, 0)) Q (wX2_countSettling_4 z (ad (2, 0)) Q 0) _ (nI 451) _
    unfold wX2_countSettling_4_b
    exact ⟨fun _ => q, fun w => absurd (show (450 : Int32) < nI 451 by decide) w⟩
theorem c_addHoliday (h : cE ad nm A L F I) {x : Int32} {Q : Int32 → jM → Prop} {E : String → jM → Prop} (q : ∀ d, d ≤ 450 → x = nI d → Q (hcF (upR I 20 (upd (I 20) d 1))) (cM z ad nm A L F (upR I 20 (upd (I 20) d 1)) y K k μ0)) (e : ¬ (0 ≤ x ∧ x ≤ 450) → E "java/lang/IllegalArgumentException" (cM z ad nm A L F I y K k μ0)) : wX9_addHoliday z (ad (0, 0)) x (cM z ad nm A L F I y K k μ0) Q E := by
  unfold wX9_addHoliday wX9_addHoliday_0
  refine c_within (fun v => ?_) e
  obtain ⟨d, hd, ed⟩ := nI_of2 (M := 450) (n := 450) rfl (Int32.not_lt.mpr v.1) v.2
  have q' := q d hd ed
  subst ed
  refine ⟨_, cg0_0 h.1, _, cg1_5 h.1, _, ⟨rfl, ch2 h.1⟩, ?_⟩
  unfold wX2_markHoliday wX2_markHoliday_0
  refine ⟨fun w => absurd w (nI_pos (by omega)), fun _ => ⟨_, cg2_0 h.1, 451, jal_at (ca3 h.1) (by decide), fun w => absurd (show nI 451 ≤ nI d from w) (nI_ge (by omega) (by omega)), fun _ => ⟨_, cg2_0 h.1, _, cw3 h (by omega) rfl, ?_⟩⟩⟩
  rw [nar1]
  have h' : cE ad nm A L F (upR I 20 (upd (I 20) d 1)) := cE_I (sI_up (by omega)) (fun i hi => by rw [upR_oj (by decide)]; exact h.2.2.2.2.2.2.2.2.2 i hi) h
  exact ⟨_, cg0_0 h'.1, _, cg1_5 h'.1, _, ⟨rfl, ch2 h'.1⟩, c_countSettling h' q'⟩
end HO
section MH
variable {ad nm : Nat → Nat} {n : Nat → Int32} {I : Nat → Nat → Int32} {J : Nat → Nat → Int64} {μ0 : jM} {z : Nat × Nat}
end MH
