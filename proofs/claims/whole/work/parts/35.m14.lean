/-! ===== the reference: settlement days from a day on, after sweeping ===== -/
/-- nothing changed beyond the reference's longs -/
def far (y y' : Nat → Int64) : Prop := ∀ i, 109 ≤ i → y' i = y i
theorem far_refl {y : Nat → Int64} : far y y := fun _ _ => rfl
theorem far_tr {a b c : Nat → Int64} (h1 : far a b) (h2 : far b c) : far a c := fun i hi => (h2 i hi).trans (h1 i hi)
theorem far_u {y y' : Nat → Int64} {k : Nat} {v : Int64} (hk : k < 109) (h : far y y') : far y (vp_updL y' k v) := fun i hi => by rw [pk_uLn (by omega)]; exact h i hi
theorem far_itr {f : Nat → (Nat → Int64) → Nat → Int64} {y : Nat → Int64} : ∀ N, (∀ k y', k < N → far y' (f k y')) → far y (itr f N y)
  | 0, _ => far_refl
  | N + 1, h => far_tr (far_itr N (fun k y' hk => h k y' (by omega))) (h N _ (by omega))
theorem far_itd {f : Nat → (Nat → Int64) → Nat → Int64} : ∀ N (y : Nat → Int64), (∀ k y', k < N → far y' (f k y')) → far y (itd f N y)
  | 0, _, _ => far_refl
  | N + 1, y, h => far_tr (h N y (by omega)) (far_itd N (f N y) (fun k y' hk => h k y' (by omega)))
theorem cp_back {y y' o : Nat → Int64} (h : far y y') : cpF (cpF y o) y' = y := by
  funext i
  unfold cpF
  by_cases hi : i < 109
  · simp [hi]
  · simp only [hi, if_false]
    exact h i (by omega)
theorem far_mov {a b : Nat} {v : Int64} {y : Nat → Int64} (ha : a < 10) (hb : b < 10) : far y (movF a b v y) := by
  unfold movF
  exact far_u (by omega) (far_u (by omega) far_refl)
theorem far_sweep {A : Nat} {I : Nat → Nat → Int32} {y : Nat → Int64} (hA10 : A ≤ 10) (hp : parOk A I) : far y (sweepF I A y) := by
  refine far_tr (far_itd A y (fun k y' hk => ?_)) (far_itr A (fun k y' hk => ?_))
  · unfold upS
    split
    · rename_i c
      have := pI_lt hp hA10 hk c.1
      exact far_mov (by omega) (by omega)
    · exact far_refl
  · unfold dnS
    split
    · rename_i c
      have := pI_lt hp hA10 hk c.1
      exact far_mov (by omega) (by omega)
    · exact far_refl
section M14
variable {ad nm : Nat → Nat} {n : Nat → Int32} {I : Nat → Nat → Int32} {J : Nat → Nat → Int64} {μ0 : jM} {z : Nat × Nat} {A Ln F : Nat}
theorem m_settles (h : mOk ad nm) {x : Int32} {d : Nat} (hx : x = nI d) (hd : d < 2 ^ 31) {Q : Int32 → jM → Prop} (q : Q (oI (stlF I (451 - d) d)) (mM ad nm n I J μ0)) : wX10_settles z (ad 0) x (mM ad nm n I J μ0) Q := by
  unfold wX10_settles wX10_settles_0
  subst hx
  have all : ∀ f d, 451 - d = f → d < 2 ^ 31 → Q (oI (stlF I f d)) (mM ad nm n I J μ0) → ∃ c, wX10_settles_2 z (ad 0) Q c (nI d) (mM ad nm n I J μ0) := by
    intro f
    induction f with
    | zero =>
      intro d hf hd q
      refine ⟨1, ?_⟩
      show wX10_settles_2_b z (ad 0) Q (wX10_settles_2 z (ad 0) Q 0) _ _
      unfold wX10_settles_2_b wX10_settles_23
      have hlt : (450 : Int32) < nI d := nI_lt (a := 450) (by omega) hd
      exact ⟨fun _ => ⟨fun _ => q, fun c => absurd hlt c⟩, fun c => absurd hlt c⟩
    | succ f ih =>
      intro d hf hd q
      have hle : ¬ (450 : Int32) < nI d := nI_nlt (a := 450) (by omega) (by omega)
      have e0 : nI d + 1 = nI (d + 1) := nI_1 d
      unfold stlF at q
      cases hs : stF I d with
      | true =>
        rw [hs, if_pos rfl] at q
        refine ⟨1, ?_⟩
        show wX10_settles_2_b z (ad 0) Q (wX10_settles_2 z (ad 0) Q 0) _ _
        unfold wX10_settles_2_b wX10_settles_23
        refine ⟨fun c => absurd c hle, fun _ => ⟨mhere h, m_isSettlement h rfl (Or.inl (by omega)) ⟨fun _ => ⟨fun c => absurd c hle, fun _ => q⟩, fun c => ?_⟩⟩⟩
        rw [hs] at c
        exact absurd c (by decide)
      | false =>
        rw [hs, if_neg (by decide)] at q
        obtain ⟨c, w⟩ := ih (d + 1) (by omega) (by omega) q
        refine ⟨c + 1, ?_⟩
        show wX10_settles_2_b z (ad 0) Q (wX10_settles_2 z (ad 0) Q c) _ _
        unfold wX10_settles_2_b
        simp only [e0, Option.some.injEq, Value.int.injEq, Value.long.injEq, jrf_inj, jrf_ref, jrf_null, exists_eq_left, exists_eq_left', exists_eq_right, forall_eq, forall_eq', and_true, true_and, not_true_eq_false, not_false_eq_true, false_and, and_false, true_implies, implies_true, false_implies]
        refine ⟨fun c => absurd c hle, fun _ => ⟨mhere h, m_isSettlement h rfl (Or.inl (by omega)) ⟨fun c => ?_, fun _ => w⟩⟩⟩
        rw [hs] at c
        exact absurd rfl c
  exact all _ d rfl hd q
theorem m_swept (h : mOk ad nm) (hA : n 0 = nI A) (hA10 : A ≤ 10) (hp : parOk A I) {x : Int32} {k : Nat} (hx : x = nI k) (hk : k < 10) {Q : Int64 → jM → Prop} (q : Q (sweepF I A (J 1) k) (mM ad nm n I (upR J 2 (cpF (J 1) (J 2))) μ0)) : wX10_swept z (ad 0) x (mM ad nm n I J μ0) Q := by
  unfold wX10_swept wX10_swept_0
  subst hx
  refine ⟨mhere h, m_keep h ⟨mhere h, m_sweep h hA hA10 hp ?_⟩⟩
  have e1 : (0 : Int32) + nI k = nI k := Int32.zero_add _
  have r1 : ∀ g : Nat → Int64, upR J 2 g 1 = J 1 := fun g => if_neg (by decide)
  rw [r1]
  simp only [mg3 h, mJu h (show k < 109 by omega) e1, Option.some.injEq, Value.int.injEq, Value.long.injEq, jrf_inj, jrf_ref, jrf_null, exists_eq_left, exists_eq_left', exists_eq_right, forall_eq, forall_eq', and_true, true_and, not_true_eq_false, not_false_eq_true, false_and, and_false, true_implies, implies_true, false_implies]
  refine ⟨mhere h, m_goBack h ?_⟩
  have r2 : ∀ g g' : Nat → Int64, upR (upR J 2 g) 1 g' 2 = g := fun g g' => rfl
  have r3 : ∀ g g' : Nat → Int64, upR (upR J 2 g) 1 g' 1 = g' := fun g g' => rfl
  rw [r2, r3, upR_tw, cp_back (far_sweep hA10 hp)]
  have r4 : ∀ g : Nat → Int64, upR (upR J 2 g) 1 (J 1) = upR J 2 g := by
    intro g
    funext j
    by_cases h : j = 1
    · subst h; rfl
    · simp [upR, h]
  rw [r4]
  exact q
end M14
