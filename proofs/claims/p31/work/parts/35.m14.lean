/-! ===== the reference: settlement days from a day on, after sweeping ===== -/
/-- nothing changed beyond the reference's longs -/
def far (y y' : Nat → Int64) : Prop := ∀ i, 109 ≤ i → y' i = y i
theorem far_refl {y : Nat → Int64} : far y y := fun _ _ => rfl
theorem far_tr {a b c : Nat → Int64} (h1 : far a b) (h2 : far b c) : far a c := fun i hi => (h2 i hi).trans (h1 i hi)
theorem far_u {y y' : Nat → Int64} {k : Nat} {v : Int64} (hk : k < 109) (h : far y y') : far y (vp_updL y' k v) := fun i hi => by rw [pk_uLn (by omega)]; exact h i hi
theorem far_itr {f : Nat → (Nat → Int64) → Nat → Int64} {y : Nat → Int64} : ∀ N, (∀ k y', k < N → far y' (f k y')) → far y (itr f N y)
  | 0, _ => far_refl
  | N + 1, h => far_tr (far_itr N (fun k y' hk => h k y' (by omega))) (h N _ (by omega))
theorem far_itd {f : Nat → (Nat → Int64) → Nat → Int64} : ∀ N (y : Nat → Int64), (∀ k y', k < N → far y' (f k y')) → far y (itd f N y)
  | 0, _, _ => far_refl
  | N + 1, y, h => far_tr (h N y (by omega)) (far_itd N (f N y) (fun k y' hk => h k y' (by omega)))
theorem cp_back {y y' o : Nat → Int64} (h : far y y') : cpF (cpF y o) y' = y := by
  funext i
  unfold cpF
  by_cases hi : i < 109
  · simp [hi]
  · simp only [hi, if_false]
    exact h i (by omega)
theorem far_mov {a b : Nat} {v : Int64} {y : Nat → Int64} (ha : a < 10) (hb : b < 10) : far y (movF a b v y) := by
  unfold movF
  exact far_u (by omega) (far_u (by omega) far_refl)
theorem far_sweep {A : Nat} {I : Nat → Nat → Int32} {y : Nat → Int64} (hA10 : A ≤ 10) (hp : parOk A I) : far y (sweepF I A y) := by
  refine far_tr (far_itd A y (fun k y' hk => ?_)) (far_itr A (fun k y' hk => ?_))
  · unfold upS
    split
    · rename_i c
      have := pI_lt hp hA10 hk c.1
      exact far_mov (by omega) (by omega)
    · exact far_refl
  · unfold dnS
    split
    · rename_i c
      have := pI_lt hp hA10 hk c.1
      exact far_mov (by omega) (by omega)
    · exact far_refl
section M14
variable {ad nm : Nat → Nat} {n : Nat → Int32} {I : Nat → Nat → Int32} {J : Nat → Nat → Int64} {μ0 : jM} {z : Nat × Nat} {A Ln F : Nat}
end M14
