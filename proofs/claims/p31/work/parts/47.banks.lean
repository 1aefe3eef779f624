/-! ===== the class: exposures, who gives, who gets, easing ===== -/
/-! numbers without overflow -/
theorem i64_sub {a b : Int64} (h1 : -9223372036854775808 ≤ a.toInt - b.toInt) (h2 : a.toInt - b.toInt ≤ 9223372036854775807) : (a - b).toInt = a.toInt - b.toInt := by
  rw [Int64.toInt_sub, Int.bmod_eq_of_le] <;> omega
theorem i64_add {a b : Int64} (h1 : -9223372036854775808 ≤ a.toInt + b.toInt) (h2 : a.toInt + b.toInt ≤ 9223372036854775807) : (a + b).toInt = a.toInt + b.toInt := by
  rw [Int64.toInt_add, Int.bmod_eq_of_le] <;> omega
theorem i64_neg {a : Int64} (h1 : -9223372036854775807 ≤ a.toInt) : (-a).toInt = -a.toInt := by
  have := Int64.toInt_lt a
  rw [Int64.toInt_neg, Int.bmod_eq_of_le] <;> omega
theorem i64_i32 (x : Int32) : -2147483648 ≤ x.toInt64.toInt ∧ x.toInt64.toInt ≤ 2147483647 := by
  rw [Int32.toInt_toInt64]
  have h1 := Int32.le_toInt x
  have h2 := Int32.toInt_lt x
  omega
theorem i64_0 : (0 : Int64).toInt = 0 := by decide
theorem mx_le (x : Int64) : (if (0 : Int64) < x then x else 0) = (if 0 ≤ x then x else 0) := by
  by_cases h : (0 : Int64) < x
  · rw [if_pos h, if_pos (Int64.le_of_lt h)]
  · rw [if_neg h]
    split
    · rename_i h2; exact Int64.le_antisymm h2 (Int64.not_lt.mp h)
    · rfl
/-- exposures are not below 0, and no more than is likely -/
def exOk (I : Nat → Nat → Int32) (A : Nat) (y : Nat → Int64) : Prop := ∀ b, b < 4 → 0 ≤ (expF I A y b).toInt ∧ (expF I A y b).toInt ≤ 1125899906842624
def rmC (I : Nat → Nat → Int32) (A : Nat) (y : Nat → Int64) (B : Nat) : Int64 := if I 14 B = -1 then 4611686018427387904 else if 0 ≤ (I 14 B).toInt64 - expF I A y B then (I 14 B).toInt64 - expF I A y B else 0
theorem rm_fin {I : Nat → Nat → Int32} {A : Nat} {y : Nat → Int64} (hx : exOk I A y) {B : Nat} (hB : B < 4) (hn : ¬ I 14 B = -1) : rmC I A y B = rmF I A y B ∧ 0 ≤ (rmF I A y B).toInt ∧ (rmF I A y B).toInt ≤ 2147483647 := by
  have h1 := hx B hB
  have h2 := i64_i32 (I 14 B)
  unfold rmC rmF
  rw [if_neg hn, if_neg hn]
  refine ⟨rfl, ?_⟩
  split
  · rename_i h
    have h := Int64.le_iff_toInt_le.mp h
    rw [i64_0] at h
    rw [i64_sub (by omega) (by omega)] at h ⊢
    omega
  · rw [i64_0]; omega
theorem rm_end {I : Nat → Nat → Int32} {A : Nat} {y : Nat → Int64} {B : Nat} (hn : I 14 B = -1) : rmC I A y B = 4611686018427387904 ∧ rmF I A y B = 4000000000000000000 := by
  unfold rmC rmF
  rw [if_pos hn, if_pos hn]
  exact ⟨rfl, rfl⟩
theorem rm_le {I : Nat → Nat → Int32} {A : Nat} {y : Nat → Int64} (hx : exOk I A y) {B C : Nat} (hB : B < 4) (hC : C < 4) : rmC I A y B ≤ rmC I A y C ↔ rmF I A y B ≤ rmF I A y C := by
  have e1 : (4611686018427387904 : Int64).toInt = 4611686018427387904 := by decide
  have e2 : (4000000000000000000 : Int64).toInt = 4000000000000000000 := by decide
  by_cases h1 : I 14 B = -1
  · obtain ⟨a1, a2⟩ := rm_end (A := A) (y := y) h1
    by_cases h2 : I 14 C = -1
    · obtain ⟨b1, b2⟩ := rm_end (A := A) (y := y) h2
      rw [a1, a2, b1, b2]
      exact ⟨fun _ => Int64.le_refl _, fun _ => Int64.le_refl _⟩
    · obtain ⟨b1, b2, b3⟩ := rm_fin hx hC h2
      rw [a1, a2, b1, Int64.le_iff_toInt_le, Int64.le_iff_toInt_le, e1, e2]
      omega
  · obtain ⟨a1, a2, a3⟩ := rm_fin hx hB h1
    by_cases h2 : I 14 C = -1
    · obtain ⟨b1, b2⟩ := rm_end (A := A) (y := y) h2
      rw [a1, b1, b2, Int64.le_iff_toInt_le, Int64.le_iff_toInt_le, e1, e2]
      omega
    · obtain ⟨b1, b2, b3⟩ := rm_fin hx hC h2
      rw [a1, b1]
theorem rm_0 {I : Nat → Nat → Int32} {A : Nat} {y : Nat → Int64} (hx : exOk I A y) {B : Nat} (hB : B < 4) : rmC I A y B ≤ 0 ↔ rmF I A y B ≤ 0 := by
  by_cases h1 : I 14 B = -1
  · obtain ⟨a1, a2⟩ := rm_end (A := A) (y := y) h1
    rw [a1, a2]
    exact ⟨fun h => absurd h (by decide), fun h => absurd h (by decide)⟩
  · rw [(rm_fin hx hB h1).1]
theorem exc_fin {I : Nat → Nat → Int32} {A : Nat} {y : Nat → Int64} (hx : exOk I A y) {B : Nat} (hB : B < 4) : 0 ≤ (excF I A y B).toInt ∧ (excF I A y B).toInt ≤ 2251799813685248 := by
  have h1 := hx B hB
  have h2 := i64_i32 (I 14 B)
  unfold excF
  split
  · rw [i64_0]; omega
  split
  · rename_i h
    have h := Int64.le_iff_toInt_le.mp h
    rw [i64_0] at h
    rw [i64_sub (by omega) (by omega)] at h ⊢
    omega
  · rw [i64_0]; omega
theorem foldS_congr {σ : Type} {f g : Nat → σ → σ} : ∀ (l : List Nat) (s : σ), (∀ x ∈ l, ∀ s, f x s = g x s) → foldS f l s = foldS g l s
  | [], _, _ => rfl
  | a :: l, s, h => by
    rw [foldS_cons, foldS_cons, h a List.mem_cons_self]
    exact foldS_congr l _ (fun x hx => h x (List.mem_cons_of_mem _ hx))
theorem foldS_or {f : Nat → Option Nat → Option Nat} (h : ∀ k o, f k o = some k ∨ f k o = o) : ∀ (l : List Nat) (o : Option Nat) (g : Nat), foldS f l o = some g → g ∈ l ∨ o = some g
  | [], _, _, e => Or.inr e
  | a :: l, o, g, e => by
    rw [foldS_cons] at e
    rcases foldS_or h l _ g e with h1 | h1
    · exact Or.inl (List.mem_cons_of_mem _ h1)
    · rcases h a o with h2 | h2
      · rw [h2] at h1; cases h1; exact Or.inl List.mem_cons_self
      · rw [h2] at h1; exact Or.inr h1
/-- the scratch row of exposures -/
def mK (K : Nat → Nat → Int64) (I : Nat → Nat → Int32) (y : Nat → Int64) (j : Nat) : Nat → Nat → Int64 := fun a b => if a = 5 ∧ b < 4 then itr (expS I y b) j 0 else K a b
def zK (K : Nat → Nat → Int64) (j : Nat) : Nat → Nat → Int64 := fun a b => if a = 5 ∧ b < j then 0 else K a b
section BK
variable {z : Nat × Nat} {ad : Nat × Nat → Nat} {nm : Nat → Nat × Nat} {A L F : Nat} {I : Nat → Nat → Int32} {K : Nat → Nat → Int64} {k : Nat → Nat → Int32} {μ0 : jM} {y : Nat → Int64}
theorem cE.ac (h : cE ad nm A L F I) {i : Nat} (hi : i < A) : I 4 i = nI (tI I i) ∧ tI I i ≤ i ∧ I 5 i = nI (bI I i) ∧ bI I i < 4 := h.2.2.2.2.2.1 i hi
theorem upK_eq {K K' : Nat → Nat → Int64} {a b : Nat} {v : Int64} (h1 : K' a b = v) (h2 : ∀ a' b', ¬ (a' = a ∧ b' = b) → K' a' b' = K a' b') : upK K a b v = K' := by
  funext a' b'
  by_cases e : a' = a ∧ b' = b
  · obtain ⟨rfl, rfl⟩ := e
    rw [upK_at, h1]
  · rw [upK_ne e, h2 a' b' e]
theorem c_measureBanks (h : cE ad nm A L F I) {Q : Unit → jM → Prop} (q : Q () (cM z ad nm A L F I y (mK K I y A) k μ0)) : wX3_measureBanks z (ad (1, 0)) (cM z ad nm A L F I y K k μ0) Q := by
  have hl4 : clv A I 4 4 := Or.inl ⟨rfl, by decide⟩
  have hl0 : clv A I 4 0 := Or.inl ⟨rfl, by decide⟩
  have hA := h.2.1
  unfold wX3_measureBanks wX3_measureBanks_0
  intro v1 e1
  subst e1
  refine ⟨5, ?_⟩
  have second : ∃ n6 : Nat, wX3_measureBanks_36 z (ad (1, 0)) Q n6 0 (cM z ad nm A L F I y (mK K I y 0) k μ0) := by
    refine jfor (fun f j K' => wX3_measureBanks_36 z (ad (1, 0)) Q f (nI j) (cM z ad nm A L F I y K' k μ0)) A (fun j _ => mK K I y (j + 1)) (mK K I y 0) ?_ ?_
    · intro f j hj hw
      have ei : itr (fun j _ => mK K I y (j + 1)) j (mK K I y 0) = mK K I y j := by cases j <;> rfl
      rw [ei]
      show wX3_measureBanks_36_b z (ad (1, 0)) Q (wX3_measureBanks_36 z (ad (1, 0)) Q f) (nI j) _
      unfold wX3_measureBanks_36_b
      have hx : (clist A L F I 4 0)[j]? = some j := by
        show (List.range A)[j]? = some j
        exact List.getElem?_range hj
      obtain ⟨a1, a2, a3, a4⟩ := h.ac hj
      refine ⟨_, cg1_0 h.1, _, ⟨rfl, c_lh h hl0⟩, c_size h hl0 ⟨fun e => absurd e (lst_le hx (clist_len h.2)), fun _ => ⟨_, cg1_0 h.1, _, ⟨rfl, c_lh h hl0⟩, c_get h hl0 hx rfl ⟨cj7 h.1 hj, _, cg7_3 h.1 hj, _, cg6_2 h.1 a4, _, cg7_8 h.1 hj, _, cw6_2 h a4, ?_⟩⟩⟩⟩
      intro v14 e14
      rw [e14, nI_1]
      have ek : upK (mK K I y j) 5 (bI I j) (mK K I y j 5 (bI I j) + (if (0 : Int64) < y j then y j else 0)) = mK K I y (j + 1) := by
        refine upK_eq ?_ ?_
        · unfold mK
          rw [if_pos ⟨rfl, a4⟩, if_pos ⟨rfl, a4⟩]
          show expS I y (bI I j) j _ = _
          unfold expS
          by_cases hp : 0 < y j
          · rw [if_pos ⟨a3, hp⟩, if_pos hp]
          · rw [if_neg (fun e => hp e.2), if_neg hp, Int64.add_zero]
        · intro a' b' hne
          unfold mK
          by_cases c : a' = 5 ∧ b' < 4
          · rw [if_pos c, if_pos c]
            show expS I y b' j _ = _
            unfold expS
            rw [if_neg (fun e => hne ⟨c.1, ?_⟩)]
            have := e.1
            rw [a3] at this
            exact ((nI_eq (by omega) (by omega)).mp this).symm
          · rw [if_neg c, if_neg c]
      rw [ek]
      exact hw
    · show wX3_measureBanks_36_b z (ad (1, 0)) Q (wX3_measureBanks_36 z (ad (1, 0)) Q 0) (nI A) _
      unfold wX3_measureBanks_36_b
      have ei : itr (fun j _ => mK K I y (j + 1)) A (mK K I y 0) = mK K I y A := by cases A <;> rfl
      rw [ei]
      refine ⟨_, cg1_0 h.1, _, ⟨rfl, c_lh h hl0⟩, c_size h hl0 ?_⟩
      have e : (clist A L F I 4 0).length = A := List.length_range
      rw [e]
      exact ⟨fun _ => q, fun e => absurd (Int32.le_refl _) e⟩
  have e0 : zK K 0 = K := by
    funext a b
    unfold zK
    exact if_neg (by omega)
  have e4 : zK K 4 = mK K I y 0 := rfl
  have step : ∀ f j, j < 4 → wX3_measureBanks_2 z (ad (1, 0)) Q f (nI (j + 1)) (cM z ad nm A L F I y (zK K (j + 1)) k μ0) → wX3_measureBanks_2 z (ad (1, 0)) Q (f + 1) (nI j) (cM z ad nm A L F I y (zK K j) k μ0) := by
    intro f j hj hw
    show wX3_measureBanks_2_b z (ad (1, 0)) Q (wX3_measureBanks_2 z (ad (1, 0)) Q f) (nI j) _
    unfold wX3_measureBanks_2_b
    have hx : (clist A L F I 4 4)[j]? = some j := by
      show (List.range 4)[j]? = some j
      exact List.getElem?_range hj
    refine ⟨_, cg1_4 h.1, _, ⟨rfl, c_lh h hl4⟩, c_size h hl4 ⟨fun e => absurd e (lst_le hx (clist_len h.2)), fun _ => ⟨_, cg1_4 h.1, _, ⟨rfl, c_lh h hl4⟩, c_get h hl4 hx rfl ⟨cj6 h.1 hj, _, cw6_2 h hj, ?_⟩⟩⟩⟩
    intro v13 e13
    rw [e13, nI_1]
    have ek : upK (zK K j) 5 j 0 = zK K (j + 1) := by
      refine upK_eq ?_ ?_
      · unfold zK
        exact if_pos ⟨rfl, by omega⟩
      · intro a' b' hne
        unfold zK
        by_cases c : a' = 5 ∧ b' < j
        · rw [if_pos c, if_pos ⟨c.1, by omega⟩]
        · rw [if_neg c, if_neg (fun e => hne ⟨e.1, by omega⟩)]
    rw [ek]
    exact hw
  have last : wX3_measureBanks_2 z (ad (1, 0)) Q 1 (nI 4) (cM z ad nm A L F I y (zK K 4) k μ0) := by
    show wX3_measureBanks_2_b z (ad (1, 0)) Q (wX3_measureBanks_2 z (ad (1, 0)) Q 0) (nI 4) _
    unfold wX3_measureBanks_2_b
    refine ⟨_, cg1_4 h.1, _, ⟨rfl, c_lh h hl4⟩, c_size h hl4 ⟨fun _ => ?_, fun e => absurd (Int32.le_refl _) e⟩⟩
    intro v5 e5
    rw [e5, e4]
    exact second
  have all := step 4 0 (by omega) (step 3 1 (by omega) (step 2 2 (by omega) (step 1 3 (by omega) last)))
  rw [e0] at all
  exact all
theorem c_excess (h : cE ad nm A L F I) {b : Nat} (hb : b < 4) (hK : K 5 b = expF I A y b) {yy : Nat → Int64} {Q : Int64 → jM → Prop} (q : Q (excF I A y b) (cM z ad nm A L F I yy K k μ0)) : wX1_excess z (ad (6, b)) (cM z ad nm A L F I yy K k μ0) Q := by
  unfold wX1_excess wX1_excess_0
  unfold excF at q
  refine ⟨_, cg6_1 h.1 hb, fun c => ⟨_, cg6_2 h.1 hb, _, cg6_1 h.1 hb, ?_⟩, fun c => ?_⟩
  · rw [if_neg c, ← mx_le] at q
    rw [hK]
    exact q
  · rw [if_pos c] at q
    exact q
theorem c_room (h : cE ad nm A L F I) {b : Nat} (hb : b < 4) (hK : K 5 b = expF I A y b) {yy : Nat → Int64} {Q : Int64 → jM → Prop} (q : Q (rmC I A y b) (cM z ad nm A L F I yy K k μ0)) : wX1_room z (ad (6, b)) (cM z ad nm A L F I yy K k μ0) Q := by
  unfold wX1_room wX1_room_0
  unfold rmC at q
  refine ⟨_, cg6_1 h.1 hb, fun c => ⟨_, cg6_1 h.1 hb, _, cg6_2 h.1 hb, ?_⟩, fun c => ?_⟩
  · rw [if_neg c, ← mx_le] at q
    rw [hK]
    exact q
  · rw [if_pos c] at q
    exact q
theorem getF_mem (h : cE ad nm A L F I) {p : Nat} (hp : p < A) : foldS (getS I A y p) (cmem A I p) none = getF I A y p := by
  have hA := h.2.1
  unfold getF cmem
  rw [itr_foldS, foldS_filter]
  refine foldS_congr _ _ (fun x hx s => ?_)
  have hx := List.mem_range.mp hx
  by_cases e : tI I x = p
  · rw [if_pos (decide_eq_true e)]
  · rw [if_neg (fun c => e (of_decide_eq_true c)), getS_neg]
    intro c
    have h2 := (h.ac hx).2.1
    exact e ((nI_eq (by omega) (by omega)).mp ((h.ac hx).1.symm.trans c.1))
theorem c_findGetter (h : cE ad nm A L F I) (hx : exOk I A y) (hK : ∀ b, b < 4 → K 5 b = expF I A y b) {p : Nat} (hp : cisp A I p) {Q : Option Nat → jM → Prop} (q : Q ((getF I A y p).map (fun g => ad (7, g))) (cM z ad nm A L F I y K k μ0)) : wX3_findGetter z (some (ad (10, p))) (cM z ad nm A L F I y K k μ0) Q := by
  have hA := h.2.1
  have hl : clv A I 11 p := Or.inr (Or.inr (Or.inl ⟨rfl, hp⟩))
  unfold wX3_findGetter wX3_findGetter_0
  intro v1 e1
  subst e1
  rw [← getF_mem h hp.1] at q
  refine jforl (fun f j o => wX3_findGetter_4 z Q f (some (ad (10, p))) (Option.map (fun g => ad (7, g)) o) (nI j) (cM z ad nm A L F I y K k μ0)) (clist A L F I 11 p) (getS I A y p) none ?_ ?_
  · intro f j x o hxl ho hw
    show wX3_findGetter_4_b z Q (wX3_findGetter_4 z Q f) (some (ad (10, p))) (Option.map (fun g => ad (7, g)) o) (nI j) _
    unfold wX3_findGetter_4_b
    obtain ⟨hxA, hxt⟩ := mem_cmem.mp (List.mem_of_getElem? hxl)
    obtain ⟨a1, a2, a3, a4⟩ := h.ac hxA
    have hoA : ∀ g, o = some g → g < A := by
      intro g hg
      rw [ho] at hg
      rcases foldS_or (getS_or I A y p) _ _ _ hg with h1 | h1
      · exact (mem_cmem.mp (List.mem_of_mem_take h1)).1
      · cases h1
    have n52 : getS I A y p x o = o → wX3_findGetter_52 z (wX3_findGetter_4 z Q f) Q (some (ad (10, p))) (Option.map (fun g => ad (7, g)) o) (nI j) (some (ad (7, x))) (cM z ad nm A L F I y K k μ0) := by
      intro e
      unfold wX3_findGetter_52 wX3_findGetter_53
      refine ⟨fun _ => ?_, fun c => absurd rfl c⟩
      intro v1 e1
      rw [e1, nI_1]
      rw [e] at hw
      exact hw
    refine ⟨_, cg10_3 h.1 hp, _, ⟨rfl, c_lh h hl⟩, c_size h hl ⟨fun e => absurd e (lst_le hxl (clist_len h.2)), fun _ => ⟨_, cg10_3 h.1 hp, _, ⟨rfl, c_lh h hl⟩, c_get h hl hxl rfl ⟨cj7 h.1 hxA, _, cg7_8 h.1 hxA, fun d => n52 (getS_neg (fun e => absurd e.2.1 (Int64.not_le.mpr d))), fun d => ⟨_, cg7_3 h.1 hxA, _, ⟨rfl, ch6 h.1 a4⟩, c_room h a4 (hK _ a4) ⟨fun e => n52 (getS_neg (fun c => absurd c.2.2.1 (Int64.not_lt.mpr ((rm_0 hx a4).mp e)))), fun e => ?_⟩⟩⟩⟩⟩⟩
    have e0 : ¬ rmF I A y (bI I x) ≤ 0 := fun c => e ((rm_0 hx a4).mpr c)
    have a1' : I 4 x = nI p := by rw [a1, hxt]
    unfold wX3_findGetter_53
    refine ⟨fun c => absurd c (by decide), fun _ => ⟨fun c => ?_, fun c => ?_⟩⟩
    · have ho : o = none := by
        cases o with
        | none => rfl
        | some g => cases c
      intro v2 e2
      rw [e2, nI_1]
      rw [getS_pos ⟨a1', Int64.not_lt.mp d, Int64.not_le.mp e0, fun g hg => by rw [ho] at hg; cases hg⟩] at hw
      exact hw
    · cases o with
      | none => exact absurd rfl c
      | some g =>
        have hg := hoA g rfl
        obtain ⟨b1, b2, b3, b4⟩ := h.ac hg
        refine ⟨_, cg7_3 h.1 hxA, _, ⟨rfl, ch6 h.1 a4⟩, c_room h a4 (hK _ a4) ⟨_, cg7_3 h.1 hg, _, ⟨rfl, ch6 h.1 b4⟩, c_room h b4 (hK _ b4) ⟨fun r => ?_, fun r => ?_⟩⟩⟩
        · intro v11 e11
          rw [e11, nI_1]
          rw [getS_neg (fun w => absurd (w.2.2.2 g rfl) (Int64.not_lt.mpr ((rm_le hx a4 b4).mp r)))] at hw
          exact hw
        · intro v12 e12
          rw [e12, nI_1]
          rw [getS_pos ⟨a1', Int64.not_lt.mp d, Int64.not_le.mp e0, fun g' hg' => by cases hg'; exact Int64.not_le.mp (fun w => r ((rm_le hx a4 b4).mpr w))⟩] at hw
          exact hw
  · show wX3_findGetter_4_b z Q (wX3_findGetter_4 z Q 0) (some (ad (10, p))) _ _ _
    unfold wX3_findGetter_4_b
    exact ⟨_, cg10_3 h.1 hp, _, ⟨rfl, c_lh h hl⟩, c_size h hl ⟨fun _ => q, fun e => absurd (Int32.le_refl _) e⟩⟩
theorem c_givesBefore (h : cE ad nm A L F I) (hx : exOk I A y) (hK : ∀ b, b < 4 → K 5 b = expF I A y b) {i g : Nat} (hi : i < A) (hg : g < A) {Q : Int32 → jM → Prop} (q1 : gvF I A y i g → Q 1 (cM z ad nm A L F I y K k μ0)) (q0 : ¬ gvF I A y i g → Q 0 (cM z ad nm A L F I y K k μ0)) : wX3_givesBefore z (some (ad (7, i))) (some (ad (7, g))) (cM z ad nm A L F I y K k μ0) Q := by
  obtain ⟨a1, a2, a3, a4⟩ := h.ac hi
  obtain ⟨b1, b2, b3, b4⟩ := h.ac hg
  have x1 := exc_fin hx a4
  have x2 := exc_fin hx b4
  have s1 : (excF I A y (bI I i) - excF I A y (bI I g)).toInt = (excF I A y (bI I i)).toInt - (excF I A y (bI I g)).toInt := i64_sub (by omega) (by omega)
  unfold wX3_givesBefore wX3_givesBefore_0
  refine ⟨_, cg7_3 h.1 hi, _, cg6_0 h.1 a4, _, cg7_3 h.1 hg, _, cg6_0 h.1 b4, fun c => ⟨_, cg7_3 h.1 hi, _, ⟨rfl, ch6 h.1 a4⟩, c_excess h a4 (hK _ a4) ⟨_, cg7_3 h.1 hg, _, ⟨rfl, ch6 h.1 b4⟩, c_excess h b4 (hK _ b4) ⟨fun d => ⟨_, cg7_3 h.1 hi, _, cg6_0 h.1 a4, _, cg7_3 h.1 hg, _, cg6_0 h.1 b4, fun e => q0 ?_, fun e => q1 ?_⟩, fun d => ⟨_, cg7_3 h.1 hi, _, ⟨rfl, ch6 h.1 a4⟩, c_excess h a4 (hK _ a4) ⟨_, cg7_3 h.1 hg, _, ⟨rfl, ch6 h.1 b4⟩, c_excess h b4 (hK _ b4) ⟨fun e => q0 ?_, fun e => q1 ?_⟩⟩⟩⟩⟩⟩, fun c => ⟨_, cg7_8 h.1 hi, _, cg7_8 h.1 hg, fun d => q0 ?_, fun d => q1 ?_⟩⟩
  · have e := (nI_leI (by omega) (by omega)).mp e
    have hne : bI I i ≠ bI I g := fun w => c (by rw [w])
    rintro (w | ⟨-, w | ⟨w, -⟩⟩)
    · rw [d, Int64.sub_self] at w
      exact absurd w (by decide)
    · rw [a3, b3] at w
      have e2 : nI (bI I i) = nI (bI I g) + nI (bI I i - bI I g) := by rw [nI_add]; congr 1; omega
      have w2 := Int32.lt_iff_toInt_lt.mp w
      have t1 : (nI (bI I g) - nI (bI I i)).toInt = (nI (bI I g)).toInt - (nI (bI I i)).toInt := by
        rw [Int32.toInt_sub, nI_toInt (by omega), nI_toInt (by omega), Int.bmod_eq_of_le] <;> omega
      rw [t1, nI_toInt (by omega), nI_toInt (by omega)] at w2
      have : (0 : Int32).toInt = 0 := by decide
      omega
    · rw [a3, b3] at w
      have w2 := congrArg Int32.toInt w
      have t1 : (nI (bI I g) - nI (bI I i)).toInt = (nI (bI I g)).toInt - (nI (bI I i)).toInt := by
        rw [Int32.toInt_sub, nI_toInt (by omega), nI_toInt (by omega), Int.bmod_eq_of_le] <;> omega
      rw [t1, nI_toInt (by omega), nI_toInt (by omega)] at w2
      have : (0 : Int32).toInt = 0 := by decide
      omega
  · have e : bI I i < bI I g := by
      by_cases w : bI I g ≤ bI I i
      · exact absurd (nI_le w (by omega)) e
      · omega
    refine Or.inr ⟨by rw [d, Int64.sub_self], Or.inl ?_⟩
    rw [a3, b3, Int32.lt_iff_toInt_lt]
    have t1 : (nI (bI I g) - nI (bI I i)).toInt = (nI (bI I g)).toInt - (nI (bI I i)).toInt := by
      rw [Int32.toInt_sub, nI_toInt (by omega), nI_toInt (by omega), Int.bmod_eq_of_le] <;> omega
    rw [t1, nI_toInt (by omega), nI_toInt (by omega)]
    have : (0 : Int32).toInt = 0 := by decide
    omega
  · have e := Int64.le_iff_toInt_le.mp e
    rintro (w | ⟨w, -⟩)
    · have w := Int64.lt_iff_toInt_lt.mp w
      rw [s1, i64_0] at w
      omega
    · have w := congrArg Int64.toInt w
      rw [s1, i64_0] at w
      exact d (Int64.toInt_inj.mp (by omega))
  · have e := Int64.lt_iff_toInt_lt.mp (Int64.not_le.mp e)
    refine Or.inl (Int64.lt_iff_toInt_lt.mpr ?_)
    rw [s1, i64_0]
    omega
  · have c : bI I i = bI I g := (nI_eq (by omega) (by omega)).mp c
    rintro (w | ⟨-, w | ⟨-, w⟩⟩)
    · rw [c, Int64.sub_self] at w
      exact absurd w (by decide)
    · rw [a3, b3, c, Int32.sub_self] at w
      exact absurd w (by decide)
    · exact absurd w (Int64.not_lt.mpr d)
  · have c : bI I i = bI I g := (nI_eq (by omega) (by omega)).mp c
    refine Or.inr ⟨by rw [c, Int64.sub_self], Or.inr ⟨by rw [a3, b3, c, Int32.sub_self], Int64.not_le.mp d⟩⟩
theorem c_findGiver (h : cE ad nm A L F I) (hx : exOk I A y) (hK : ∀ b, b < 4 → K 5 b = expF I A y b) {Q : Option Nat → jM → Prop} (q : Q ((givF I A y).map (fun g => ad (7, g))) (cM z ad nm A L F I y K k μ0)) : wX3_findGiver z (ad (1, 0)) (cM z ad nm A L F I y K k μ0) Q := by
  have hA := h.2.1
  have hl : clv A I 4 0 := Or.inl ⟨rfl, by decide⟩
  unfold wX3_findGiver wX3_findGiver_0
  intro v1 e1
  subst e1
  refine jfor (fun f j o => wX3_findGiver_4 z (ad (1, 0)) Q f (Option.map (fun g => ad (7, g)) o) (nI j) (cM z ad nm A L F I y K k μ0)) A (givS I A y) none ?_ ?_
  · intro f j hj hw
    have hlt := itr_lt (givS_or I A y) j
    have hw : wX3_findGiver_4 z (ad (1, 0)) Q f (Option.map (fun g => ad (7, g)) (givS I A y j (itr (givS I A y) j none))) (nI (j + 1)) (cM z ad nm A L F I y K k μ0) := hw
    generalize itr (givS I A y) j none = o at hw hlt ⊢
    show wX3_findGiver_4_b z (ad (1, 0)) Q (wX3_findGiver_4 z (ad (1, 0)) Q f) (Option.map (fun g => ad (7, g)) o) (nI j) _
    unfold wX3_findGiver_4_b
    have hxl : (clist A L F I 4 0)[j]? = some j := by
      show (List.range A)[j]? = some j
      exact List.getElem?_range hj
    obtain ⟨a1, a2, a3, a4⟩ := h.ac hj
    have n62 : givS I A y j o = o → wX3_findGiver_62 z (ad (1, 0)) (wX3_findGiver_4 z (ad (1, 0)) Q f) Q (Option.map (fun g => ad (7, g)) o) (nI j) (some (ad (7, j))) (cM z ad nm A L F I y K k μ0) := by
      intro e
      unfold wX3_findGiver_62 wX3_findGiver_63
      refine ⟨fun _ => ?_, fun c => absurd rfl c⟩
      intro v1 e1
      rw [e1, nI_1]
      rw [e] at hw
      exact hw
    refine ⟨_, cg1_0 h.1, _, ⟨rfl, c_lh h hl⟩, c_size h hl ⟨fun e => absurd e (lst_le hxl (clist_len h.2)), fun _ => ⟨_, cg1_0 h.1, _, ⟨rfl, c_lh h hl⟩, c_get h hl hxl rfl ⟨cj7 h.1 hj, _, cg7_8 h.1 hj, fun d => n62 (givS_neg (fun e => absurd e.1 (Int64.not_lt.mpr d))), fun d => ⟨_, cg7_3 h.1 hj, _, ⟨rfl, ch6 h.1 a4⟩, c_excess h a4 (hK _ a4) ⟨fun e => n62 (givS_neg (fun c => absurd c.2.1 (Int64.not_lt.mpr e))), fun e => ⟨_, cg7_2 h.1 hj, c_findGetter h hx hK (h.2.top j hj) ⟨fun g => n62 (givS_neg (fun c => c.2.2.1 ?_)), fun g => ?_⟩⟩⟩⟩⟩⟩⟩⟩
    · cases hgt : getF I A y (tI I j) with
      | none => rfl
      | some w => rw [hgt] at g; cases g
    have hgt : ¬ getF I A y (tI I j) = none := fun w => g (by rw [w]; rfl)
    unfold wX3_findGiver_63
    refine ⟨fun c => absurd c (by decide), fun _ => ⟨fun c => ?_, fun c => ?_⟩⟩
    · have ho : o = none := by
        cases o with
        | none => rfl
        | some g => cases c
      intro v2 e2
      rw [e2, nI_1]
      rw [givS_pos ⟨Int64.not_le.mp d, Int64.not_le.mp e, hgt, fun g hg => by rw [ho] at hg; cases hg⟩] at hw
      exact hw
    · cases o with
      | none => exact absurd rfl c
      | some g =>
        have hg := hlt g rfl
        refine c_givesBefore h hx hK hj (by omega) (fun w => ⟨fun c2 => absurd c2 (by decide), fun _ => ?_⟩) (fun w => ⟨fun _ => ?_, fun c2 => absurd rfl c2⟩)
        · intro v6 e6
          rw [e6, nI_1]
          rw [givS_pos ⟨Int64.not_le.mp d, Int64.not_le.mp e, hgt, fun g' hg' => by cases hg'; exact w⟩] at hw
          exact hw
        · intro v5 e5
          rw [e5, nI_1]
          rw [givS_neg (fun w2 => w (w2.2.2.2 g rfl))] at hw
          exact hw
  · show wX3_findGiver_4_b z (ad (1, 0)) Q (wX3_findGiver_4 z (ad (1, 0)) Q 0) _ (nI A) _
    unfold wX3_findGiver_4_b
    refine ⟨_, cg1_0 h.1, _, ⟨rfl, c_lh h hl⟩, c_size h hl ?_⟩
    have e : (clist A L F I 4 0).length = A := List.length_range
    rw [e]
    exact ⟨fun _ => q, fun e => absurd (Int32.le_refl _) e⟩
theorem amt_eq (hx : exOk I A y) {i j : Nat} (hi : bI I i < 4) (hj : bI I j < 4) (h0 : 0 ≤ (y i).toInt) (h1 : (y i).toInt ≤ 1125899906842624) : (if (if rmC I A y (bI I j) < y i then rmC I A y (bI I j) else y i) < excF I A y (bI I i) then (if rmC I A y (bI I j) < y i then rmC I A y (bI I j) else y i) else excF I A y (bI I i)) = amtF I A i j y := by
  have x1 := exc_fin hx hi
  have e1 : (4611686018427387904 : Int64).toInt = 4611686018427387904 := by decide
  have e2 : (4000000000000000000 : Int64).toInt = 4000000000000000000 := by decide
  unfold amtF
  by_cases hn : I 14 (bI I j) = -1
  · obtain ⟨a1, a2⟩ := rm_end (A := A) (y := y) hn
    rw [a1, a2]
    have hc : ¬ (4611686018427387904 : Int64) < y i := fun c => by have := Int64.lt_iff_toInt_lt.mp c; omega
    rw [if_neg hc]
    by_cases c : excF I A y (bI I i) ≤ y i
    · rw [if_pos c, if_pos (Int64.le_iff_toInt_le.mpr (by omega))]
      by_cases d : y i < excF I A y (bI I i)
      · exact absurd d (Int64.not_lt.mpr c)
      · rw [if_neg d]
    · rw [if_neg c, if_pos (Int64.le_iff_toInt_le.mpr (by omega)), if_pos (Int64.not_le.mp c)]
  · obtain ⟨a1, a2, a3⟩ := rm_fin hx hj hn
    rw [a1]
    generalize rmF I A y (bI I j) = r at a2 a3 ⊢
    generalize excF I A y (bI I i) = e at x1 ⊢
    generalize y i = w at h0 h1 ⊢
    by_cases c1 : r < w
    · rw [if_pos c1]
      have c1' := Int64.lt_iff_toInt_lt.mp c1
      by_cases c2 : r < e
      · have c2' := Int64.lt_iff_toInt_lt.mp c2
        rw [if_pos c2]
        split
        · rw [if_neg (fun d => by have := Int64.le_iff_toInt_le.mp d; omega)]
        · rw [if_neg (fun d => by have := Int64.le_iff_toInt_le.mp d; omega)]
      · have c2' := Int64.le_iff_toInt_le.mp (Int64.not_lt.mp c2)
        rw [if_neg c2, if_pos (show e ≤ w from Int64.le_iff_toInt_le.mpr (by omega)), if_pos (show e ≤ r from Int64.not_lt.mp c2)]
    · rw [if_neg c1]
      have c1' := Int64.le_iff_toInt_le.mp (Int64.not_lt.mp c1)
      by_cases c2 : w < e
      · have c2' := Int64.lt_iff_toInt_lt.mp c2
        rw [if_pos c2, if_neg (show ¬ e ≤ w from Int64.not_le.mpr c2), if_pos (Int64.not_lt.mp c1)]
      · have c2' := Int64.le_iff_toInt_le.mp (Int64.not_lt.mp c2)
        rw [if_neg c2, if_pos (Int64.not_lt.mp c2), if_pos (Int64.le_iff_toInt_le.mpr (by omega))]
theorem c_moveAway (h : cE ad nm A L F I) (hx : exOk I A y) (hK : ∀ b, b < 4 → K 5 b = expF I A y b) {i j : Nat} (hi : i < A) (hg : getF I A y (tI I i) = some j) (h0 : 0 ≤ (y i).toInt) (h1 : (y i).toInt ≤ 1125899906842624) {Q : Int32 → jM → Prop} (q : Q 1 (cM z ad nm A L F I (movF i j (amtF I A i j y) y) K k μ0)) : wX3_moveAway z (some (ad (7, i))) (cM z ad nm A L F I y K k μ0) Q := by
  obtain ⟨a1, a2, a3, a4⟩ := h.ac hi
  have hj := (getF_some hg).1
  obtain ⟨b1, b2, b3, b4⟩ := h.ac hj
  unfold wX3_moveAway wX3_moveAway_0
  refine ⟨_, cg7_2 h.1 hi, c_findGetter h hx hK (h.2.top i hi) ?_⟩
  rw [hg]
  refine ⟨fun _ => ⟨_, cg7_8 h.1 hi, _, cg7_3 h.1 hj, _, ⟨rfl, ch6 h.1 b4⟩, c_room h b4 (hK _ b4) ?_⟩, fun c => by cases c⟩
  intro v9 e9
  refine ⟨_, cg7_3 h.1 hi, _, ⟨rfl, ch6 h.1 a4⟩, c_excess h a4 (hK _ a4) ?_⟩
  intro v14 e14
  refine ⟨_, cg7_8 h.1 hi, _, cw7_8 h hi, _, cg7_8 h.1 hj, _, cw7_8 h hj, ?_⟩
  rw [e14, e9, amt_eq hx a4 b4 h0 h1]
  exact q
theorem c_easeBanks (h : cE ad nm A L F I) (Inv : (Nat → Int64) → Prop) (hi1 : ∀ y, Inv y → exOk I A y ∧ ∀ i, i < A → (y i).toInt ≤ 1125899906842624) (hi2 : ∀ y y', Inv y → nextE I A y = some y' → Inv y') (f : Nat) (hf : f < 1000) (hi : Inv y) (he : easeEnds I A f y) {Q : Unit → jM → Prop} (q : ∀ K', (∀ a b, a ≠ 5 → K' a b = K a b) → Q () (cM z ad nm A L F I (easeF I A f y) K' k μ0)) : wX3_easeBanks z (ad (1, 0)) (cM z ad nm A L F I y K k μ0) Q := by
  unfold wX3_easeBanks wX3_easeBanks_0
  intro v1 e1 v2 e2
  subst e1 e2
  have mKo : ∀ y a b, a ≠ 5 → mK K I y A a b = K a b := fun y a b hne => if_neg (fun e => hne e.1)
  have loop : ∀ f m (y : Nat → Int64) (K1 : Nat → Nat → Int64), f + m < 1000 → Inv y → easeEnds I A f y → (∀ a b, a ≠ 5 → K1 a b = K a b) → (∀ K', (∀ a b, a ≠ 5 → K' a b = K a b) → Q () (cM z ad nm A L F I (easeF I A f y) K' k μ0)) → ∃ c, wX3_easeBanks_4 z (ad (1, 0)) Q c 1 (nI m) (cM z ad nm A L F I y K1 k μ0) := by
    intro f
    have stop : ∀ m (y : Nat → Int64) (K1 : Nat → Nat → Int64), m < 1000 → Inv y → nextE I A y = none → (∀ a b, a ≠ 5 → K1 a b = K a b) → (∀ K', (∀ a b, a ≠ 5 → K' a b = K a b) → Q () (cM z ad nm A L F I y K' k μ0)) → ∃ c, wX3_easeBanks_4 z (ad (1, 0)) Q c 1 (nI m) (cM z ad nm A L F I y K1 k μ0) := by
      intro m y K1 hm hiv hn hk q
      obtain ⟨hx, -⟩ := hi1 y hiv
      have hg : givF I A y = none := by
        cases hg : givF I A y with
        | none => rfl
        | some i =>
          obtain ⟨-, -, -, hgt⟩ := givF_some hg
          unfold nextE at hn
          rw [hg] at hn
          cases hj : getF I A y (tI I i) with
          | none => exact absurd hj hgt
          | some j => simp [hj] at hn
      refine ⟨2, ?_⟩
      show wX3_easeBanks_4_b z (ad (1, 0)) Q (wX3_easeBanks_4 z (ad (1, 0)) Q 1) 1 (nI m) _
      unfold wX3_easeBanks_4_b
      refine ⟨fun c => absurd c (by decide), fun _ => ⟨fun c => absurd (show nI 1000000 ≤ nI m from c) (nI_ge (by omega) (by omega)), fun _ => ⟨ch1 h.1, c_measureBanks h ⟨ch1 h.1, c_findGiver h hx (fun b hb => if_pos ⟨rfl, hb⟩) ?_⟩⟩⟩⟩
      rw [hg]
      refine ⟨fun _ => ?_, fun c => absurd rfl c⟩
      intro v5 e5 v6 e6
      rw [e5]
      show wX3_easeBanks_4_b z (ad (1, 0)) Q (wX3_easeBanks_4 z (ad (1, 0)) Q 0) 0 v6 _
      unfold wX3_easeBanks_4_b
      refine ⟨fun _ => q _ (fun a b hne => ?_), fun c => absurd rfl c⟩
      exact (if_neg (fun e => hne e.1)).trans (hk a b hne)
    induction f with
    | zero => intro m y K1 hm hiv he hk q; exact stop m y K1 (by omega) hiv he hk q
    | succ f ih =>
      intro m y K1 hm hiv he hk q
      cases hn : nextE I A y with
      | none =>
        refine stop m y K1 (by omega) hiv hn hk ?_
        intro K' hk'
        have := q K' hk'
        unfold easeF at this
        rw [hn] at this
        exact this
      | some y' =>
        obtain ⟨hx, hy⟩ := hi1 y hiv
        have hy' := hi2 y y' hiv hn
        have hn2 := hn
        unfold nextE at hn2
        cases hg : givF I A y with
        | none => rw [hg] at hn2; cases hn2
        | some i =>
          obtain ⟨g1, g2, g3, g4⟩ := givF_some hg
          rw [hg] at hn2
          cases hj : getF I A y (tI I i) with
          | none => exact absurd hj g4
          | some j =>
            have ey : movF i j (amtF I A i j y) y = y' := by simpa [hj] using hn2
            have hk2 : ∀ a b, a ≠ 5 → mK K1 I y A a b = K a b := fun a b hne => (if_neg (fun e => hne e.1)).trans (hk a b hne)
            obtain ⟨c, w⟩ := ih (m + 1) y' (mK K1 I y A) (by omega) hy' (he y' hn) hk2 (fun K' hk' => by
              have := q K' hk'
              unfold easeF at this
              rw [hn] at this
              exact this)
            refine ⟨c + 1, ?_⟩
            show wX3_easeBanks_4_b z (ad (1, 0)) Q (wX3_easeBanks_4 z (ad (1, 0)) Q c) 1 (nI m) _
            unfold wX3_easeBanks_4_b
            refine ⟨fun c => absurd c (by decide), fun _ => ⟨fun c => absurd (show nI 1000000 ≤ nI m from c) (nI_ge (by omega) (by omega)), fun _ => ⟨ch1 h.1, c_measureBanks h ⟨ch1 h.1, c_findGiver h hx (fun b hb => if_pos ⟨rfl, hb⟩) ?_⟩⟩⟩⟩
            rw [hg]
            have p0 := Int64.lt_iff_toInt_lt.mp g2
            rw [i64_0] at p0
            refine ⟨fun c => (by cases c), fun _ => c_moveAway h hx (fun b hb => if_pos ⟨rfl, hb⟩) g1 hj (by omega) (hy i g1) ⟨fun c => absurd c (by decide), fun _ => ?_⟩⟩
            intro v11 e11 v12 e12
            rw [e11, e12, nI_1, ey]
            exact w
  exact loop f 0 y K (by omega) hi he (fun _ _ _ => rfl) q
end BK
