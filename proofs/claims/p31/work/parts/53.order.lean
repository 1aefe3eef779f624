/-! ===== the class's order of a sweep, and the reference's ===== -/
theorem comm_add {f g F G : (Nat → Int64) → Nat → Int64} (hf : ∀ w, f w = fun m => w m + F w m) (hg : ∀ w, g w = fun m => w m + G w m) (h1 : ∀ w, F (g w) = F w) (h2 : ∀ w, G (f w) = G w) (w : Nat → Int64) : f (g w) = g (f w) := by
  rw [hf (g w), hg (f w), h1, h2]
  funext m
  rw [congrFun (hg w) m, congrFun (hf w) m, Int64.add_assoc, Int64.add_assoc, Int64.add_comm (F w m)]
def dU (I : Nat → Nat → Int32) (k : Nat) (a : Int64) (m : Nat) : Int64 :=
  if I 3 k ≠ -1 ∧ 0 < surpF I k a then (if m = k then -(surpF I k a) else if m = pI I k then surpF I k a else 0) else 0
def dD (I : Nat → Nat → Int32) (k : Nat) (a b : Int64) (m : Nat) : Int64 :=
  if I 3 k = -1 then 0 else (if m = k then ptF I k a b else if m = pI I k then -(ptF I k a b) else 0)
section OR
variable {A L F : Nat} {I : Nat → Nat → Int32}
theorem upS_add (hp : parOk A I) (hA : A ≤ 10) {k : Nat} (hk : k < A) (w : Nat → Int64) : upS I k w = fun m => w m + dU I k (w k) m := by
  funext m
  unfold upS dU
  by_cases c : I 3 k ≠ -1 ∧ 0 < surpF I k (w k)
  · rw [if_pos c, if_pos c]
    obtain ⟨ep, lp⟩ := pI_lt hp hA hk c.1
    unfold movF
    by_cases e1 : m = k
    · subst e1
      rw [pk_uLn (by omega), pk_uLs, if_pos rfl, Int64.sub_eq_add_neg]
    · rw [if_neg e1]
      by_cases e2 : m = pI I k
      · subst e2
        rw [pk_uLs, pk_uLn (by omega), if_pos rfl]
      · rw [pk_uLn e2, pk_uLn e1, if_neg e2, Int64.add_zero]
  · rw [if_neg c, if_neg c, Int64.add_zero]
theorem dnC_add (hp : parOk A I) (hA : A ≤ 10) {k : Nat} (hk : k < A) (w : Nat → Int64) : dnC I k w = fun m => w m + dD I k (w k) (w (pI I k)) m := by
  funext m
  unfold dnC dD
  by_cases c : I 3 k = -1
  · rw [if_pos c, if_pos c, Int64.add_zero]
  · rw [if_neg c, if_neg c]
    obtain ⟨ep, lp⟩ := pI_lt hp hA hk c
    by_cases e1 : m = k
    · subst e1
      rw [pk_uLn (by omega), pk_uLs, if_pos rfl]
    · rw [if_neg e1]
      by_cases e2 : m = pI I k
      · subst e2
        rw [pk_uLs, if_pos rfl, Int64.sub_eq_add_neg]
      · rw [pk_uLn e2, pk_uLn e1, if_neg e2, Int64.add_zero]
theorem dU_out {k m : Nat} {a : Int64} (h1 : m ≠ k) (h2 : I 3 k ≠ -1 → m ≠ pI I k) : dU I k a m = 0 := by
  unfold dU
  split
  · rename_i c
    rw [if_neg (h2 c.1)]
  · rfl
theorem dD_out {k m : Nat} {a b : Int64} (h1 : m ≠ k) (h2 : I 3 k ≠ -1 → m ≠ pI I k) : dD I k a b m = 0 := by
  unfold dD
  split
  · rfl
  · rename_i c
    rw [if_neg (h2 c)]
/-- a step by its number: first the ups, then the downs -/
def stp (A : Nat) (I : Nat → Nat → Int32) (n : Nat) (w : Nat → Int64) : Nat → Int64 := if n < A then upS I n w else dnC I (n - A) w
/-- which step may stand before which -/
def bef (A : Nat) (I : Nat → Nat → Int32) (x y : Nat) : Prop :=
  if x < A then (if y < A then cpar A I y ≠ some x else True)
  else (if y < A then tI I (x - A) ≠ tI I y else (cpar A I (x - A) ≠ some (y - A) ∧ ((∃ p, cpar A I (x - A) = some p ∧ cpar A I (y - A) = some p) → x - A < y - A)))
theorem tI_par (ht : tpOk A I) {x : Nat} (hx : x < A) (hn : ¬ I 3 x = -1) : tI I x = tI I (pI I x) := by
  rcases ht x hx with e | e
  · exact absurd e.1 hn
  · exact e.2
theorem stp_comm (hp : parOk A I) (ht : tpOk A I) (hA : A ≤ 10) {x y : Nat} (hx : x < A + A) (hy : y < A + A) (hne : x ≠ y) (h1 : bef A I x y) (h2 : bef A I y x) (w : Nat → Int64) : stp A I x (stp A I y w) = stp A I y (stp A I x w) := by
  have up : ∀ {k : Nat}, k < A → stp A I k = upS I k := fun h => funext (fun w => if_pos h)
  have dn : ∀ {k : Nat}, ¬ k < A → stp A I k = dnC I (k - A) := fun h => funext (fun w => if_neg h)
  have ud : ∀ {x y : Nat}, x < A → y < A → tI I y ≠ tI I x → ∀ w, upS I x (dnC I y w) = dnC I y (upS I x w) := by
    intro x y hx hy htt w
    have n1 : x ≠ y := fun e => htt (by rw [e])
    refine comm_add (F := fun w => dU I x (w x)) (G := fun w => dD I y (w y) (w (pI I y))) (upS_add hp hA hx) (dnC_add hp hA hy) (fun w => ?_) (fun w => ?_) w
    · have e : dnC I y w x = w x := by
        rw [congrFun (dnC_add hp hA hy w) x, dD_out n1 (fun c e => htt (by rw [tI_par ht hy c, e])), Int64.add_zero]
      show dU I x (dnC I y w x) = _
      rw [e]
    · have e1 : upS I x w y = w y := by
        rw [congrFun (upS_add hp hA hx w) y, dU_out (Ne.symm n1) (fun c e => htt (by rw [tI_par ht hx c, e])), Int64.add_zero]
      by_cases c : I 3 y = -1
      · show dD I y _ _ = dD I y _ _
        funext m
        unfold dD
        rw [if_pos c, if_pos c]
      · have py := tI_par ht hy c
        have lpy := (pI_lt hp hA hy c).2
        have e2 : upS I x w (pI I y) = w (pI I y) := by
          rw [congrFun (upS_add hp hA hx w) (pI I y), dU_out (fun e => htt (by rw [py, e])) (fun d e => htt (by rw [py, e, ← tI_par ht hx d])), Int64.add_zero]
        show dD I y (upS I x w y) (upS I x w (pI I y)) = _
        rw [e1, e2]
  unfold bef at h1 h2
  by_cases cx : x < A
  · by_cases cy : y < A
    · rw [if_pos cx, if_pos cy] at h1
      rw [if_pos cy, if_pos cx] at h2
      rw [up cx, up cy]
      refine comm_add (F := fun w => dU I x (w x)) (G := fun w => dU I y (w y)) (upS_add hp hA cx) (upS_add hp hA cy) (fun w => ?_) (fun w => ?_) w
      · show dU I x (upS I y w x) = _
        rw [congrFun (upS_add hp hA cy w) x, dU_out hne (fun c e => h1 (by rw [cpar_s cy c, e])), Int64.add_zero]
      · show dU I y (upS I x w y) = _
        rw [congrFun (upS_add hp hA cx w) y, dU_out (Ne.symm hne) (fun c e => h2 (by rw [cpar_s cx c, e])), Int64.add_zero]
    · rw [if_neg cy, if_pos cx] at h2
      rw [up cx, dn cy]
      exact ud cx (by omega) h2 w
  · by_cases cy : y < A
    · rw [if_neg cx, if_pos cy] at h1
      rw [dn cx, up cy]
      exact (ud cy (by omega) h1 w).symm
    · rw [if_neg cx, if_neg cy] at h1
      rw [if_neg cy, if_neg cx] at h2
      rw [dn cx, dn cy]
      have hxA : x - A < A := by omega
      have hyA : y - A < A := by omega
      have n1 : x - A ≠ y - A := by omega
      generalize x - A = a at h1 h2 hxA n1 ⊢
      generalize y - A = b at h1 h2 hyA n1 ⊢
      have key : ∀ {a b : Nat}, a < A → b < A → a ≠ b → cpar A I a ≠ some b → cpar A I b ≠ some a → (¬ ∃ p, cpar A I a = some p ∧ cpar A I b = some p) → ∀ w, dD I a (dnC I b w a) (dnC I b w (pI I a)) = dD I a (w a) (w (pI I a)) := by
        intro a b ha hb hab q1 q2 q3 w
        by_cases c : I 3 a = -1
        · funext m
          unfold dD
          rw [if_pos c, if_pos c]
        · have e1 : dnC I b w a = w a := by
            rw [congrFun (dnC_add hp hA hb w) a, dD_out hab (fun d e => q2 (by rw [cpar_s hb d, e])), Int64.add_zero]
          have e2 : dnC I b w (pI I a) = w (pI I a) := by
            rw [congrFun (dnC_add hp hA hb w) (pI I a), dD_out (fun e => q1 (by rw [cpar_s ha c, e])) (fun d e => q3 ⟨pI I a, cpar_s ha c, by rw [cpar_s hb d, e]⟩), Int64.add_zero]
          rw [e1, e2]
      have q3 : ¬ ∃ p, cpar A I a = some p ∧ cpar A I b = some p := fun ⟨p, e1, e2⟩ => by
        have r1 := h1.2 ⟨p, e1, e2⟩
        have r2 := h2.2 ⟨p, e2, e1⟩
        omega
      refine comm_add (F := fun w => dD I a (w a) (w (pI I a))) (G := fun w => dD I b (w b) (w (pI I b))) (dnC_add hp hA hxA) (dnC_add hp hA hyA) (fun w => key hxA hyA n1 h1.1 h2.1 q3 w) (fun w => key hyA hxA (Ne.symm n1) h2.1 h1.1 (fun ⟨p, e1, e2⟩ => q3 ⟨p, e2, e1⟩) w) w
/-! the two orders -/
def ord1 (A : Nat) : List Nat := (List.range A).reverse ++ (List.range A).map (fun k => A + k)
def ord2 (A : Nat) (I : Nat → Nat → Int32) : List Nat := (ctops A I).flatMap (fun t => post A (cpar A I) 12 t ++ (pre A (cpar A I) 12 t).map (fun k => A + k))
theorem cpar_lt (hp : parOk A I) (hA : A ≤ 10) : ∀ i p, cpar A I i = some p → p < i := by
  intro i p h
  unfold cpar at h
  split at h
  · rename_i c
    cases h
    exact (pI_lt hp hA c.1 c.2).2
  · cases h
theorem cpar_A {i p : Nat} (h : cpar A I i = some p) : i < A ∧ ¬ I 3 i = -1 ∧ p = pI I i := by
  unfold cpar at h
  split at h
  · rename_i c
    cases h
    exact ⟨c.1, c.2, rfl⟩
  · cases h
theorem sub_top (ht : tpOk A I) {t j : Nat} (h : sub (cpar A I) t j) : tI I j = tI I t := by
  obtain ⟨n, h⟩ := h
  induction n generalizing j with
  | zero => rw [Option.some.inj h]
  | succ n ih =>
    simp only [parN] at h
    cases hc : cpar A I j with
    | none => rw [hc] at h; cases h
    | some p =>
      rw [hc] at h
      obtain ⟨c1, c2, c3⟩ := cpar_A hc
      rw [tI_par ht c1 c2, ← c3]
      exact ih h
theorem top_sub (hp : parOk A I) (ht : tpOk A I) (hA : A ≤ 10) : ∀ j, j < A → sub (cpar A I) (tI I j) j := by
  intro j
  induction j using Nat.strongRecOn with
  | ind j ih =>
    intro hj
    by_cases c : I 3 j = -1
    · rcases ht j hj with e | e
      · rw [e.2]; exact sub_rfl
      · exact absurd c e.1
    · have lp := (pI_lt hp hA hj c).2
      rw [tI_par ht hj c]
      exact sub_trans (ih _ lp (by omega)) (sub_par (cpar_s hj c))
theorem pre_mem (hp : parOk A I) (hA : A ≤ 10) {t j : Nat} (h : t < A) : j ∈ pre A (cpar A I) 12 t ↔ j < A ∧ sub (cpar A I) t j := mem_pre (cpar_lt hp hA) 12 t j h (by omega)
theorem post_mem (hp : parOk A I) (hA : A ≤ 10) {t j : Nat} (h : t < A) : j ∈ post A (cpar A I) 12 t ↔ j < A ∧ sub (cpar A I) t j := ((perm_post 12 t).mem_iff).trans (pre_mem hp hA h)
theorem post_pw {par : Nat → Option Nat} (hp : ∀ i p, par i = some p → p < i) : ∀ (f i : Nat), i < A → A - i ≤ f → (post A par f i).Pairwise (fun x y => par y ≠ some x) := by
  intro f
  induction f with
  | zero => intro i hi hf; omega
  | succ f ih =>
    intro i hi hf
    have kid : ∀ c, c ∈ kidsF A par i → c < A ∧ par c = some i ∧ i < c ∧ A - c ≤ f := fun c hc => by
      have := mem_kidsF.mp hc
      have := hp c i this.2
      exact ⟨by omega, (mem_kidsF.mp hc).2, by omega, by omega⟩
    simp only [post]
    rw [List.pairwise_append]
    refine ⟨?_, List.pairwise_singleton _ _, fun x hx y hy e => ?_⟩
    · rw [List.pairwise_flatMap]
      refine ⟨fun c hc => ih c (kid c hc).1 (kid c hc).2.2.2, ?_⟩
      refine List.Pairwise.imp_of_mem ?_ (List.Pairwise.filter _ (List.nodup_range (n := A)))
      intro c d hc hd hne x hx y hy e
      obtain ⟨c1, c2, c3, c4⟩ := kid c hc
      obtain ⟨d1, d2, d3, d4⟩ := kid d hd
      have hx := ((mem_pre hp f c x c1 c4).mp ((perm_post f c).mem_iff.mp hx)).2
      have hy := ((mem_pre hp f d y d1 d4).mp ((perm_post f d).mem_iff.mp hy)).2
      exact hne (sub_apart hp c2 d2 (sub_trans hx (sub_par e)) hy)
    · obtain ⟨c, hc, hx⟩ := List.mem_flatMap.mp hx
      obtain ⟨c1, c2, c3, c4⟩ := kid c hc
      have hx := sub_le hp ((mem_pre hp f c x c1 c4).mp ((perm_post f c).mem_iff.mp hx)).2
      rw [List.mem_singleton] at hy
      subst hy
      have := hp _ _ e
      omega
theorem pre_pw {par : Nat → Option Nat} (hp : ∀ i p, par i = some p → p < i) : ∀ (f i : Nat), i < A → A - i ≤ f → (pre A par f i).Pairwise (fun x y => par x ≠ some y ∧ ((∃ p, par x = some p ∧ par y = some p) → x < y)) := by
  intro f
  induction f with
  | zero => intro i hi hf; omega
  | succ f ih =>
    intro i hi hf
    have kid : ∀ c, c ∈ kidsF A par i → c < A ∧ par c = some i ∧ i < c ∧ A - c ≤ f := fun c hc => by
      have := mem_kidsF.mp hc
      have := hp c i this.2
      exact ⟨by omega, (mem_kidsF.mp hc).2, by omega, by omega⟩
    simp only [pre]
    rw [List.pairwise_cons]
    refine ⟨fun y hy => ?_, ?_⟩
    · obtain ⟨c, hc, hy⟩ := List.mem_flatMap.mp hy
      obtain ⟨c1, c2, c3, c4⟩ := kid c hc
      have hy := sub_le hp ((mem_pre hp f c y c1 c4).mp hy).2
      exact ⟨fun e => by have := hp _ _ e; omega, fun _ => by omega⟩
    · rw [List.pairwise_flatMap]
      refine ⟨fun c hc => ih c (kid c hc).1 (kid c hc).2.2.2, ?_⟩
      refine List.Pairwise.imp_of_mem ?_ (List.Pairwise.filter _ (List.pairwise_lt_range (n := A)))
      intro c d hc hd hlt x hx y hy
      obtain ⟨c1, c2, c3, c4⟩ := kid c hc
      obtain ⟨d1, d2, d3, d4⟩ := kid d hd
      have hx := ((mem_pre hp f c x c1 c4).mp hx).2
      have hy := ((mem_pre hp f d y d1 d4).mp hy).2
      have apart : ∀ j, sub par c j → sub par d j → False := fun j h1 h2 => by
        have := sub_apart hp c2 d2 h1 h2
        omega
      refine ⟨fun e => apart x hx (sub_trans hy (sub_par e)), fun ⟨p, e1, e2⟩ => ?_⟩
      have xc : x = c := by
        by_cases e : c = x
        · exact e.symm
        · obtain ⟨n, hn⟩ := hx
          cases n with
          | zero => exact absurd (Option.some.inj hn).symm e
          | succ n =>
            simp only [parN, e1] at hn
            exact absurd hy (fun hy => apart y (sub_trans ⟨n, hn⟩ (sub_par e2)) hy)
      have yd : y = d := by
        by_cases e : d = y
        · exact e.symm
        · obtain ⟨n, hn⟩ := hy
          cases n with
          | zero => exact absurd (Option.some.inj hn).symm e
          | succ n =>
            simp only [parN, e2] at hn
            exact absurd hx (fun hx => apart x hx (sub_trans ⟨n, hn⟩ (sub_par e1)))
      omega
theorem ord_perm (hp : parOk A I) (ht : tpOk A I) (hA : A ≤ 10) : (ord1 A).Perm (ord2 A I) ∧ (ord1 A).Nodup := by
  have n1 : (ord1 A).Nodup := by
    unfold ord1
    refine List.nodup_append.mpr ⟨List.pairwise_reverse.mpr (List.Pairwise.imp (fun h => Ne.symm h) (List.nodup_range (n := A))), ?_, fun a ha b hb e => ?_⟩
    · exact List.pairwise_map.mpr (List.Pairwise.imp (fun h e => h (by omega)) (List.nodup_range (n := A)))
    · have ha := List.mem_range.mp (List.mem_reverse.mp ha)
      obtain ⟨k, hk, e2⟩ := List.mem_map.mp hb
      omega
  have m2 : ∀ n, n ∈ ord2 A I ↔ n < A + A := by
    intro n
    unfold ord2
    rw [List.mem_flatMap]
    constructor
    · rintro ⟨t, h1, h2⟩
      have htop := mem_ctops.mp h1
      rcases List.mem_append.mp h2 with h | h
      · have := ((post_mem hp hA htop.1).mp h).1
        omega
      · obtain ⟨k, hk, e⟩ := List.mem_map.mp h
        have := ((pre_mem hp hA htop.1).mp hk).1
        omega
    · intro hn
      have topc : ∀ j, j < A → tI I j ∈ ctops A I := fun j hj => by
        have hs := top_sub hp ht hA j hj
        have h1 := sub_le (cpar_lt hp hA) hs
        have : I 3 (tI I j) = -1 := by
          by_cases c : I 3 (tI I j) = -1
          · exact c
          · have h2 := sub_top ht hs
            have lp := (pI_lt hp hA (show tI I j < A by omega) c).2
            have h3 := tI_par ht (show tI I j < A by omega) c
            have h4 := sub_le (cpar_lt hp hA) (top_sub hp ht hA (pI I (tI I j)) (by omega))
            omega
        exact mem_ctops.mpr ⟨by omega, this⟩
      by_cases c : n < A
      · refine ⟨tI I n, topc n c, List.mem_append.mpr (Or.inl ((post_mem hp hA (mem_ctops.mp (topc n c)).1).mpr ⟨c, top_sub hp ht hA n c⟩))⟩
      · have c2 : n - A < A := by omega
        refine ⟨tI I (n - A), topc _ c2, List.mem_append.mpr (Or.inr (List.mem_map.mpr ⟨n - A, (pre_mem hp hA (mem_ctops.mp (topc _ c2)).1).mpr ⟨c2, top_sub hp ht hA _ c2⟩, by omega⟩))⟩
  have m1 : ∀ n, n ∈ ord1 A ↔ n < A + A := by
    intro n
    unfold ord1
    rw [List.mem_append, List.mem_reverse, List.mem_range, List.mem_map]
    constructor
    · rintro (h | ⟨k, hk, e⟩)
      · omega
      · have := List.mem_range.mp hk; omega
    · intro h
      by_cases c : n < A
      · exact Or.inl c
      · exact Or.inr ⟨n - A, List.mem_range.mpr (by omega), by omega⟩
  have n2 : (ord2 A I).Nodup := by
    unfold ord2
    refine List.pairwise_flatMap.mpr ?_
    constructor
    · intro t h1
      have htop := mem_ctops.mp h1
      have np := nodup_pre (A := A) (cpar_lt hp hA) 12 t htop.1 (by omega)
      refine List.nodup_append.mpr ⟨(perm_post 12 t).nodup_iff.mpr np, List.pairwise_map.mpr (List.Pairwise.imp (fun h e => h (by omega)) np), fun a ha b hb e => ?_⟩
      have := ((post_mem hp hA htop.1).mp ha).1
      obtain ⟨k, hk, e2⟩ := List.mem_map.mp hb
      omega
    · refine List.Pairwise.imp_of_mem ?_ (List.Pairwise.filter _ (List.nodup_range (n := A)))
      intro t u h1 h2 hne n hn m hm enm
      subst enm
      have t1 := mem_ctops.mp h1
      have u1 := mem_ctops.mp h2
      have tt : tI I t = t := by
        rcases ht t t1.1 with e | e
        · exact e.2
        · exact absurd t1.2 e.1
      have uu : tI I u = u := by
        rcases ht u u1.1 with e | e
        · exact e.2
        · exact absurd u1.2 e.1
      have key : ∀ {v : Nat}, v < A → n ∈ post A (cpar A I) 12 v ++ (pre A (cpar A I) 12 v).map (fun k => A + k) → (n < A ∧ sub (cpar A I) v n) ∨ (A ≤ n ∧ sub (cpar A I) v (n - A)) := by
        intro v hv h
        rcases List.mem_append.mp h with h | h
        · exact Or.inl ((post_mem hp hA hv).mp h)
        · obtain ⟨k, hk, e⟩ := List.mem_map.mp h
          have := ((pre_mem hp hA hv).mp hk).2
          have e2 : n - A = k := by omega
          exact Or.inr ⟨by omega, by rw [e2]; exact this⟩
      rcases key t1.1 hn with ⟨a1, a2⟩ | ⟨a1, a2⟩ <;> rcases key u1.1 hm with ⟨b1, b2⟩ | ⟨b1, b2⟩
      · exact hne (by rw [← tt, ← uu, ← sub_top ht a2, ← sub_top ht b2])
      · omega
      · omega
      · exact hne (by rw [← tt, ← uu, ← sub_top ht a2, ← sub_top ht b2])
  refine ⟨?_, n1⟩
  rw [List.perm_ext_iff_of_nodup n1 n2]
  intro a
  rw [m1, m2]
theorem ord1_bef (hp : parOk A I) (hA : A ≤ 10) : (ord1 A).Pairwise (bef A I) := by
  unfold ord1
  rw [List.pairwise_append]
  refine ⟨?_, ?_, fun x hx y hy => ?_⟩
  · rw [List.pairwise_reverse]
    refine List.Pairwise.imp_of_mem ?_ (List.pairwise_lt_range (n := A))
    intro a b ha hb hab
    have ha := List.mem_range.mp ha
    have hb := List.mem_range.mp hb
    unfold bef
    rw [if_pos hb, if_pos ha]
    intro e
    have := cpar_lt hp hA _ _ e
    omega
  · rw [List.pairwise_map]
    refine List.Pairwise.imp_of_mem ?_ (List.pairwise_lt_range (n := A))
    intro a b ha hb hab
    unfold bef
    rw [if_neg (by omega), if_neg (by omega), Nat.add_sub_cancel_left, Nat.add_sub_cancel_left]
    refine ⟨fun e => ?_, fun _ => hab⟩
    have := cpar_lt hp hA _ _ e
    omega
  · have hx := List.mem_range.mp (List.mem_reverse.mp hx)
    obtain ⟨k, hk, e⟩ := List.mem_map.mp hy
    unfold bef
    rw [if_pos hx, if_neg (by omega)]
    trivial
theorem ord2_bef (hp : parOk A I) (ht : tpOk A I) (hA : A ≤ 10) : (ord2 A I).Pairwise (bef A I) := by
  unfold ord2
  rw [List.pairwise_flatMap]
  constructor
  · intro t h1
    have htop := mem_ctops.mp h1
    rw [List.pairwise_append]
    refine ⟨?_, ?_, fun x hx y hy => ?_⟩
    · refine List.Pairwise.imp_of_mem ?_ (post_pw (A := A) (cpar_lt hp hA) 12 t htop.1 (by omega))
      intro x y hx hy e
      have hx := ((post_mem hp hA htop.1).mp hx).1
      have hy := ((post_mem hp hA htop.1).mp hy).1
      unfold bef
      rw [if_pos hx, if_pos hy]
      exact e
    · rw [List.pairwise_map]
      refine List.Pairwise.imp ?_ (pre_pw (A := A) (cpar_lt hp hA) 12 t htop.1 (by omega))
      intro x y e
      unfold bef
      rw [if_neg (by omega), if_neg (by omega), Nat.add_sub_cancel_left, Nat.add_sub_cancel_left]
      exact e
    · have hx := ((post_mem hp hA htop.1).mp hx).1
      obtain ⟨k, hk, e⟩ := List.mem_map.mp hy
      unfold bef
      rw [if_pos hx, if_neg (by omega)]
      trivial
  · refine List.Pairwise.imp_of_mem ?_ (List.Pairwise.filter _ (List.nodup_range (n := A)))
    intro t u h1 h2 hne x hx y hy
    have t1 := mem_ctops.mp h1
    have u1 := mem_ctops.mp h2
    have tt : tI I t = t := by
      rcases ht t t1.1 with e | e
      · exact e.2
      · exact absurd t1.2 e.1
    have uu : tI I u = u := by
      rcases ht u u1.1 with e | e
      · exact e.2
      · exact absurd u1.2 e.1
    have key : ∀ {v n : Nat}, v < A → n ∈ post A (cpar A I) 12 v ++ (pre A (cpar A I) 12 v).map (fun k => A + k) → (n < A ∧ sub (cpar A I) v n) ∨ (¬ n < A ∧ sub (cpar A I) v (n - A)) := by
      intro v n hv h
      rcases List.mem_append.mp h with h | h
      · exact Or.inl ((post_mem hp hA hv).mp h)
      · obtain ⟨k, hk, e⟩ := List.mem_map.mp h
        have := ((pre_mem hp hA hv).mp hk).2
        have e2 : n - A = k := by omega
        exact Or.inr ⟨by omega, by rw [e2]; exact this⟩
    have dif : ∀ {a b : Nat}, sub (cpar A I) t a → sub (cpar A I) u b → tI I a ≠ tI I b := fun a2 b2 e => hne (by rw [← tt, ← uu, ← sub_top ht a2, ← sub_top ht b2, e])
    unfold bef
    rcases key t1.1 hx with ⟨a1, a2⟩ | ⟨a1, a2⟩ <;> rcases key u1.1 hy with ⟨b1, b2⟩ | ⟨b1, b2⟩
    · rw [if_pos a1, if_pos b1]
      intro e
      exact dif (sub_trans a2 (sub_par e)) b2 rfl
    · rw [if_pos a1, if_neg b1]
      trivial
    · rw [if_neg a1, if_pos b1]
      exact dif a2 b2
    · rw [if_neg a1, if_neg b1]
      refine ⟨fun e => dif a2 (sub_trans b2 (sub_par e)) rfl, fun ⟨p, e1, e2⟩ => ?_⟩
      obtain ⟨c1, c2, c3⟩ := cpar_A e1
      obtain ⟨d1, d2, d3⟩ := cpar_A e2
      exact absurd ((tI_par ht c1 c2).trans ((congrArg (tI I) (c3.symm.trans d3)).trans (tI_par ht d1 d2).symm)) (dif a2 b2)
theorem foldS_map {σ : Type} (S : Nat → σ → σ) (g : Nat → Nat) : ∀ (l : List Nat) (y : σ), foldS S (l.map g) y = foldS (fun k => S (g k)) l y
  | [], _ => rfl
  | a :: l, y => by rw [List.map_cons, foldS_cons, foldS_map S g l]; rfl
theorem sweep_eq (hp : parOk A I) (ht : tpOk A I) (hA : A ≤ 10) (y : Nat → Int64) : foldS (swC A I) (ctops A I) y = itr (dnC I) A (itd (upS I) A y) := by
  have e1 : foldS (stp A I) (ord1 A) y = itr (dnC I) A (itd (upS I) A y) := by
    unfold ord1
    rw [foldS_app, foldS_map, itr_foldS, itd_foldS]
    rw [foldS_congr (f := stp A I) (g := upS I) _ _ (fun x hx s => if_pos (List.mem_range.mp (List.mem_reverse.mp hx)))]
    refine foldS_congr _ _ (fun x hx s => ?_)
    show stp A I (A + x) s = _
    unfold stp
    rw [if_neg (by omega), Nat.add_sub_cancel_left]
  have e2 : foldS (stp A I) (ord2 A I) y = foldS (swC A I) (ctops A I) y := by
    unfold ord2
    rw [foldS_flat]
    refine foldS_congr _ _ (fun t h1 s => ?_)
    have htop := mem_ctops.mp h1
    rw [foldS_app, foldS_map]
    unfold swC
    rw [foldS_congr (f := stp A I) (g := upS I) _ _ (fun x hx s => if_pos ((post_mem hp hA htop.1).mp hx).1)]
    refine foldS_congr _ _ (fun x hx s => ?_)
    show stp A I (A + x) s = _
    unfold stp
    rw [if_neg (by omega), Nat.add_sub_cancel_left]
  obtain ⟨pm, nd⟩ := ord_perm hp ht hA
  rw [← e1, ← e2]
  have lim : ∀ n, n ∈ ord1 A → n < A + A := by
    intro n hn
    unfold ord1 at hn
    rcases List.mem_append.mp hn with h | h
    · have := List.mem_range.mp (List.mem_reverse.mp h); omega
    · obtain ⟨k, hk, e⟩ := List.mem_map.mp h
      have := List.mem_range.mp hk; omega
  -- steps beyond do nothing: so that all steps commute where they may
  have e3 : ∀ l : List Nat, (∀ n ∈ l, n < A + A) → ∀ s, foldS (stp A I) l s = foldS (fun n w => if n < A + A then stp A I n w else w) l s := fun l hl s => foldS_congr _ _ (fun x hx s => (if_pos (hl x hx)).symm)
  rw [e3 _ (fun n hn => lim n (pm.mem_iff.mpr hn)), e3 _ lim]
  refine (trace _ (bef A I) ?_ (ord1 A) (ord2 A I) pm nd (ord1_bef hp hA) (ord2_bef hp ht hA) y).symm
  intro x y' hne h1 h2 s
  by_cases cx : x < A + A
  · by_cases cy : y' < A + A
    · simp only [if_pos cx, if_pos cy]
      exact stp_comm hp ht hA cx cy hne h1 h2 s
    · simp only [if_neg cy]
  · simp only [if_neg cx]
end OR
