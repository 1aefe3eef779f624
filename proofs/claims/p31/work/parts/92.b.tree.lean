/-! ===== totals along the tree; sweeping leaves what a pool has ===== -/
section TT
variable {A L F p : Nat} {I : Nat → Nat → Int32} {y y' : Nat → Int64}
theorem total_f (hn : cEn A L F I) {i : Nat} (hi : i < A) {f : Nat} (hf : A - i ≤ f) : foldS (fun x t => t + y x) (pre A (cpar A I) f i) 0 = sumF I A y (I 4 i) i := by
  have hA := hn.1
  have hp : parOk A I := hn.2.2.2.1
  have ha : acOk A I := hn.2.2.2.2.1
  have ht : tpOk A I := hn.2.2.2.2.2.1
  have hpl := cpar_lt hp hA
  have nd := nodup_pre (A := A) hpl f i hi hf
  have nd2 : ((List.range A).filter (fun c => blF I i c)).Nodup := List.Pairwise.filter _ (List.nodup_range (n := A))
  have pm : (pre A (cpar A I) f i).Perm ((List.range A).filter (fun c => blF I i c)) := by
    rw [List.perm_ext_iff_of_nodup nd nd2]
    intro a
    rw [mem_pre hpl f i a hi hf, List.mem_filter, List.mem_range]
    constructor
    · rintro ⟨a1, a2⟩; exact ⟨a1, (bl_sub hp hA a1).mpr a2⟩
    · rintro ⟨a1, a2⟩; exact ⟨a1, (bl_sub hp hA a1).mp a2⟩
  rw [fold_comm (S := fun x t => t + y x) (fun a b s => add_right_comm64 s (y b) (y a)) pm nd]
  unfold sumF
  rw [foldS_filter, itr_foldS]
  refine foldS_congr _ _ (fun x hx s => ?_)
  have hx := List.mem_range.mp hx
  unfold sumS
  by_cases c : blF I i x = true
  · have e : I 4 x = I 4 i := by
      rw [(ha x hx).1, (ha i hi).1, sub_top ht ((bl_sub hp hA hx).mp c)]
    rw [if_pos c, if_pos ⟨e, c⟩]
  · rw [if_neg c, if_neg (fun v => c v.2), Int64.add_zero]
/-- a filtered sum -/
theorem fold_filter {q : Nat → Bool} {G : Nat → Int64} {s : Int64} : foldS (fun x t => t + G x) ((List.range A).filter q) s = s + s64 (fun k => if q k = true then G k else 0) A := by
  rw [foldS_filter, ← itr_foldS, ← s64_itr]
  refine itr_fun A s (fun k t _ => ?_)
  by_cases c : q k = true
  · rw [if_pos c, if_pos c]
  · rw [if_neg c, if_neg c, Int64.add_zero]
/-- an account has what it holds itself and what its children have -/
theorem total_kids (hn : cEn A L F I) {i : Nat} (hi : i < A) : sumF I A y (I 4 i) i = y i + s64 (fun k => if cpar A I k = some i then sumF I A y (I 4 k) k else 0) A := by
  have hpl := cpar_lt hn.2.2.2.1 hn.1
  have hA := hn.1
  rw [← total_f (y := y) hn hi (f := 12) (by omega)]
  show foldS (fun x t => t + y x) (i :: (kidsF A (cpar A I) i).flatMap (pre A (cpar A I) 11)) 0 = _
  rw [foldS_cons, foldS_flat]
  have e : foldS (fun c s => foldS (fun x t => t + y x) (pre A (cpar A I) 11 c) s) (kidsF A (cpar A I) i) (0 + y i) = foldS (fun c s => s + sumF I A y (I 4 c) c) (kidsF A (cpar A I) i) (0 + y i) := by
    refine foldS_congr _ _ (fun c hc s => ?_)
    obtain ⟨c1, c2⟩ := mem_kidsF.mp hc
    have c3 := hpl c i c2
    rw [fold_shift, total_f hn c1 (by omega)]
  rw [e]
  unfold kidsF
  rw [fold_filter, Int64.zero_add]
  congr 1
  refine s64_congr A (fun k _ => ?_)
  by_cases c : cpar A I k = some i
  · rw [if_pos (decide_eq_true c), if_pos c]
  · rw [if_neg (by rw [decide_eq_false c]; exact Bool.false_ne_true), if_neg c]
theorem mbT_ps : mbT A I p y = ps A I p y := by
  unfold mbT cmem
  rw [fold_filter, Int64.zero_add]
  refine s64_congr A (fun k _ => ?_)
  by_cases c : tI I k = p
  · rw [if_pos (decide_eq_true c), if_pos c]
  · rw [if_neg (by rw [decide_eq_false c]; exact Bool.false_ne_true), if_neg c]
theorem cEn.selfp (hn : cEn A L F I) {t : Nat} (ht : t < A) (h3 : I 3 t = -1) : tI I t = t := by
  rcases hn.2.2.2.2.2.1 t ht with h | h
  · exact h.2
  · exact absurd h3 h.1
/-- a top account has with all below it what its pool has -/
theorem total_pool (hn : cEn A L F I) {t : Nat} (ht : t < A) (h3 : I 3 t = -1) : sumF I A y (I 4 t) t = ps A I t y := by
  rw [← mbT_ps, mbT_eq hn.2.2.2.1 hn.2.2.2.2.1 hn.2.2.2.2.2.1 hn.1 ht, (hn.2.2.2.2.1 t ht).1, hn.selfp ht h3]
theorem ps_upS (hn : cEn A L F I) {k : Nat} (hk : k < A) : ps A I p (upS I k y) = ps A I p y := by
  unfold upS
  split
  · rename_i h
    have e := pI_lt hn.2.2.2.1 hn.1 hk h.1
    exact ps_mov hk (by omega) (tI_par hn.2.2.2.2.2.1 hk h.1)
  · rfl
theorem ps_dnS (hn : cEn A L F I) {k : Nat} (hk : k < A) : ps A I p (dnS I k y) = ps A I p y := by
  unfold dnS
  split
  · rename_i h
    have e := pI_lt hn.2.2.2.1 hn.1 hk h.1
    exact ps_mov (by omega) hk (tI_par hn.2.2.2.2.2.1 hk h.1).symm
  · rfl
theorem ps_sweep (hn : cEn A L F I) : ps A I p (sweepF I A y) = ps A I p y := by
  unfold sweepF
  refine itr_bd (R := fun w => ps A I p w = ps A I p y) A _ (fun k w hk h => ?_) ?_
  · exact (ps_dnS hn hk).trans h
  · exact itd_bd (R := fun w => ps A I p w = ps A I p y) A y (fun k w hk h => (ps_upS hn hk).trans h) rfl
end TT
