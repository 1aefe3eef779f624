/-! ===== the law's start ===== -/
theorem js_eqT {args : Array Value} {s : State} {t : Term} {k : Int32} (h : (Cond.eq t (.int k)).before args s = true) : t.eval args s none [] s = some (.int k) := by
  cases hv : t.eval args s none [] s with
  | none => simp [Cond.before, Cond.holds, Cond.value, hv] at h
  | some w =>
    have hz : (Term.int k).eval args s none [] s = some (.int k) := rfl
    simp only [Cond.before, Cond.holds, Cond.value, hv, hz] at h
    cases w <;> simp_all
theorem js_len {args : Array Value} {s : State} {t : Term} {v : Value} (h : (Term.length t).eval args s none [] s = some v) : ∃ a cell, t.eval args s none [] s = some (.ref a) ∧ s.arrayAt? a = some cell ∧ cell.slots.size < 2147483648 ∧ v = .int cell.slots.size.toInt32 := by
  simp only [Term.eval, Option.bind_eq_bind] at h
  cases ht : t.eval args s none [] s with
  | none => simp [ht] at h
  | some x =>
    cases x <;> simp [ht] at h
    case ref a =>
      obtain ⟨cell, hcell, h⟩ := Option.bind_eq_some_iff.mp h
      by_cases hn : cell.slots.size < 2147483648
      · rw [if_pos hn] at h; cases h; exact ⟨a, cell, rfl, hcell, hn, rfl⟩
      · rw [if_neg hn] at h; cases h
theorem js_ac {args : Array Value} {s : State} {ty : FieldType} (h : (Cond.arrayClass ty).before args s = true) (hty : ∀ C, ty ≠ .object C) : ∃ c, ArrOfT s c ty ∧ va_RA s c ty := by
  obtain ⟨c, k, comp, h1, h2, h3⟩ := Cond.arrayClass_spec (first := s) (o := none) (idx := []) h
  refine ⟨c, fun n z => ⟨fun k h => (by cases h), k, h2, comp, h3⟩, ?_⟩
  cases ty with
  | object C => exact absurd rfl (hty C)
  | _ => exact h1
abbrev jsD : Term := .static "java/util/ArrayList" "DEFAULTCAPACITY_EMPTY_ELEMENTDATA" "[Ljava/lang/Object;"
section ST
variable {p : Program} {s : State} {m : MethodId} {meth : Method} {c : Code} {b L : Nat} {xs : Nat → Int32}
theorem js_z (hgv : (Jvm.Cond.and given_1 narrow_1).before #[Value.ref b] s = true) : ∃ (q : Nat) (cell : Cell) (k : ClassId), jsD.eval #[Value.ref b] s none [] s = some (.ref q) ∧ s.heap[q]? = some cell ∧ s.vm.findClass "[Ljava/lang/Object;" = some k ∧ cell.cls = k ∧ cell.slots.size = 0 ∧ cell.vm ≠ .unknown ∧ cell.vm.isStatics = false := by
  have hs := flat_of_before _ hgv
  have h1 : (Cond.exactly jsD "[Ljava/lang/Object;").before #[Value.ref b] s = true := hs _ (by decide +kernel)
  have h2 : (Cond.arrayOf jsD (.object "java/lang/Object")).before #[Value.ref b] s = true := hs _ (by decide +kernel)
  have h3 : (Cond.eq (.length jsD) (.int 0)).before #[Value.ref b] s = true := hs _ (by decide +kernel)
  obtain ⟨q, k, cell, kk, e1, e2, e3, e4, e5, e6, -⟩ := Cond.exactly_spec (first := s) (o := none) (idx := []) h1
  have e7 := Cond.arrayOf_spec (first := s) (o := none) (idx := []) h2 e1 e3
  obtain ⟨q2, cell2, f1, f2, f3, f4⟩ := js_len (js_eqT h3)
  cases e1.symm.trans f1
  have f5 := (State.arrayAt?_spec f2).1
  cases e3.symm.trans f5
  refine ⟨q, cell, k, e1, e3, e2, e6, ?_, e7.2, e5⟩
  have w := Value.int.inj f4
  have h4 : (Int32.ofNat cell.slots.size).toNatClampNeg = cell.slots.size := Int32.toNatClampNeg_ofNat_of_lt (by omega)
  have w2 : Int32.ofNat cell.slots.size = 0 := w.symm
  rw [w2] at h4
  exact h4.symm
theorem js_cls (hts : ∀ w ∈ lw_tbl, w.before #[Value.ref b] s = true) : ∃ (dC : Nat → ClassId) (dI : Nat → Nat → Nat), ∀ (k : Nat) (q : vw_C), vwCl[k]? = some q → u_Kn s q.1 q.2.1 q.2.2 (dC k) (dI k) := by
  obtain ⟨c0, i0, h0⟩ := u_known (C := RJx4a65c) (T := TJx4a65c) (N := 3) (n := 3) hts inJx4a65c (hts (.instantiable RJx4a65c 3) (List.mem_of_getElem? (i := 63) (by decide +kernel)))
  obtain ⟨c1, i1, h1⟩ := u_known (C := RJx4a65c) (T := TJx4a65c) (N := 3) (n := 3) hts inJx4a65c (hts (.instantiable RJx4a65c 3) (List.mem_of_getElem? (i := 63) (by decide +kernel)))
  obtain ⟨c2, i2, h2⟩ := u_known (C := RJx4a65c) (T := TJx4a65c) (N := 3) (n := 3) hts inJx4a65c (hts (.instantiable RJx4a65c 3) (List.mem_of_getElem? (i := 63) (by decide +kernel)))
  obtain ⟨c3, i3, h3⟩ := u_known (C := RX0) (T := TX0) (N := 12) (n := 12) hts inX0 (hts (.instantiable RX0 12) (List.mem_of_getElem? (i := 420) (by decide +kernel)))
  obtain ⟨c4, i4, h4⟩ := u_known (C := RX1) (T := TX1) (N := 3) (n := 3) hts inX1 (hts (.instantiable RX1 3) (List.mem_of_getElem? (i := 100) (by decide +kernel)))
  obtain ⟨c5, i5, h5⟩ := u_known (C := RX2) (T := TX2) (N := 1) (n := 1) hts inX2 (hts (.instantiable RX2 1) (List.mem_of_getElem? (i := 89) (by decide +kernel)))
  obtain ⟨c6, i6, h6⟩ := u_known (C := RX3) (T := TX3) (N := 8) (n := 8) hts inX3 (hts (.instantiable RX3 8) (List.mem_of_getElem? (i := 57) (by decide +kernel)))
  obtain ⟨c7, i7, h7⟩ := u_known (C := RX4) (T := TX4) (N := 7) (n := 7) hts inX4 (hts (.instantiable RX4 7) (List.mem_of_getElem? (i := 980) (by decide +kernel)))
  obtain ⟨c8, i8, h8⟩ := u_known (C := RX5) (T := TX5) (N := 9) (n := 9) hts inX5 (hts (.instantiable RX5 9) (List.mem_of_getElem? (i := 558) (by decide +kernel)))
  obtain ⟨c9, i9, h9⟩ := u_known (C := RX6) (T := TX6) (N := 5) (n := 5) hts inX6 (hts (.instantiable RX6 5) (List.mem_of_getElem? (i := 353) (by decide +kernel)))
  obtain ⟨c10, i10, h10⟩ := u_known (C := RX7) (T := TX7) (N := 10) (n := 10) hts inX7 (hts (.instantiable RX7 10) (List.mem_of_getElem? (i := 361) (by decide +kernel)))
  obtain ⟨c11, i11, h11⟩ := u_known (C := RX9) (T := TX9) (N := 1) (n := 1) hts inX9 (hts (.instantiable RX9 1) (List.mem_of_getElem? (i := 49) (by decide +kernel)))
  refine ⟨fun k => if k = 0 then c0 else if k = 1 then c1 else if k = 2 then c2 else if k = 3 then c3 else if k = 4 then c4 else if k = 5 then c5 else if k = 6 then c6 else if k = 7 then c7 else if k = 8 then c8 else if k = 9 then c9 else if k = 10 then c10 else c11, fun k => if k = 0 then i0 else if k = 1 then i1 else if k = 2 then i2 else if k = 3 then i3 else if k = 4 then i4 else if k = 5 then i5 else if k = 6 then i6 else if k = 7 then i7 else if k = 8 then i8 else if k = 9 then i9 else if k = 10 then i10 else i11, ?_⟩
  intro k q hq
  match k, hq with
  | 0, hq => cases hq; exact h0
  | 1, hq => cases hq; exact h1
  | 2, hq => cases hq; exact h2
  | 3, hq => cases hq; exact h3
  | 4, hq => cases hq; exact h4
  | 5, hq => cases hq; exact h5
  | 6, hq => cases hq; exact h6
  | 7, hq => cases hq; exact h7
  | 8, hq => cases hq; exact h8
  | 9, hq => cases hq; exact h9
  | 10, hq => cases hq; exact h10
  | 11, hq => cases hq; exact h11
  | k + 12, hq => simp at hq
theorem js_obj (hts : ∀ w ∈ lw_tbl, w.before #[Value.ref b] s = true) : ∀ (i : Nat) (r : vw_C), vwCl[i]? = some r → va_Nw (.castable r.1 "java/lang/Object") s := by
  intro k q hq
  match k, hq with
  | 0, hq => cases hq; exact va_Nw.of rfl (hts (.castable RJx4a65c "java/lang/Object") (List.mem_of_getElem? (i := 1026) (by decide +kernel)))
  | 1, hq => cases hq; exact va_Nw.of rfl (hts (.castable RJx4a65c "java/lang/Object") (List.mem_of_getElem? (i := 1026) (by decide +kernel)))
  | 2, hq => cases hq; exact va_Nw.of rfl (hts (.castable RJx4a65c "java/lang/Object") (List.mem_of_getElem? (i := 1026) (by decide +kernel)))
  | 3, hq => cases hq; exact va_Nw.of rfl (hts (.castable RX0 "java/lang/Object") (List.mem_of_getElem? (i := 1033) (by decide +kernel)))
  | 4, hq => cases hq; exact va_Nw.of rfl (hts (.castable RX1 "java/lang/Object") (List.mem_of_getElem? (i := 1028) (by decide +kernel)))
  | 5, hq => cases hq; exact va_Nw.of rfl (hts (.castable RX2 "java/lang/Object") (List.mem_of_getElem? (i := 1027) (by decide +kernel)))
  | 6, hq => cases hq; exact va_Nw.of rfl (hts (.castable RX3 "java/lang/Object") (List.mem_of_getElem? (i := 1025) (by decide +kernel)))
  | 7, hq => cases hq; exact va_Nw.of rfl (hts (.castable RX4 "java/lang/Object") (List.mem_of_getElem? (i := 1036) (by decide +kernel)))
  | 8, hq => cases hq; exact va_Nw.of rfl (hts (.castable RX5 "java/lang/Object") (List.mem_of_getElem? (i := 1035) (by decide +kernel)))
  | 9, hq => cases hq; exact va_Nw.of rfl (hts (.castable RX6 "java/lang/Object") (List.mem_of_getElem? (i := 1031) (by decide +kernel)))
  | 10, hq => cases hq; exact va_Nw.of rfl (hts (.castable RX7 "java/lang/Object") (List.mem_of_getElem? (i := 1032) (by decide +kernel)))
  | 11, hq => cases hq; exact va_Nw.of rfl (hts (.castable RX9 "java/lang/Object") (List.mem_of_getElem? (i := 1024) (by decide +kernel)))
  | k + 12, hq => simp at hq
theorem js_s1 {k : Nat} {tx : String} (h1 : (Cond.stringRef "CashPools" k tx).before #[Value.ref b] s = true) (h2 : (Cond.exactly (.string "CashPools" k) "java/lang/String").before #[Value.ref b] s = true) : ∃ a, vk_R "CashPools" k tx a s := by
  obtain ⟨q, c, cell, kk, e1, -⟩ := Cond.exactly_spec (first := s) (o := none) (idx := []) h2
  exact ⟨q, vk_R.of h1 e1⟩
theorem js_str (hts : ∀ w ∈ lw_tbl, w.before #[Value.ref b] s = true) (hgv : (Jvm.Cond.and given_1 narrow_1).before #[Value.ref b] s = true) : ∀ q ∈ jStr, ∃ a, vk_R q.1 q.2.1 q.2.2 a s := by
  have hs := flat_of_before _ hgv
  unfold jStr
  exact List.forall_mem_cons.mpr ⟨js_s1 (hts _ (List.mem_of_getElem? (i := 869) (by decide +kernel))) (hs _ (by decide +kernel)), List.forall_mem_cons.mpr ⟨js_s1 (hts _ (List.mem_of_getElem? (i := 978) (by decide +kernel))) (hs _ (by decide +kernel)), List.forall_mem_cons.mpr ⟨js_s1 (hts _ (List.mem_of_getElem? (i := 326) (by decide +kernel))) (hs _ (by decide +kernel)), List.forall_mem_cons.mpr ⟨js_s1 (hts _ (List.mem_of_getElem? (i := 654) (by decide +kernel))) (hs _ (by decide +kernel)), List.forall_mem_cons.mpr ⟨js_s1 (hts _ (List.mem_of_getElem? (i := 551) (by decide +kernel))) (hs _ (by decide +kernel)), List.forall_mem_cons.mpr ⟨js_s1 (hts _ (List.mem_of_getElem? (i := 340) (by decide +kernel))) (hs _ (by decide +kernel)), List.forall_mem_cons.mpr ⟨js_s1 (hts _ (List.mem_of_getElem? (i := 504) (by decide +kernel))) (hs _ (by decide +kernel)), List.forall_mem_cons.mpr ⟨js_s1 (hts _ (List.mem_of_getElem? (i := 898) (by decide +kernel))) (hs _ (by decide +kernel)), List.forall_mem_cons.mpr ⟨js_s1 (hts _ (List.mem_of_getElem? (i := 1018) (by decide +kernel))) (hs _ (by decide +kernel)), List.forall_mem_cons.mpr ⟨js_s1 (hts _ (List.mem_of_getElem? (i := 280) (by decide +kernel))) (hs _ (by decide +kernel)), List.forall_mem_cons.mpr ⟨js_s1 (hts _ (List.mem_of_getElem? (i := 534) (by decide +kernel))) (hs _ (by decide +kernel)), List.forall_mem_cons.mpr ⟨js_s1 (hts _ (List.mem_of_getElem? (i := 552) (by decide +kernel))) (hs _ (by decide +kernel)), fun _ h => absurd h List.not_mem_nil⟩⟩⟩⟩⟩⟩⟩⟩⟩⟩⟩⟩
theorem js_ex (hts : ∀ w ∈ lw_tbl, w.before #[Value.ref b] s = true) : ∀ E ∈ jEx, va_Nw (.castable E E) s := by
  unfold jEx
  exact fun _ h => absurd h List.not_mem_nil
theorem js_nc (hgv : (Jvm.Cond.and given_1 narrow_1).before #[Value.ref b] s = true) : ∀ E ∈ jEx, ∀ N ∈ jEx, E ≠ N → va_Nc E N s := by
  have hs := flat_of_before _ hgv
  unfold jEx
  refine fun _ h => absurd h List.not_mem_nil
theorem js_dec (hts : ∀ w ∈ lw_tbl, w.before #[Value.ref b] s = true) : ∀ y ∈ [Bundle.initS "java/lang/RuntimeException", Bundle.initS "java/lang/Exception", Bundle.initS Bundle.tN], va_Nw (.declares y) s :=
  List.forall_mem_cons.mpr ⟨va_Nw.of rfl (hts _ (List.mem_of_getElem? (i := 243) (by decide +kernel))), List.forall_mem_cons.mpr ⟨va_Nw.of rfl (hts _ (List.mem_of_getElem? (i := 245) (by decide +kernel))), List.forall_mem_cons.mpr ⟨va_Nw.of rfl (hts _ (List.mem_of_getElem? (i := 247) (by decide +kernel))), fun _ h => absurd h List.not_mem_nil⟩⟩⟩
theorem js_start (l : Launch) (hflags : l.flags = flags0) (C0 : lw_At p s m meth c b L xs) : ∃ (D : jD) (z : Nat × Nat), jXL D z p l s m b L xs meth c ∧ jIz D z (jAL s) s.heap (fun a => if a = z.1 then some jZ0 else none) s.heap [] := by
  obtain ⟨hx, hb, hr, hml, hown, hts, hX, hbl, hlocks, hgv⟩ := C0
  have hs := flat_of_before _ hgv
  have hA : ∀ a : Nat, a < s.heap.size → ¬ jAL s a := fun a ha => Nat.not_le.mpr ha
  obtain ⟨dC, dI, hKc⟩ := js_cls hts
  obtain ⟨q, cell, kO, z1, z2, z3, z4, z5, z6, z7⟩ := js_z hgv
  obtain ⟨kI, hI1, hI2⟩ := js_ac (ty := .int) (hts _ (List.mem_of_getElem? (i := 306) (by decide +kernel))) (fun C v => by cases v)
  obtain ⟨kJ, hJ1, hJ2⟩ := js_ac (ty := .long) (hts _ (List.mem_of_getElem? (i := 398) (by decide +kernel))) (fun C v => by cases v)
  obtain ⟨kB, hB1, hB2⟩ := js_ac (ty := .boolean) (hts _ (List.mem_of_getElem? (i := 98) (by decide +kernel))) (fun C v => by cases v)
  have hAO : (Cond.arrayOver (.object "java/lang/Object")).before #[Value.ref b] s = true := hts _ (List.mem_of_getElem? (i := 169) (by decide +kernel))
  obtain ⟨comp, cO, kA, o1, -, o3, o4, o5⟩ := Cond.arrayOver_spec (first := s) (o := none) (idx := []) hAO
  have o5 : s.vm.findClass "[Ljava/lang/Object;" = some cO := o5
  have ek : kO = cO := Option.some.inj (z3.symm.trans o5)
  subst ek
  obtain ⟨mi, hMi⟩ := va_Mi.of (hs (.isRef (.mirror "[Ljava/lang/Object;")) (by decide +kernel))
  have hK : jK ((dC, dI), fun t => if t = 0 then kI else if t = 1 then kJ else if t = 2 then kB else kO) s := by
    refine ⟨hKc, fun k q hq => ?_⟩
    match k, hq with
    | 0, hq => cases hq; exact ⟨hI1, hI2⟩
    | 1, hq => cases hq; exact ⟨hJ1, hJ2⟩
    | 2, hq => cases hq; exact ⟨hB1, hB2⟩
    | 3, hq => cases hq; exact ⟨fun n z => ⟨fun k h => (by cases h), kA, o3, comp, o4⟩, kA, comp, o3, o4, o1, o5⟩
    | k + 4, hq => simp [jty] at hq
  refine ⟨((dC, dI), fun t => if t = 0 then kI else if t = 1 then kJ else if t = 2 then kB else kO), (q, mi), ⟨hx, hb, hml, hown, fun w hw => hts w (wsL_law_in w hw), hr, hlocks, hK, ?_, ?_, hX, hbl⟩, ?_⟩
  · refine ⟨va_Zref (hts _ (List.mem_of_getElem? (i := 75) (by decide +kernel))) (hts _ (List.mem_of_getElem? (i := 24) (by decide +kernel))) z1 hA, ?_, ?_, hMi, va_AO.of hAO, va_Dc.of (hts _ (List.mem_of_getElem? (i := 1041) (by decide +kernel))), js_obj hts, js_str hts hgv, js_ex hts, js_nc hgv, va_Nw.of rfl (hts _ (List.mem_of_getElem? (i := 90) (by decide +kernel))), va_Nw.of rfl (hts _ (List.mem_of_getElem? (i := 923) (by decide +kernel))), js_dec hts⟩
    · exact vx_Zqof (args := #[Value.ref b]) (hts _ (List.mem_of_getElem? (i := 266) (by decide +kernel))) (hts _ (List.mem_of_getElem? (i := 31) (by decide +kernel))) (hs _ (by decide +kernel)) hA
    · exact vx_Zqof (args := #[Value.ref b]) (hts _ (List.mem_of_getElem? (i := 268) (by decide +kernel))) (hts _ (List.mem_of_getElem? (i := 31) (by decide +kernel))) (hs _ (by decide +kernel)) hA
  · unfold Launch.stackTraces
    rw [hflags]
    decide +kernel
  · have hz : q < s.heap.size := (Array.getElem?_eq_some_iff.mp z2).1
    refine ⟨⟨fun a e ha he => ?_, cell, z2, z4, z5, z6, z7⟩, fun a e he ha => ?_, va_S.rf, fun _ h => h, if_pos rfl, hA _ hz⟩
    · have he : (if a = (q, mi).1 then some jZ0 else none) = some e := he
      rw [if_neg ha] at he; cases he
    · have he : (if a = (q, mi).1 then some jZ0 else none) = some e := he
      rw [if_neg ha] at he; cases he
end ST
