section
variable {p : Program} {l : Launch} {e : Env} {s : State} {m : MethodId} {args : Array Value} {below : List Frame} {meth : Method} {c : Code} {D : jD} {z : Nat × Nat} {A : Nat → Prop}
set_option maxHeartbeats 4000000 in
set_option maxRecDepth 100000 in
theorem kX10_init_174 {b : Nat} (hX : jX2 D z A p l s m args meth c yX10_init cX10_init 2 wsX10_init none) {Q : Unit → jM → Prop}  (n : Nat) : ∀ {x1 : Int32} {μ : jM} {H : Heap} {locs : List Loc} {ls : Array Slot} {cells slots : Nat}, wX10_init_174 z b Q n x1 μ → jIz D z A s.heap μ H locs → lv_has ls 2 [(0, va_rf (some b)), (1, .int x1)] → cells + 0 ≤ 21 → slots + 0 ≤ 881 → W p l e rmX10_init s m args below meth c H locs cells slots (MQ below (jRz jfV Q D z A) args s 21 881 A) (F0 m 174 ls []) := by
  induction n with
  | zero =>
    intros
    rename_i hw _ _ _ _
    exact (show False from hw).elim
  | succ n ih =>
    intro x1 μ H locs ls cells slots hw hI hl hcn hsn
    have hw : wX10_init_174_b z b Q (wX10_init_174 z b Q n) x1 μ := hw
    unfold wX10_init_174_b at hw
    obtain ⟨hx, hb, hml, hown, hts, hr, hlocks, hnm, hK, hG, hfl⟩ := id hX
    have hown : s.vm.findClass RX10 = some m.cls := hown
    have hfX10 : ∀ w ∈ wsX100, w.before args s = true := fun w h => hts w (List.mem_cons_of_mem _ (List.mem_append_right _ h))
    refine lv_iload_n hx hb dX10_init_174 rfl (lv_at hl 1 rfl) ?_
    refine lv_iconst (v := (4)) hx hb dX10_init_175 (by decide) ?_
    refine lv_icmp_ge (tgt := 192) hx hb dX10_init_176 (by decide) (fun hc => ?_) (fun hc => ?_)
    · have hw := hw.1 hc
      exact j_vretz hx hb hr hlocks hI hw (by omega) (by omega) dX10_init_192
    · have hw := hw.2 hc
      refine j_aload_n (r := (some b)) hx hb dX10_init_179 rfl (lv_at hl 0 rfl) ?_
      obtain ⟨v1, hv1, hw⟩ := hw
      refine j_getz (C := RX10) (T := TX10) (N := 25) (ci := 12) (r := (some b)) (v := va_rf v1) hx hb hfX10 hown hK hI rfl 16 (by decide) (hts (.fieldLink RX10 50 "CashPoolsModel" "bankLimit" "[I") (List.mem_of_getElem? (i := 19) (by decide +kernel))) (fun _ h => h) hv1 dX10_init_180 ?_
      refine lv_iload_n hx hb dX10_init_183 rfl (lv_at hl 1 rfl) ?_
      refine lv_iconst (v := (-1)) hx hb dX10_init_184 (by decide) ?_
      obtain ⟨μ2, hμ2, hw⟩ := hw
      refine j_iastz (r := v1) hx hb hK hI hμ2 dX10_init_185 (fun H locs hI => ?_)
      obtain ⟨v3, ev3⟩ : ∃ y : Int32, y = x1 + (1 : Int32) := ⟨_, rfl⟩
      have hw := hw v3 ev3
      refine lv_iinc (v := v3) (lv' := [(1, .int v3), (0, va_rf (some b))]) hx hb dX10_init_186 hl (k := 1) rfl (by rw [ev3]; rfl) (by decide) rfl (fun ls hl => ?_)
      refine lv_goto (tgt := 174) hx hb dX10_init_189 (by decide) ?_
      exact ih hw hI (lv_sub hl [1, 0] rfl) (by omega) (by omega)
set_option maxHeartbeats 4000000 in
set_option maxRecDepth 100000 in
theorem kX10_init_0 {b : Nat} (hX : jX2 D z A p l s m args meth c yX10_init cX10_init 2 wsX10_init none) {Q : Unit → jM → Prop}   {μ : jM} {H : Heap} {locs : List Loc} {ls : Array Slot} {cells slots : Nat} (hw : wX10_init_0 z b Q  μ) (hI : jIz D z A s.heap μ H locs) (hl : lv_has ls 2 [(0, va_rf (some b))]) (hcn : cells + 21 ≤ 21) (hsn : slots + 881 ≤ 881) : W p l e rmX10_init s m args below meth c H locs cells slots (MQ below (jRz jfV Q D z A) args s 21 881 A) (F0 m 0 ls []) := by
  unfold wX10_init_0 at hw
  obtain ⟨hx, hb, hml, hown, hts, hr, hlocks, hnm, hK, hG, hfl⟩ := id hX
  have hown : s.vm.findClass RX10 = some m.cls := hown
  have hfX10 : ∀ w ∈ wsX100, w.before args s = true := fun w h => hts w (List.mem_cons_of_mem _ (List.mem_append_right _ h))
  refine j_aload_n (r := (some b)) hx hb dX10_init_0 rfl (lv_at hl 0 rfl) ?_
  refine W.objInit hx hb hown (hts (.methodLink RX10 1 objectInit) (List.mem_of_getElem? (i := 1) (by decide +kernel))) (hts (.instanceMethod objectInit) (List.mem_of_getElem? (i := 2) (by decide +kernel))) (hts (.code objectInit ⟨#[0xb1]⟩ 1 none) (List.mem_of_getElem? (i := 3) (by decide +kernel))) rfl (by rw [hml]; exact hl.1) rfl dX10_init_1 (Nat.le_of_ble_eq_true rfl) (Nat.le_of_ble_eq_true rfl) ?_
  refine W.eq (g2 := F0 m 4 ls []) rfl ?_
  refine j_aload_n (r := (some b)) hx hb dX10_init_4 rfl (lv_at hl 0 rfl) ?_
  refine lv_bipush (v := (109)) hx hb dX10_init_5 (by decide) ?_
  refine j_newaz (atype := .long) (ty := .long) (t := 1) (N' := 109) (a0 := (109, .inr (.inl (fun _ => 0)))) hx hb (hts (.arrayClass .long) (List.mem_of_getElem? (i := 4) (by decide +kernel))) rfl hK hI (fun cA h => Option.some.inj (h.symm.trans ((hK.2 1 (D.2 1, .long) rfl).2))) (fun cA => rfl) (by decide) (by decide) (by decide) (by show _ ≤ 21; omega) (by show _ ≤ 881; omega) dX10_init_7 (fun q1 H hq1 hI => ?_)
  have hw := hw q1 hq1
  obtain ⟨μ2, hμ2, hw⟩ := hw
  refine j_putFz (C := RX10) (T := TX10) (N := 25) (ci := 12) (r := (some b)) (v := va_rf (some q1)) hx hb hfX10 tyX10 tyX10_ok nmX10 hown hK hI rfl 3 (by decide) (hts (.fieldLink RX10 7 "CashPoolsModel" "z" "[J") (List.mem_of_getElem? (i := 5) (by decide +kernel))) (fun _ h => h) rfl hnm rfl (tyX10_ok 3 (by decide)) (jnra _ (some q1)) (jfra _ (some q1)) hμ2 dX10_init_9 (fun H locs hI => ?_)
  refine j_aload_n (r := (some b)) hx hb dX10_init_12 rfl (lv_at hl 0 rfl) ?_
  refine lv_bipush (v := (109)) hx hb dX10_init_13 (by decide) ?_
  refine j_newaz (atype := .long) (ty := .long) (t := 1) (N' := 109) (a0 := (109, .inr (.inl (fun _ => 0)))) hx hb (hts (.arrayClass .long) (List.mem_of_getElem? (i := 4) (by decide +kernel))) rfl hK hI (fun cA h => Option.some.inj (h.symm.trans ((hK.2 1 (D.2 1, .long) rfl).2))) (fun cA => rfl) (by decide) (by decide) (by decide) (by show _ ≤ 21; omega) (by show _ ≤ 881; omega) dX10_init_15 (fun q3 H hq3 hI => ?_)
  have hw := hw q3 hq3
  obtain ⟨μ4, hμ4, hw⟩ := hw
  refine j_putFz (C := RX10) (T := TX10) (N := 25) (ci := 12) (r := (some b)) (v := va_rf (some q3)) hx hb hfX10 tyX10 tyX10_ok nmX10 hown hK hI rfl 4 (by decide) (hts (.fieldLink RX10 13 "CashPoolsModel" "kept" "[J") (List.mem_of_getElem? (i := 6) (by decide +kernel))) (fun _ h => h) rfl hnm rfl (tyX10_ok 4 (by decide)) (jnra _ (some q3)) (jfra _ (some q3)) hμ4 dX10_init_17 (fun H locs hI => ?_)
  refine j_aload_n (r := (some b)) hx hb dX10_init_20 rfl (lv_at hl 0 rfl) ?_
  refine lv_bipush (v := (10)) hx hb dX10_init_21 (by decide) ?_
  refine j_newaz (atype := .int) (ty := .int) (t := 0) (N' := 10) (a0 := (10, .inl (fun _ => 0))) hx hb (hts (.arrayClass .int) (List.mem_of_getElem? (i := 7) (by decide +kernel))) rfl hK hI (fun cA h => Option.some.inj (h.symm.trans ((hK.2 0 (D.2 0, .int) rfl).2))) (fun cA => rfl) (by decide) (by decide) (by decide) (by show _ ≤ 21; omega) (by show _ ≤ 881; omega) dX10_init_23 (fun q5 H hq5 hI => ?_)
  have hw := hw q5 hq5
  obtain ⟨μ6, hμ6, hw⟩ := hw
  refine j_putFz (C := RX10) (T := TX10) (N := 25) (ci := 12) (r := (some b)) (v := va_rf (some q5)) hx hb hfX10 tyX10 tyX10_ok nmX10 hown hK hI rfl 5 (by decide) (hts (.fieldLink RX10 16 "CashPoolsModel" "parent" "[I") (List.mem_of_getElem? (i := 8) (by decide +kernel))) (fun _ h => h) rfl hnm rfl (tyX10_ok 5 (by decide)) (jnra _ (some q5)) (jfra _ (some q5)) hμ6 dX10_init_25 (fun H locs hI => ?_)
  refine j_aload_n (r := (some b)) hx hb dX10_init_28 rfl (lv_at hl 0 rfl) ?_
  refine lv_bipush (v := (10)) hx hb dX10_init_29 (by decide) ?_
  refine j_newaz (atype := .int) (ty := .int) (t := 0) (N' := 10) (a0 := (10, .inl (fun _ => 0))) hx hb (hts (.arrayClass .int) (List.mem_of_getElem? (i := 7) (by decide +kernel))) rfl hK hI (fun cA h => Option.some.inj (h.symm.trans ((hK.2 0 (D.2 0, .int) rfl).2))) (fun cA => rfl) (by decide) (by decide) (by decide) (by show _ ≤ 21; omega) (by show _ ≤ 881; omega) dX10_init_31 (fun q7 H hq7 hI => ?_)
  have hw := hw q7 hq7
  obtain ⟨μ8, hμ8, hw⟩ := hw
  refine j_putFz (C := RX10) (T := TX10) (N := 25) (ci := 12) (r := (some b)) (v := va_rf (some q7)) hx hb hfX10 tyX10 tyX10_ok nmX10 hown hK hI rfl 6 (by decide) (hts (.fieldLink RX10 20 "CashPoolsModel" "top" "[I") (List.mem_of_getElem? (i := 9) (by decide +kernel))) (fun _ h => h) rfl hnm rfl (tyX10_ok 6 (by decide)) (jnra _ (some q7)) (jfra _ (some q7)) hμ8 dX10_init_33 (fun H locs hI => ?_)
  refine j_aload_n (r := (some b)) hx hb dX10_init_36 rfl (lv_at hl 0 rfl) ?_
  refine lv_bipush (v := (10)) hx hb dX10_init_37 (by decide) ?_
  refine j_newaz (atype := .int) (ty := .int) (t := 0) (N' := 10) (a0 := (10, .inl (fun _ => 0))) hx hb (hts (.arrayClass .int) (List.mem_of_getElem? (i := 7) (by decide +kernel))) rfl hK hI (fun cA h => Option.some.inj (h.symm.trans ((hK.2 0 (D.2 0, .int) rfl).2))) (fun cA => rfl) (by decide) (by decide) (by decide) (by show _ ≤ 21; omega) (by show _ ≤ 881; omega) dX10_init_39 (fun q9 H hq9 hI => ?_)
  have hw := hw q9 hq9
  obtain ⟨μ10, hμ10, hw⟩ := hw
  refine j_putFz (C := RX10) (T := TX10) (N := 25) (ci := 12) (r := (some b)) (v := va_rf (some q9)) hx hb hfX10 tyX10 tyX10_ok nmX10 hown hK hI rfl 7 (by decide) (hts (.fieldLink RX10 23 "CashPoolsModel" "bank" "[I") (List.mem_of_getElem? (i := 10) (by decide +kernel))) (fun _ h => h) rfl hnm rfl (tyX10_ok 7 (by decide)) (jnra _ (some q9)) (jfra _ (some q9)) hμ10 dX10_init_41 (fun H locs hI => ?_)
  refine j_aload_n (r := (some b)) hx hb dX10_init_44 rfl (lv_at hl 0 rfl) ?_
  refine lv_bipush (v := (10)) hx hb dX10_init_45 (by decide) ?_
  refine j_newaz (atype := .int) (ty := .int) (t := 0) (N' := 10) (a0 := (10, .inl (fun _ => 0))) hx hb (hts (.arrayClass .int) (List.mem_of_getElem? (i := 7) (by decide +kernel))) rfl hK hI (fun cA h => Option.some.inj (h.symm.trans ((hK.2 0 (D.2 0, .int) rfl).2))) (fun cA => rfl) (by decide) (by decide) (by decide) (by show _ ≤ 21; omega) (by show _ ≤ 881; omega) dX10_init_47 (fun q11 H hq11 hI => ?_)
  have hw := hw q11 hq11
  obtain ⟨μ12, hμ12, hw⟩ := hw
  refine j_putFz (C := RX10) (T := TX10) (N := 25) (ci := 12) (r := (some b)) (v := va_rf (some q11)) hx hb hfX10 tyX10 tyX10_ok nmX10 hown hK hI rfl 8 (by decide) (hts (.fieldLink RX10 26 "CashPoolsModel" "rule" "[I") (List.mem_of_getElem? (i := 11) (by decide +kernel))) (fun _ h => h) rfl hnm rfl (tyX10_ok 8 (by decide)) (jnra _ (some q11)) (jfra _ (some q11)) hμ12 dX10_init_49 (fun H locs hI => ?_)
  refine j_aload_n (r := (some b)) hx hb dX10_init_52 rfl (lv_at hl 0 rfl) ?_
  refine lv_bipush (v := (10)) hx hb dX10_init_53 (by decide) ?_
  refine j_newaz (atype := .int) (ty := .int) (t := 0) (N' := 10) (a0 := (10, .inl (fun _ => 0))) hx hb (hts (.arrayClass .int) (List.mem_of_getElem? (i := 7) (by decide +kernel))) rfl hK hI (fun cA h => Option.some.inj (h.symm.trans ((hK.2 0 (D.2 0, .int) rfl).2))) (fun cA => rfl) (by decide) (by decide) (by decide) (by show _ ≤ 21; omega) (by show _ ≤ 881; omega) dX10_init_55 (fun q13 H hq13 hI => ?_)
  have hw := hw q13 hq13
  obtain ⟨μ14, hμ14, hw⟩ := hw
  refine j_putFz (C := RX10) (T := TX10) (N := 25) (ci := 12) (r := (some b)) (v := va_rf (some q13)) hx hb hfX10 tyX10 tyX10_ok nmX10 hown hK hI rfl 9 (by decide) (hts (.fieldLink RX10 29 "CashPoolsModel" "target" "[I") (List.mem_of_getElem? (i := 12) (by decide +kernel))) (fun _ h => h) rfl hnm rfl (tyX10_ok 9 (by decide)) (jnra _ (some q13)) (jfra _ (some q13)) hμ14 dX10_init_57 (fun H locs hI => ?_)
  refine j_aload_n (r := (some b)) hx hb dX10_init_60 rfl (lv_at hl 0 rfl) ?_
  refine lv_bipush (v := (10)) hx hb dX10_init_61 (by decide) ?_
  refine j_newaz (atype := .int) (ty := .int) (t := 0) (N' := 10) (a0 := (10, .inl (fun _ => 0))) hx hb (hts (.arrayClass .int) (List.mem_of_getElem? (i := 7) (by decide +kernel))) rfl hK hI (fun cA h => Option.some.inj (h.symm.trans ((hK.2 0 (D.2 0, .int) rfl).2))) (fun cA => rfl) (by decide) (by decide) (by decide) (by show _ ≤ 21; omega) (by show _ ≤ 881; omega) dX10_init_63 (fun q15 H hq15 hI => ?_)
  have hw := hw q15 hq15
  obtain ⟨μ16, hμ16, hw⟩ := hw
  refine j_putFz (C := RX10) (T := TX10) (N := 25) (ci := 12) (r := (some b)) (v := va_rf (some q15)) hx hb hfX10 tyX10 tyX10_ok nmX10 hown hK hI rfl 10 (by decide) (hts (.fieldLink RX10 32 "CashPoolsModel" "floor" "[I") (List.mem_of_getElem? (i := 13) (by decide +kernel))) (fun _ h => h) rfl hnm rfl (tyX10_ok 10 (by decide)) (jnra _ (some q15)) (jfra _ (some q15)) hμ16 dX10_init_65 (fun H locs hI => ?_)
  refine j_aload_n (r := (some b)) hx hb dX10_init_68 rfl (lv_at hl 0 rfl) ?_
  refine lv_bipush (v := (10)) hx hb dX10_init_69 (by decide) ?_
  refine j_newaz (atype := .int) (ty := .int) (t := 0) (N' := 10) (a0 := (10, .inl (fun _ => 0))) hx hb (hts (.arrayClass .int) (List.mem_of_getElem? (i := 7) (by decide +kernel))) rfl hK hI (fun cA h => Option.some.inj (h.symm.trans ((hK.2 0 (D.2 0, .int) rfl).2))) (fun cA => rfl) (by decide) (by decide) (by decide) (by show _ ≤ 21; omega) (by show _ ≤ 881; omega) dX10_init_71 (fun q17 H hq17 hI => ?_)
  have hw := hw q17 hq17
  obtain ⟨μ18, hμ18, hw⟩ := hw
  refine j_putFz (C := RX10) (T := TX10) (N := 25) (ci := 12) (r := (some b)) (v := va_rf (some q17)) hx hb hfX10 tyX10 tyX10_ok nmX10 hown hK hI rfl 11 (by decide) (hts (.fieldLink RX10 35 "CashPoolsModel" "creditRate" "[I") (List.mem_of_getElem? (i := 14) (by decide +kernel))) (fun _ h => h) rfl hnm rfl (tyX10_ok 11 (by decide)) (jnra _ (some q17)) (jfra _ (some q17)) hμ18 dX10_init_73 (fun H locs hI => ?_)
  refine j_aload_n (r := (some b)) hx hb dX10_init_76 rfl (lv_at hl 0 rfl) ?_
  refine lv_bipush (v := (10)) hx hb dX10_init_77 (by decide) ?_
  refine j_newaz (atype := .int) (ty := .int) (t := 0) (N' := 10) (a0 := (10, .inl (fun _ => 0))) hx hb (hts (.arrayClass .int) (List.mem_of_getElem? (i := 7) (by decide +kernel))) rfl hK hI (fun cA h => Option.some.inj (h.symm.trans ((hK.2 0 (D.2 0, .int) rfl).2))) (fun cA => rfl) (by decide) (by decide) (by decide) (by show _ ≤ 21; omega) (by show _ ≤ 881; omega) dX10_init_79 (fun q19 H hq19 hI => ?_)
  have hw := hw q19 hq19
  obtain ⟨μ20, hμ20, hw⟩ := hw
  refine j_putFz (C := RX10) (T := TX10) (N := 25) (ci := 12) (r := (some b)) (v := va_rf (some q19)) hx hb hfX10 tyX10 tyX10_ok nmX10 hown hK hI rfl 12 (by decide) (hts (.fieldLink RX10 38 "CashPoolsModel" "debitRate" "[I") (List.mem_of_getElem? (i := 15) (by decide +kernel))) (fun _ h => h) rfl hnm rfl (tyX10_ok 12 (by decide)) (jnra _ (some q19)) (jfra _ (some q19)) hμ20 dX10_init_81 (fun H locs hI => ?_)
  refine j_aload_n (r := (some b)) hx hb dX10_init_84 rfl (lv_at hl 0 rfl) ?_
  refine lv_bipush (v := (6)) hx hb dX10_init_85 (by decide) ?_
  refine j_newaz (atype := .int) (ty := .int) (t := 0) (N' := 6) (a0 := (6, .inl (fun _ => 0))) hx hb (hts (.arrayClass .int) (List.mem_of_getElem? (i := 7) (by decide +kernel))) rfl hK hI (fun cA h => Option.some.inj (h.symm.trans ((hK.2 0 (D.2 0, .int) rfl).2))) (fun cA => rfl) (by decide) (by decide) (by decide) (by show _ ≤ 21; omega) (by show _ ≤ 881; omega) dX10_init_87 (fun q21 H hq21 hI => ?_)
  have hw := hw q21 hq21
  obtain ⟨μ22, hμ22, hw⟩ := hw
  refine j_putFz (C := RX10) (T := TX10) (N := 25) (ci := 12) (r := (some b)) (v := va_rf (some q21)) hx hb hfX10 tyX10 tyX10_ok nmX10 hown hK hI rfl 13 (by decide) (hts (.fieldLink RX10 41 "CashPoolsModel" "linePool" "[I") (List.mem_of_getElem? (i := 16) (by decide +kernel))) (fun _ h => h) rfl hnm rfl (tyX10_ok 13 (by decide)) (jnra _ (some q21)) (jfra _ (some q21)) hμ22 dX10_init_89 (fun H locs hI => ?_)
  refine j_aload_n (r := (some b)) hx hb dX10_init_92 rfl (lv_at hl 0 rfl) ?_
  refine lv_bipush (v := (6)) hx hb dX10_init_93 (by decide) ?_
  refine j_newaz (atype := .int) (ty := .int) (t := 0) (N' := 6) (a0 := (6, .inl (fun _ => 0))) hx hb (hts (.arrayClass .int) (List.mem_of_getElem? (i := 7) (by decide +kernel))) rfl hK hI (fun cA h => Option.some.inj (h.symm.trans ((hK.2 0 (D.2 0, .int) rfl).2))) (fun cA => rfl) (by decide) (by decide) (by decide) (by show _ ≤ 21; omega) (by show _ ≤ 881; omega) dX10_init_95 (fun q23 H hq23 hI => ?_)
  have hw := hw q23 hq23
  obtain ⟨μ24, hμ24, hw⟩ := hw
  refine j_putFz (C := RX10) (T := TX10) (N := 25) (ci := 12) (r := (some b)) (v := va_rf (some q23)) hx hb hfX10 tyX10 tyX10_ok nmX10 hown hK hI rfl 14 (by decide) (hts (.fieldLink RX10 44 "CashPoolsModel" "lineLimit" "[I") (List.mem_of_getElem? (i := 17) (by decide +kernel))) (fun _ h => h) rfl hnm rfl (tyX10_ok 14 (by decide)) (jnra _ (some q23)) (jfra _ (some q23)) hμ24 dX10_init_97 (fun H locs hI => ?_)
  refine j_aload_n (r := (some b)) hx hb dX10_init_100 rfl (lv_at hl 0 rfl) ?_
  refine lv_bipush (v := (6)) hx hb dX10_init_101 (by decide) ?_
  refine j_newaz (atype := .int) (ty := .int) (t := 0) (N' := 6) (a0 := (6, .inl (fun _ => 0))) hx hb (hts (.arrayClass .int) (List.mem_of_getElem? (i := 7) (by decide +kernel))) rfl hK hI (fun cA h => Option.some.inj (h.symm.trans ((hK.2 0 (D.2 0, .int) rfl).2))) (fun cA => rfl) (by decide) (by decide) (by decide) (by show _ ≤ 21; omega) (by show _ ≤ 881; omega) dX10_init_103 (fun q25 H hq25 hI => ?_)
  have hw := hw q25 hq25
  obtain ⟨μ26, hμ26, hw⟩ := hw
  refine j_putFz (C := RX10) (T := TX10) (N := 25) (ci := 12) (r := (some b)) (v := va_rf (some q25)) hx hb hfX10 tyX10 tyX10_ok nmX10 hown hK hI rfl 15 (by decide) (hts (.fieldLink RX10 47 "CashPoolsModel" "lineRate" "[I") (List.mem_of_getElem? (i := 18) (by decide +kernel))) (fun _ h => h) rfl hnm rfl (tyX10_ok 15 (by decide)) (jnra _ (some q25)) (jfra _ (some q25)) hμ26 dX10_init_105 (fun H locs hI => ?_)
  refine j_aload_n (r := (some b)) hx hb dX10_init_108 rfl (lv_at hl 0 rfl) ?_
  refine lv_iconst (v := (4)) hx hb dX10_init_109 (by decide) ?_
  refine j_newaz (atype := .int) (ty := .int) (t := 0) (N' := 4) (a0 := (4, .inl (fun _ => 0))) hx hb (hts (.arrayClass .int) (List.mem_of_getElem? (i := 7) (by decide +kernel))) rfl hK hI (fun cA h => Option.some.inj (h.symm.trans ((hK.2 0 (D.2 0, .int) rfl).2))) (fun cA => rfl) (by decide) (by decide) (by decide) (by show _ ≤ 21; omega) (by show _ ≤ 881; omega) dX10_init_110 (fun q27 H hq27 hI => ?_)
  have hw := hw q27 hq27
  obtain ⟨μ28, hμ28, hw⟩ := hw
  refine j_putFz (C := RX10) (T := TX10) (N := 25) (ci := 12) (r := (some b)) (v := va_rf (some q27)) hx hb hfX10 tyX10 tyX10_ok nmX10 hown hK hI rfl 16 (by decide) (hts (.fieldLink RX10 50 "CashPoolsModel" "bankLimit" "[I") (List.mem_of_getElem? (i := 19) (by decide +kernel))) (fun _ h => h) rfl hnm rfl (tyX10_ok 16 (by decide)) (jnra _ (some q27)) (jfra _ (some q27)) hμ28 dX10_init_112 (fun H locs hI => ?_)
  refine j_aload_n (r := (some b)) hx hb dX10_init_115 rfl (lv_at hl 0 rfl) ?_
  refine lv_bipush (v := (20)) hx hb dX10_init_116 (by decide) ?_
  refine j_newaz (atype := .int) (ty := .int) (t := 0) (N' := 20) (a0 := (20, .inl (fun _ => 0))) hx hb (hts (.arrayClass .int) (List.mem_of_getElem? (i := 7) (by decide +kernel))) rfl hK hI (fun cA h => Option.some.inj (h.symm.trans ((hK.2 0 (D.2 0, .int) rfl).2))) (fun cA => rfl) (by decide) (by decide) (by decide) (by show _ ≤ 21; omega) (by show _ ≤ 881; omega) dX10_init_118 (fun q29 H hq29 hI => ?_)
  have hw := hw q29 hq29
  obtain ⟨μ30, hμ30, hw⟩ := hw
  refine j_putFz (C := RX10) (T := TX10) (N := 25) (ci := 12) (r := (some b)) (v := va_rf (some q29)) hx hb hfX10 tyX10 tyX10_ok nmX10 hown hK hI rfl 17 (by decide) (hts (.fieldLink RX10 53 "CashPoolsModel" "flowAccount" "[I") (List.mem_of_getElem? (i := 20) (by decide +kernel))) (fun _ h => h) rfl hnm rfl (tyX10_ok 17 (by decide)) (jnra _ (some q29)) (jfra _ (some q29)) hμ30 dX10_init_120 (fun H locs hI => ?_)
  refine j_aload_n (r := (some b)) hx hb dX10_init_123 rfl (lv_at hl 0 rfl) ?_
  refine lv_bipush (v := (20)) hx hb dX10_init_124 (by decide) ?_
  refine j_newaz (atype := .int) (ty := .int) (t := 0) (N' := 20) (a0 := (20, .inl (fun _ => 0))) hx hb (hts (.arrayClass .int) (List.mem_of_getElem? (i := 7) (by decide +kernel))) rfl hK hI (fun cA h => Option.some.inj (h.symm.trans ((hK.2 0 (D.2 0, .int) rfl).2))) (fun cA => rfl) (by decide) (by decide) (by decide) (by show _ ≤ 21; omega) (by show _ ≤ 881; omega) dX10_init_126 (fun q31 H hq31 hI => ?_)
  have hw := hw q31 hq31
  obtain ⟨μ32, hμ32, hw⟩ := hw
  refine j_putFz (C := RX10) (T := TX10) (N := 25) (ci := 12) (r := (some b)) (v := va_rf (some q31)) hx hb hfX10 tyX10 tyX10_ok nmX10 hown hK hI rfl 18 (by decide) (hts (.fieldLink RX10 56 "CashPoolsModel" "flowAmount" "[I") (List.mem_of_getElem? (i := 21) (by decide +kernel))) (fun _ h => h) rfl hnm rfl (tyX10_ok 18 (by decide)) (jnra _ (some q31)) (jfra _ (some q31)) hμ32 dX10_init_128 (fun H locs hI => ?_)
  refine j_aload_n (r := (some b)) hx hb dX10_init_131 rfl (lv_at hl 0 rfl) ?_
  refine lv_bipush (v := (20)) hx hb dX10_init_132 (by decide) ?_
  refine j_newaz (atype := .int) (ty := .int) (t := 0) (N' := 20) (a0 := (20, .inl (fun _ => 0))) hx hb (hts (.arrayClass .int) (List.mem_of_getElem? (i := 7) (by decide +kernel))) rfl hK hI (fun cA h => Option.some.inj (h.symm.trans ((hK.2 0 (D.2 0, .int) rfl).2))) (fun cA => rfl) (by decide) (by decide) (by decide) (by show _ ≤ 21; omega) (by show _ ≤ 881; omega) dX10_init_134 (fun q33 H hq33 hI => ?_)
  have hw := hw q33 hq33
  obtain ⟨μ34, hμ34, hw⟩ := hw
  refine j_putFz (C := RX10) (T := TX10) (N := 25) (ci := 12) (r := (some b)) (v := va_rf (some q33)) hx hb hfX10 tyX10 tyX10_ok nmX10 hown hK hI rfl 19 (by decide) (hts (.fieldLink RX10 59 "CashPoolsModel" "flowFirst" "[I") (List.mem_of_getElem? (i := 22) (by decide +kernel))) (fun _ h => h) rfl hnm rfl (tyX10_ok 19 (by decide)) (jnra _ (some q33)) (jfra _ (some q33)) hμ34 dX10_init_136 (fun H locs hI => ?_)
  refine j_aload_n (r := (some b)) hx hb dX10_init_139 rfl (lv_at hl 0 rfl) ?_
  refine lv_bipush (v := (20)) hx hb dX10_init_140 (by decide) ?_
  refine j_newaz (atype := .int) (ty := .int) (t := 0) (N' := 20) (a0 := (20, .inl (fun _ => 0))) hx hb (hts (.arrayClass .int) (List.mem_of_getElem? (i := 7) (by decide +kernel))) rfl hK hI (fun cA h => Option.some.inj (h.symm.trans ((hK.2 0 (D.2 0, .int) rfl).2))) (fun cA => rfl) (by decide) (by decide) (by decide) (by show _ ≤ 21; omega) (by show _ ≤ 881; omega) dX10_init_142 (fun q35 H hq35 hI => ?_)
  have hw := hw q35 hq35
  obtain ⟨μ36, hμ36, hw⟩ := hw
  refine j_putFz (C := RX10) (T := TX10) (N := 25) (ci := 12) (r := (some b)) (v := va_rf (some q35)) hx hb hfX10 tyX10 tyX10_ok nmX10 hown hK hI rfl 20 (by decide) (hts (.fieldLink RX10 62 "CashPoolsModel" "flowStep" "[I") (List.mem_of_getElem? (i := 23) (by decide +kernel))) (fun _ h => h) rfl hnm rfl (tyX10_ok 20 (by decide)) (jnra _ (some q35)) (jfra _ (some q35)) hμ36 dX10_init_144 (fun H locs hI => ?_)
  refine j_aload_n (r := (some b)) hx hb dX10_init_147 rfl (lv_at hl 0 rfl) ?_
  refine lv_bipush (v := (20)) hx hb dX10_init_148 (by decide) ?_
  refine j_newaz (atype := .int) (ty := .int) (t := 0) (N' := 20) (a0 := (20, .inl (fun _ => 0))) hx hb (hts (.arrayClass .int) (List.mem_of_getElem? (i := 7) (by decide +kernel))) rfl hK hI (fun cA h => Option.some.inj (h.symm.trans ((hK.2 0 (D.2 0, .int) rfl).2))) (fun cA => rfl) (by decide) (by decide) (by decide) (by show _ ≤ 21; omega) (by show _ ≤ 881; omega) dX10_init_150 (fun q37 H hq37 hI => ?_)
  have hw := hw q37 hq37
  obtain ⟨μ38, hμ38, hw⟩ := hw
  refine j_putFz (C := RX10) (T := TX10) (N := 25) (ci := 12) (r := (some b)) (v := va_rf (some q37)) hx hb hfX10 tyX10 tyX10_ok nmX10 hown hK hI rfl 21 (by decide) (hts (.fieldLink RX10 65 "CashPoolsModel" "flowTimes" "[I") (List.mem_of_getElem? (i := 24) (by decide +kernel))) (fun _ h => h) rfl hnm rfl (tyX10_ok 21 (by decide)) (jnra _ (some q37)) (jfra _ (some q37)) hμ38 dX10_init_152 (fun H locs hI => ?_)
  refine j_aload_n (r := (some b)) hx hb dX10_init_155 rfl (lv_at hl 0 rfl) ?_
  refine lv_sipush (v := (451)) hx hb dX10_init_156 (by decide) ?_
  refine j_newaz (atype := .boolean) (ty := .boolean) (t := 2) (N' := 451) (a0 := (451, .inl (fun _ => 0))) hx hb (hts (.arrayClass .boolean) (List.mem_of_getElem? (i := 25) (by decide +kernel))) rfl hK hI (fun cA h => Option.some.inj (h.symm.trans ((hK.2 2 (D.2 2, .boolean) rfl).2))) (fun cA => rfl) (by decide) (by decide) (by decide) (by show _ ≤ 21; omega) (by show _ ≤ 881; omega) dX10_init_159 (fun q39 H hq39 hI => ?_)
  have hw := hw q39 hq39
  obtain ⟨μ40, hμ40, hw⟩ := hw
  refine j_putFz (C := RX10) (T := TX10) (N := 25) (ci := 12) (r := (some b)) (v := va_rf (some q39)) hx hb hfX10 tyX10 tyX10_ok nmX10 hown hK hI rfl 22 (by decide) (hts (.fieldLink RX10 68 "CashPoolsModel" "isHoliday" "[Z") (List.mem_of_getElem? (i := 26) (by decide +kernel))) (fun _ h => h) rfl hnm rfl (tyX10_ok 22 (by decide)) (jnra _ (some q39)) (jfra _ (some q39)) hμ40 dX10_init_161 (fun H locs hI => ?_)
  refine j_aload_n (r := (some b)) hx hb dX10_init_164 rfl (lv_at hl 0 rfl) ?_
  refine lv_bipush (v := (10)) hx hb dX10_init_165 (by decide) ?_
  refine j_newaz (atype := .long) (ty := .long) (t := 1) (N' := 10) (a0 := (10, .inr (.inl (fun _ => 0)))) hx hb (hts (.arrayClass .long) (List.mem_of_getElem? (i := 4) (by decide +kernel))) rfl hK hI (fun cA h => Option.some.inj (h.symm.trans ((hK.2 1 (D.2 1, .long) rfl).2))) (fun cA => rfl) (by decide) (by decide) (by decide) (by show _ ≤ 21; omega) (by show _ ≤ 881; omega) dX10_init_167 (fun q41 H hq41 hI => ?_)
  have hw := hw q41 hq41
  obtain ⟨μ42, hμ42, hw⟩ := hw
  refine j_putFz (C := RX10) (T := TX10) (N := 25) (ci := 12) (r := (some b)) (v := va_rf (some q41)) hx hb hfX10 tyX10 tyX10_ok nmX10 hown hK hI rfl 23 (by decide) (hts (.fieldLink RX10 72 "CashPoolsModel" "left" "[J") (List.mem_of_getElem? (i := 27) (by decide +kernel))) (fun _ h => h) rfl hnm rfl (tyX10_ok 23 (by decide)) (jnra _ (some q41)) (jfra _ (some q41)) hμ42 dX10_init_169 (fun H locs hI => ?_)
  refine lv_iconst (v := (0)) hx hb dX10_init_172 (by decide) ?_
  refine lv_topi (fun v43 ev43 => ?_)
  have hw := hw v43 ev43
  refine lv_istore_n (lv' := [(1, .int v43), (0, va_rf (some b))]) hx hb dX10_init_173 rfl hl (by decide) rfl (fun ls hl => ?_)
  obtain ⟨n44, hw⟩ := hw
  exact kX10_init_174 hX  n44 hw hI (lv_sub hl [1, 0] rfl) (by omega) (by omega)
set_option maxHeartbeats 4000000 in
set_option maxRecDepth 100000 in
theorem kX10_init (l : Launch) (hfl : l.stackTraces = false) (D : jD) (z : Nat × Nat) (b : Nat)  (μ : jM) (sz : Nat) (Q : Unit → jM → Prop) : Met l yX10_init wsX10_init rmX10_init (jPre2z D z μ sz [.ref b] (wX10_init z b  μ Q)) (jRz jfV Q D z (jA z μ sz)) 21 881 (jA z μ sz) := by
  refine Met.ofW (cc := cX10_init) (maxL := 2) (ret := none) (by decide) rfl ?_
  intro p e s m args below meth c s₁ B hml hv
  obtain ⟨rfl, hsz, hH, hz0, hK, hG, hw⟩ := hv
  subst hsz
  have hX : jX2 D z (jA z μ s.heap.size) p l s m _ meth c yX10_init cX10_init 2 wsX10_init none := ⟨B.exec, B.bytes, hml, findClass_of_methodNamed B.named, atoms_spec (ws := wsX10_init) B.pre, B.returns, B.notSynchronized, (name_of_methodNamed B.named B.method).1, hK, hG, hfl⟩
  obtain ⟨ls, hg, hl⟩ : ∃ ls : Array Slot, entryFrame m ([.ref b] : List Value).toArray 2 = F0 m 0 ls [] ∧ lv_has ls 2 [(0, va_rf (some b))] := by
    exact ⟨_, lg_entry_eq .., lv_entry _ (n := 2) (Nat.le_of_ble_eq_true rfl)⟩
  rw [hg]
  exact kX10_init_0 hX hw (jIz.start hH hz0) (lv_sub hl [0] rfl) (by decide) (by decide)
set_option maxHeartbeats 4000000 in
set_option maxRecDepth 100000 in
theorem kX10_thrown_0 {b : Nat} (hX : jX2 D z A p l s m args meth c yX10_thrown cX10_thrown 1 wsX10_thrown (some .int)) {Q : Int32 → jM → Prop}   {μ : jM} {H : Heap} {locs : List Loc} {ls : Array Slot} {cells slots : Nat} (hw : wX10_thrown_0 z b Q  μ) (hI : jIz D z A s.heap μ H locs) (hl : lv_has ls 1 [(0, va_rf (some b))]) (hcn : cells + 0 ≤ 0) (hsn : slots + 0 ≤ 0) : W p l e rmX10_thrown s m args below meth c H locs cells slots (MQ below (jRz jfI Q D z A) args s 0 0 A) (F0 m 0 ls []) := by
  unfold wX10_thrown_0 at hw
  obtain ⟨hx, hb, hml, hown, hts, hr, hlocks, hnm, hK, hG, hfl⟩ := id hX
  have hown : s.vm.findClass RX10 = some m.cls := hown
  have hfX10 : ∀ w ∈ wsX100, w.before args s = true := fun w h => hts w (List.mem_cons_of_mem _ (List.mem_append_right _ h))
  refine j_aload_n (r := (some b)) hx hb dX10_thrown_0 rfl (lv_at hl 0 rfl) ?_
  obtain ⟨v1, hv1, hw⟩ := hw
  refine j_getz (C := RX10) (T := TX10) (N := 25) (ci := 12) (r := (some b)) (v := .int v1) hx hb hfX10 hown hK hI rfl 24 (by decide) (hts (.fieldLink RX10 75 "CashPoolsModel" "thrown" "I") (List.mem_of_getElem? (i := 1) (by decide +kernel))) (fun _ h => h) hv1 dX10_thrown_1 ?_
  exact j_iretz hx hb hr hlocks hI hw (by omega) (by omega) dX10_thrown_4
set_option maxHeartbeats 4000000 in
set_option maxRecDepth 100000 in
theorem kX10_thrown (l : Launch) (hfl : l.stackTraces = false) (D : jD) (z : Nat × Nat) (b : Nat)  (μ : jM) (sz : Nat) (Q : Int32 → jM → Prop) : Met l yX10_thrown wsX10_thrown rmX10_thrown (jPre2z D z μ sz [.ref b] (wX10_thrown z b  μ Q)) (jRz jfI Q D z (jA z μ sz)) 0 0 (jA z μ sz) := by
  refine Met.ofW (cc := cX10_thrown) (maxL := 1) (ret := (some .int)) (by decide) rfl ?_
  intro p e s m args below meth c s₁ B hml hv
  obtain ⟨rfl, hsz, hH, hz0, hK, hG, hw⟩ := hv
  subst hsz
  have hX : jX2 D z (jA z μ s.heap.size) p l s m _ meth c yX10_thrown cX10_thrown 1 wsX10_thrown (some .int) := ⟨B.exec, B.bytes, hml, findClass_of_methodNamed B.named, atoms_spec (ws := wsX10_thrown) B.pre, B.returns, B.notSynchronized, (name_of_methodNamed B.named B.method).1, hK, hG, hfl⟩
  obtain ⟨ls, hg, hl⟩ : ∃ ls : Array Slot, entryFrame m ([.ref b] : List Value).toArray 1 = F0 m 0 ls [] ∧ lv_has ls 1 [(0, va_rf (some b))] := by
    exact ⟨_, lg_entry_eq .., lv_entry _ (n := 1) (Nat.le_of_ble_eq_true rfl)⟩
  rw [hg]
  exact kX10_thrown_0 hX hw (jIz.start hH hz0) (lv_sub hl [0] rfl) (by decide) (by decide)
set_option maxHeartbeats 4000000 in
set_option maxRecDepth 100000 in
theorem kX10_can_0 {b : Nat} (hX : jX2 D z A p l s m args meth c yX10_can cX10_can 2 wsX10_can (some .boolean)) {Q : Int32 → jM → Prop}  {x1 : Int32} {μ : jM} {H : Heap} {locs : List Loc} {ls : Array Slot} {cells slots : Nat} (hw : wX10_can_0 z b Q x1 μ) (hI : jIz D z A s.heap μ H locs) (hl : lv_has ls 2 [(0, va_rf (some b)), (1, .int x1)]) (hcn : cells + 0 ≤ 0) (hsn : slots + 0 ≤ 0) : W p l e rmX10_can s m args below meth c H locs cells slots (MQ below (jRz jfI Q D z A) args s 0 0 A) (F0 m 0 ls []) := by
  unfold wX10_can_0 at hw
  obtain ⟨hx, hb, hml, hown, hts, hr, hlocks, hnm, hK, hG, hfl⟩ := id hX
  have hown : s.vm.findClass RX10 = some m.cls := hown
  have hfX10 : ∀ w ∈ wsX100, w.before args s = true := fun w h => hts w (List.mem_cons_of_mem _ (List.mem_append_right _ h))
  refine j_aload_n (r := (some b)) hx hb dX10_can_0 rfl (lv_at hl 0 rfl) ?_
  refine lv_iload_n hx hb dX10_can_1 rfl (lv_at hl 1 rfl) ?_
  obtain ⟨μ1, hμ1, hw⟩ := hw
  refine j_putz (C := RX10) (T := TX10) (N := 25) (ci := 12) (r := (some b)) (v := .int x1) hx hb hfX10 tyX10 tyX10_ok nmX10 hown hK hI rfl 24 (by decide) (hts (.fieldLink RX10 75 "CashPoolsModel" "thrown" "I") (List.mem_of_getElem? (i := 1) (by decide +kernel))) (fun _ h => h) rfl (tyX10_ok 24 (by decide)) rfl rfl hμ1 dX10_can_2 (fun H locs hI => ?_)
  refine lv_iload_n hx hb dX10_can_5 rfl (lv_at hl 1 rfl) ?_
  refine lv_if_ne (tgt := 13) hx hb dX10_can_6 (by decide) (fun hc => ?_) (fun hc => ?_)
  · have hw := hw.1 hc
    refine lv_iconst (v := (0)) hx hb dX10_can_13 (by decide) ?_
    exact j_zretz hx hb hr rfl hlocks hI hw (by omega) (by omega) dX10_can_14
  · have hw := hw.2 hc
    refine lv_iconst (v := (1)) hx hb dX10_can_9 (by decide) ?_
    refine lv_goto (tgt := 14) hx hb dX10_can_10 (by decide) ?_
    exact j_zretz hx hb hr rfl hlocks hI hw (by omega) (by omega) dX10_can_14
set_option maxHeartbeats 4000000 in
set_option maxRecDepth 100000 in
theorem kX10_can (l : Launch) (hfl : l.stackTraces = false) (D : jD) (z : Nat × Nat) (b : Nat) (x1 : Int32) (μ : jM) (sz : Nat) (Q : Int32 → jM → Prop) : Met l yX10_can wsX10_can rmX10_can (jPre2z D z μ sz [.ref b, .int x1] (wX10_can z b x1 μ Q)) (jRz jfI Q D z (jA z μ sz)) 0 0 (jA z μ sz) := by
  refine Met.ofW (cc := cX10_can) (maxL := 2) (ret := (some .boolean)) (by decide) rfl ?_
  intro p e s m args below meth c s₁ B hml hv
  obtain ⟨rfl, hsz, hH, hz0, hK, hG, hw⟩ := hv
  subst hsz
  have hX : jX2 D z (jA z μ s.heap.size) p l s m _ meth c yX10_can cX10_can 2 wsX10_can (some .boolean) := ⟨B.exec, B.bytes, hml, findClass_of_methodNamed B.named, atoms_spec (ws := wsX10_can) B.pre, B.returns, B.notSynchronized, (name_of_methodNamed B.named B.method).1, hK, hG, hfl⟩
  obtain ⟨ls, hg, hl⟩ : ∃ ls : Array Slot, entryFrame m ([.ref b, .int x1] : List Value).toArray 2 = F0 m 0 ls [] ∧ lv_has ls 2 [(0, va_rf (some b)), (1, .int x1)] := by
    exact ⟨_, lg_entry_eq .., lv_entry _ (n := 2) (Nat.le_of_ble_eq_true rfl)⟩
  rw [hg]
  exact kX10_can_0 hX hw (jIz.start hH hz0) (lv_sub hl [0, 1] rfl) (by decide) (by decide)
set_option maxHeartbeats 4000000 in
set_option maxRecDepth 100000 in
theorem kX10_isIn_0 (hX : jX2 D z A p l s m args meth c yX10_isIn cX10_isIn 3 wsX10_isIn (some .boolean)) {Q : Int32 → jM → Prop}  {x0 : Int32} {x1 : Int32} {x2 : Int32} {μ : jM} {H : Heap} {locs : List Loc} {ls : Array Slot} {cells slots : Nat} (hw : wX10_isIn_0 z Q x0 x1 x2 μ) (hI : jIz D z A s.heap μ H locs) (hl : lv_has ls 3 [(0, .int x0), (1, .int x1), (2, .int x2)]) (hcn : cells + 0 ≤ 0) (hsn : slots + 0 ≤ 0) : W p l e rmX10_isIn s m args below meth c H locs cells slots (MQ below (jRz jfI Q D z A) args s 0 0 A) (F0 m 0 ls []) := by
  unfold wX10_isIn_0 at hw
  obtain ⟨hx, hb, hml, hown, hts, hr, hlocks, hnm, hK, hG, hfl⟩ := id hX
  have hown : s.vm.findClass RX10 = some m.cls := hown
  refine lv_iload_n hx hb dX10_isIn_0 rfl (lv_at hl 0 rfl) ?_
  refine lv_iload_n hx hb dX10_isIn_1 rfl (lv_at hl 1 rfl) ?_
  refine lv_icmp_lt (tgt := 14) hx hb dX10_isIn_2 (by decide) (fun hc => ?_) (fun hc => ?_)
  · have hw := hw.1 hc
    refine lv_iconst (v := (0)) hx hb dX10_isIn_14 (by decide) ?_
    exact j_zretz hx hb hr rfl hlocks hI hw (by omega) (by omega) dX10_isIn_15
  · have hw := hw.2 hc
    refine lv_iload_n hx hb dX10_isIn_5 rfl (lv_at hl 0 rfl) ?_
    refine lv_iload_n hx hb dX10_isIn_6 rfl (lv_at hl 2 rfl) ?_
    refine lv_icmp_gt (tgt := 14) hx hb dX10_isIn_7 (by decide) (fun hc => ?_) (fun hc => ?_)
    · have hw := hw.1 hc
      refine lv_iconst (v := (0)) hx hb dX10_isIn_14 (by decide) ?_
      exact j_zretz hx hb hr rfl hlocks hI hw (by omega) (by omega) dX10_isIn_15
    · have hw := hw.2 hc
      refine lv_iconst (v := (1)) hx hb dX10_isIn_10 (by decide) ?_
      refine lv_goto (tgt := 15) hx hb dX10_isIn_11 (by decide) ?_
      exact j_zretz hx hb hr rfl hlocks hI hw (by omega) (by omega) dX10_isIn_15
set_option maxHeartbeats 4000000 in
set_option maxRecDepth 100000 in
theorem kX10_isIn (l : Launch) (hfl : l.stackTraces = false) (D : jD) (z : Nat × Nat) (x0 : Int32) (x1 : Int32) (x2 : Int32) (μ : jM) (sz : Nat) (Q : Int32 → jM → Prop) : Met l yX10_isIn wsX10_isIn rmX10_isIn (jPre2z D z μ sz [.int x0, .int x1, .int x2] (wX10_isIn z x0 x1 x2 μ Q)) (jRz jfI Q D z (jA z μ sz)) 0 0 (jA z μ sz) := by
  refine Met.ofW (cc := cX10_isIn) (maxL := 3) (ret := (some .boolean)) (by decide) rfl ?_
  intro p e s m args below meth c s₁ B hml hv
  obtain ⟨rfl, hsz, hH, hz0, hK, hG, hw⟩ := hv
  subst hsz
  have hX : jX2 D z (jA z μ s.heap.size) p l s m _ meth c yX10_isIn cX10_isIn 3 wsX10_isIn (some .boolean) := ⟨B.exec, B.bytes, hml, findClass_of_methodNamed B.named, atoms_spec (ws := wsX10_isIn) B.pre, B.returns, B.notSynchronized, (name_of_methodNamed B.named B.method).1, hK, hG, hfl⟩
  obtain ⟨ls, hg, hl⟩ : ∃ ls : Array Slot, entryFrame m ([.int x0, .int x1, .int x2] : List Value).toArray 3 = F0 m 0 ls [] ∧ lv_has ls 3 [(0, .int x0), (1, .int x1), (2, .int x2)] := by
    exact ⟨_, lg_entry_eq .., lv_entry _ (n := 3) (Nat.le_of_ble_eq_true rfl)⟩
  rw [hg]
  exact kX10_isIn_0 hX hw (jIz.start hH hz0) (lv_sub hl [0, 1, 2] rfl) (by decide) (by decide)
set_option maxHeartbeats 4000000 in
set_option maxRecDepth 100000 in
theorem kX10_isAccount_0 {b : Nat} (hX : jX2 D z A p l s m args meth c yX10_isAccount cX10_isAccount 2 wsX10_isAccount (some .boolean)) {Q : Int32 → jM → Prop}  {x1 : Int32} {μ : jM} {H : Heap} {locs : List Loc} {ls : Array Slot} {cells slots : Nat} (hw : wX10_isAccount_0 z b Q x1 μ) (hI : jIz D z A s.heap μ H locs) (hl : lv_has ls 2 [(0, va_rf (some b)), (1, .int x1)]) (hcn : cells + 0 ≤ 0) (hsn : slots + 0 ≤ 0) : W p l e rmX10_isAccount s m args below meth c H locs cells slots (MQ below (jRz jfI Q D z A) args s 0 0 A) (F0 m 0 ls []) := by
  unfold wX10_isAccount_0 at hw
  obtain ⟨hx, hb, hml, hown, hts, hr, hlocks, hnm, hK, hG, hfl⟩ := id hX
  have hown : s.vm.findClass RX10 = some m.cls := hown
  have hfX10 : ∀ w ∈ wsX100, w.before args s = true := fun w h => hts w (List.mem_cons_of_mem _ (List.mem_append_right _ h))
  refine lv_iload_n hx hb dX10_isAccount_0 rfl (lv_at hl 1 rfl) ?_
  refine lv_if_lt (tgt := 16) hx hb dX10_isAccount_1 (by decide) (fun hc => ?_) (fun hc => ?_)
  · have hw := hw.1 hc
    refine lv_iconst (v := (0)) hx hb dX10_isAccount_16 (by decide) ?_
    exact j_zretz hx hb hr rfl hlocks hI hw (by omega) (by omega) dX10_isAccount_17
  · have hw := hw.2 hc
    refine lv_iload_n hx hb dX10_isAccount_4 rfl (lv_at hl 1 rfl) ?_
    refine j_aload_n (r := (some b)) hx hb dX10_isAccount_5 rfl (lv_at hl 0 rfl) ?_
    obtain ⟨v1, hv1, hw⟩ := hw
    refine j_getz (C := RX10) (T := TX10) (N := 25) (ci := 12) (r := (some b)) (v := .int v1) hx hb hfX10 hown hK hI rfl 0 (by decide) (hts (.fieldLink RX10 79 "CashPoolsModel" "accounts" "I") (List.mem_of_getElem? (i := 1) (by decide +kernel))) (fun _ h => h) hv1 dX10_isAccount_6 ?_
    refine lv_icmp_ge (tgt := 16) hx hb dX10_isAccount_9 (by decide) (fun hc => ?_) (fun hc => ?_)
    · have hw := hw.1 hc
      refine lv_iconst (v := (0)) hx hb dX10_isAccount_16 (by decide) ?_
      exact j_zretz hx hb hr rfl hlocks hI hw (by omega) (by omega) dX10_isAccount_17
    · have hw := hw.2 hc
      refine lv_iconst (v := (1)) hx hb dX10_isAccount_12 (by decide) ?_
      refine lv_goto (tgt := 17) hx hb dX10_isAccount_13 (by decide) ?_
      exact j_zretz hx hb hr rfl hlocks hI hw (by omega) (by omega) dX10_isAccount_17
set_option maxHeartbeats 4000000 in
set_option maxRecDepth 100000 in
theorem kX10_isAccount (l : Launch) (hfl : l.stackTraces = false) (D : jD) (z : Nat × Nat) (b : Nat) (x1 : Int32) (μ : jM) (sz : Nat) (Q : Int32 → jM → Prop) : Met l yX10_isAccount wsX10_isAccount rmX10_isAccount (jPre2z D z μ sz [.ref b, .int x1] (wX10_isAccount z b x1 μ Q)) (jRz jfI Q D z (jA z μ sz)) 0 0 (jA z μ sz) := by
  refine Met.ofW (cc := cX10_isAccount) (maxL := 2) (ret := (some .boolean)) (by decide) rfl ?_
  intro p e s m args below meth c s₁ B hml hv
  obtain ⟨rfl, hsz, hH, hz0, hK, hG, hw⟩ := hv
  subst hsz
  have hX : jX2 D z (jA z μ s.heap.size) p l s m _ meth c yX10_isAccount cX10_isAccount 2 wsX10_isAccount (some .boolean) := ⟨B.exec, B.bytes, hml, findClass_of_methodNamed B.named, atoms_spec (ws := wsX10_isAccount) B.pre, B.returns, B.notSynchronized, (name_of_methodNamed B.named B.method).1, hK, hG, hfl⟩
  obtain ⟨ls, hg, hl⟩ : ∃ ls : Array Slot, entryFrame m ([.ref b, .int x1] : List Value).toArray 2 = F0 m 0 ls [] ∧ lv_has ls 2 [(0, va_rf (some b)), (1, .int x1)] := by
    exact ⟨_, lg_entry_eq .., lv_entry _ (n := 2) (Nat.le_of_ble_eq_true rfl)⟩
  rw [hg]
  exact kX10_isAccount_0 hX hw (jIz.start hH hz0) (lv_sub hl [0, 1] rfl) (by decide) (by decide)
set_option maxHeartbeats 4000000 in
set_option maxRecDepth 100000 in
theorem kX10_isTop_0 {b : Nat} (hX : jX2 D z A p l s m args meth c yX10_isTop cX10_isTop 2 wsX10_isTop (some .boolean)) {Q : Int32 → jM → Prop}  {x1 : Int32} {μ : jM} {H : Heap} {locs : List Loc} {ls : Array Slot} {cells slots : Nat} (hw : wX10_isTop_0 z b Q x1 μ) (hI : jIz D z A s.heap μ H locs) (hl : lv_has ls 2 [(0, va_rf (some b)), (1, .int x1)]) (hcn : cells + 0 ≤ 0) (hsn : slots + 0 ≤ 0) : W p l e rmX10_isTop s m args below meth c H locs cells slots (MQ below (jRz jfI Q D z A) args s 0 0 A) (F0 m 0 ls []) := by
  unfold wX10_isTop_0 at hw
  obtain ⟨hx, hb, hml, hown, hts, hr, hlocks, hnm, hK, hG, hfl⟩ := id hX
  have hown : s.vm.findClass RX10 = some m.cls := hown
  have hfX10 : ∀ w ∈ wsX100, w.before args s = true := fun w h => hts w (List.mem_cons_of_mem _ (List.mem_append_right _ h))
  refine j_aload_n (r := (some b)) hx hb dX10_isTop_0 rfl (lv_at hl 0 rfl) ?_
  obtain ⟨v1, hv1, hw⟩ := hw
  refine j_getz (C := RX10) (T := TX10) (N := 25) (ci := 12) (r := (some b)) (v := va_rf v1) hx hb hfX10 hown hK hI rfl 5 (by decide) (hts (.fieldLink RX10 16 "CashPoolsModel" "parent" "[I") (List.mem_of_getElem? (i := 1) (by decide +kernel))) (fun _ h => h) hv1 dX10_isTop_1 ?_
  refine lv_iload_n hx hb dX10_isTop_4 rfl (lv_at hl 1 rfl) ?_
  obtain ⟨v2, hv2, hw⟩ := hw
  refine j_ialdz (r := v1) hx hb hK hI hv2 dX10_isTop_5 ?_
  refine lv_iconst (v := (-1)) hx hb dX10_isTop_6 (by decide) ?_
  refine lv_icmp_ne (tgt := 14) hx hb dX10_isTop_7 (by decide) (fun hc => ?_) (fun hc => ?_)
  · have hw := hw.1 hc
    refine lv_iconst (v := (0)) hx hb dX10_isTop_14 (by decide) ?_
    exact j_zretz hx hb hr rfl hlocks hI hw (by omega) (by omega) dX10_isTop_15
  · have hw := hw.2 hc
    refine lv_iconst (v := (1)) hx hb dX10_isTop_10 (by decide) ?_
    refine lv_goto (tgt := 15) hx hb dX10_isTop_11 (by decide) ?_
    exact j_zretz hx hb hr rfl hlocks hI hw (by omega) (by omega) dX10_isTop_15
set_option maxHeartbeats 4000000 in
set_option maxRecDepth 100000 in
theorem kX10_isTop (l : Launch) (hfl : l.stackTraces = false) (D : jD) (z : Nat × Nat) (b : Nat) (x1 : Int32) (μ : jM) (sz : Nat) (Q : Int32 → jM → Prop) : Met l yX10_isTop wsX10_isTop rmX10_isTop (jPre2z D z μ sz [.ref b, .int x1] (wX10_isTop z b x1 μ Q)) (jRz jfI Q D z (jA z μ sz)) 0 0 (jA z μ sz) := by
  refine Met.ofW (cc := cX10_isTop) (maxL := 2) (ret := (some .boolean)) (by decide) rfl ?_
  intro p e s m args below meth c s₁ B hml hv
  obtain ⟨rfl, hsz, hH, hz0, hK, hG, hw⟩ := hv
  subst hsz
  have hX : jX2 D z (jA z μ s.heap.size) p l s m _ meth c yX10_isTop cX10_isTop 2 wsX10_isTop (some .boolean) := ⟨B.exec, B.bytes, hml, findClass_of_methodNamed B.named, atoms_spec (ws := wsX10_isTop) B.pre, B.returns, B.notSynchronized, (name_of_methodNamed B.named B.method).1, hK, hG, hfl⟩
  obtain ⟨ls, hg, hl⟩ : ∃ ls : Array Slot, entryFrame m ([.ref b, .int x1] : List Value).toArray 2 = F0 m 0 ls [] ∧ lv_has ls 2 [(0, va_rf (some b)), (1, .int x1)] := by
    exact ⟨_, lg_entry_eq .., lv_entry _ (n := 2) (Nat.le_of_ble_eq_true rfl)⟩
  rw [hg]
  exact kX10_isTop_0 hX hw (jIz.start hH hz0) (lv_sub hl [0, 1] rfl) (by decide) (by decide)
set_option maxHeartbeats 4000000 in
set_option maxRecDepth 100000 in
theorem kX10_adds_36 {b : Nat} (hX : jX2 D z A p l s m args meth c yX10_adds cX10_adds 6 wsX10_adds (some .int)) {Q : Int32 → jM → Prop}  {x2 : Int32} {x3 : Int32} {x4 : Int32} {x5 : Int32} {t0 : Option Nat} {t1 : Int32} {t2 : Int32} {μ : jM} {H : Heap} {locs : List Loc} {ls : Array Slot} {cells slots : Nat} (hw : wX10_adds_36 z b Q x2 x3 x4 x5 t0 t1 t2 μ) (hI : jIz D z A s.heap μ H locs) (hl : lv_has ls 6 [(0, va_rf (some b)), (2, .int x2), (3, .int x3), (4, .int x4), (5, .int x5)]) (hcn : cells + 0 ≤ 0) (hsn : slots + 0 ≤ 0) : W p l e rmX10_adds s m args below meth c H locs cells slots (MQ below (jRz jfI Q D z A) args s 0 0 A) (F0 m 36 ls [.int t2, .int t1, va_rf t0]) := by
  unfold wX10_adds_36 at hw
  obtain ⟨hx, hb, hml, hown, hts, hr, hlocks, hnm, hK, hG, hfl⟩ := id hX
  have hown : s.vm.findClass RX10 = some m.cls := hown
  have hfX10 : ∀ w ∈ wsX100, w.before args s = true := fun w h => hts w (List.mem_cons_of_mem _ (List.mem_append_right _ h))
  obtain ⟨μ1, hμ1, hw⟩ := hw
  refine j_iastz (r := t0) hx hb hK hI hμ1 dX10_adds_36 (fun H locs hI => ?_)
  refine j_aload_n (r := (some b)) hx hb dX10_adds_37 rfl (lv_at hl 0 rfl) ?_
  obtain ⟨v2, hv2, hw⟩ := hw
  refine j_getz (C := RX10) (T := TX10) (N := 25) (ci := 12) (r := (some b)) (v := va_rf v2) hx hb hfX10 hown hK hI rfl 7 (by decide) (hts (.fieldLink RX10 23 "CashPoolsModel" "bank" "[I") (List.mem_of_getElem? (i := 4) (by decide +kernel))) (fun _ h => h) hv2 dX10_adds_38 ?_
  refine lv_iload hx hb dX10_adds_41 (lv_at hl 4 rfl) ?_
  refine lv_iload_n hx hb dX10_adds_43 rfl (lv_at hl 1 rfl) ?_
  obtain ⟨μ3, hμ3, hw⟩ := hw
  refine j_iastz (r := v2) hx hb hK hI hμ3 dX10_adds_44 (fun H locs hI => ?_)
  refine j_aload_n (r := (some b)) hx hb dX10_adds_45 rfl (lv_at hl 0 rfl) ?_
  obtain ⟨v4, hv4, hw⟩ := hw
  refine j_getz (C := RX10) (T := TX10) (N := 25) (ci := 12) (r := (some b)) (v := va_rf v4) hx hb hfX10 hown hK hI rfl 11 (by decide) (hts (.fieldLink RX10 35 "CashPoolsModel" "creditRate" "[I") (List.mem_of_getElem? (i := 5) (by decide +kernel))) (fun _ h => h) hv4 dX10_adds_46 ?_
  refine lv_iload hx hb dX10_adds_49 (lv_at hl 4 rfl) ?_
  refine lv_iload_n hx hb dX10_adds_51 rfl (lv_at hl 2 rfl) ?_
  obtain ⟨μ5, hμ5, hw⟩ := hw
  refine j_iastz (r := v4) hx hb hK hI hμ5 dX10_adds_52 (fun H locs hI => ?_)
  refine j_aload_n (r := (some b)) hx hb dX10_adds_53 rfl (lv_at hl 0 rfl) ?_
  obtain ⟨v6, hv6, hw⟩ := hw
  refine j_getz (C := RX10) (T := TX10) (N := 25) (ci := 12) (r := (some b)) (v := va_rf v6) hx hb hfX10 hown hK hI rfl 12 (by decide) (hts (.fieldLink RX10 38 "CashPoolsModel" "debitRate" "[I") (List.mem_of_getElem? (i := 6) (by decide +kernel))) (fun _ h => h) hv6 dX10_adds_54 ?_
  refine lv_iload hx hb dX10_adds_57 (lv_at hl 4 rfl) ?_
  refine lv_iload hx hb dX10_adds_59 (lv_at hl 3 rfl) ?_
  obtain ⟨μ7, hμ7, hw⟩ := hw
  refine j_iastz (r := v6) hx hb hK hI hμ7 dX10_adds_61 (fun H locs hI => ?_)
  refine j_aload_n (r := (some b)) hx hb dX10_adds_62 rfl (lv_at hl 0 rfl) ?_
  refine lv_dup hx hb dX10_adds_63 rfl ?_
  obtain ⟨v8, hv8, hw⟩ := hw
  refine j_getz (C := RX10) (T := TX10) (N := 25) (ci := 12) (r := (some b)) (v := .int v8) hx hb hfX10 hown hK hI rfl 0 (by decide) (hts (.fieldLink RX10 79 "CashPoolsModel" "accounts" "I") (List.mem_of_getElem? (i := 1) (by decide +kernel))) (fun _ h => h) hv8 dX10_adds_64 ?_
  refine lv_iconst (v := (1)) hx hb dX10_adds_67 (by decide) ?_
  refine lv_iadd hx hb dX10_adds_68 ?_
  obtain ⟨μ9, hμ9, hw⟩ := hw
  refine j_putz (C := RX10) (T := TX10) (N := 25) (ci := 12) (r := (some b)) (v := .int (v8 + (1 : Int32))) hx hb hfX10 tyX10 tyX10_ok nmX10 hown hK hI rfl 0 (by decide) (hts (.fieldLink RX10 79 "CashPoolsModel" "accounts" "I") (List.mem_of_getElem? (i := 1) (by decide +kernel))) (fun _ h => h) rfl (tyX10_ok 0 (by decide)) rfl rfl hμ9 dX10_adds_69 (fun H locs hI => ?_)
  refine lv_iload hx hb dX10_adds_72 (lv_at hl 4 rfl) ?_
  exact j_iretz hx hb hr hlocks hI hw (by omega) (by omega) dX10_adds_74
set_option maxHeartbeats 4000000 in
set_option maxRecDepth 100000 in
theorem kX10_adds_0 {b : Nat} (hX : jX2 D z A p l s m args meth c yX10_adds cX10_adds 6 wsX10_adds (some .int)) {Q : Int32 → jM → Prop}  {x1 : Int32} {x2 : Int32} {x3 : Int32} {x4 : Int32} {μ : jM} {H : Heap} {locs : List Loc} {ls : Array Slot} {cells slots : Nat} (hw : wX10_adds_0 z b Q x1 x2 x3 x4 μ) (hI : jIz D z A s.heap μ H locs) (hl : lv_has ls 6 [(0, va_rf (some b)), (1, .int x1), (2, .int x2), (3, .int x3), (4, .int x4)]) (hcn : cells + 0 ≤ 0) (hsn : slots + 0 ≤ 0) : W p l e rmX10_adds s m args below meth c H locs cells slots (MQ below (jRz jfI Q D z A) args s 0 0 A) (F0 m 0 ls []) := by
  unfold wX10_adds_0 at hw
  obtain ⟨hx, hb, hml, hown, hts, hr, hlocks, hnm, hK, hG, hfl⟩ := id hX
  have hown : s.vm.findClass RX10 = some m.cls := hown
  have hfX10 : ∀ w ∈ wsX100, w.before args s = true := fun w h => hts w (List.mem_cons_of_mem _ (List.mem_append_right _ h))
  refine j_aload_n (r := (some b)) hx hb dX10_adds_0 rfl (lv_at hl 0 rfl) ?_
  obtain ⟨v1, hv1, hw⟩ := hw
  refine j_getz (C := RX10) (T := TX10) (N := 25) (ci := 12) (r := (some b)) (v := .int v1) hx hb hfX10 hown hK hI rfl 0 (by decide) (hts (.fieldLink RX10 79 "CashPoolsModel" "accounts" "I") (List.mem_of_getElem? (i := 1) (by decide +kernel))) (fun _ h => h) hv1 dX10_adds_1 ?_
  refine lv_istore (lv' := [(5, .int v1), (0, va_rf (some b)), (1, .int x1), (2, .int x2), (3, .int x3), (4, .int x4)]) hx hb dX10_adds_4 hl (by decide) rfl (fun ls hl => ?_)
  refine j_aload_n (r := (some b)) hx hb dX10_adds_6 rfl (lv_at hl 1 rfl) ?_
  obtain ⟨v2, hv2, hw⟩ := hw
  refine j_getz (C := RX10) (T := TX10) (N := 25) (ci := 12) (r := (some b)) (v := va_rf v2) hx hb hfX10 hown hK hI rfl 5 (by decide) (hts (.fieldLink RX10 16 "CashPoolsModel" "parent" "[I") (List.mem_of_getElem? (i := 2) (by decide +kernel))) (fun _ h => h) hv2 dX10_adds_7 ?_
  refine lv_iload hx hb dX10_adds_10 (lv_at hl 0 rfl) ?_
  refine lv_iload_n hx hb dX10_adds_12 rfl (lv_at hl 2 rfl) ?_
  obtain ⟨μ3, hμ3, hw⟩ := hw
  refine j_iastz (r := v2) hx hb hK hI hμ3 dX10_adds_13 (fun H locs hI => ?_)
  refine j_aload_n (r := (some b)) hx hb dX10_adds_14 rfl (lv_at hl 1 rfl) ?_
  obtain ⟨v4, hv4, hw⟩ := hw
  refine j_getz (C := RX10) (T := TX10) (N := 25) (ci := 12) (r := (some b)) (v := va_rf v4) hx hb hfX10 hown hK hI rfl 6 (by decide) (hts (.fieldLink RX10 20 "CashPoolsModel" "top" "[I") (List.mem_of_getElem? (i := 3) (by decide +kernel))) (fun _ h => h) hv4 dX10_adds_15 ?_
  refine lv_iload hx hb dX10_adds_18 (lv_at hl 0 rfl) ?_
  refine lv_iload_n hx hb dX10_adds_20 rfl (lv_at hl 2 rfl) ?_
  refine lv_iconst (v := (-1)) hx hb dX10_adds_21 (by decide) ?_
  refine lv_icmp_ne (tgt := 30) hx hb dX10_adds_22 (by decide) (fun hc => ?_) (fun hc => ?_)
  · have hw := hw.1 hc
    refine j_aload_n (r := (some b)) hx hb dX10_adds_30 rfl (lv_at hl 1 rfl) ?_
    obtain ⟨v5, hv5, hw⟩ := hw
    refine j_getz (C := RX10) (T := TX10) (N := 25) (ci := 12) (r := (some b)) (v := va_rf v5) hx hb hfX10 hown hK hI rfl 6 (by decide) (hts (.fieldLink RX10 20 "CashPoolsModel" "top" "[I") (List.mem_of_getElem? (i := 3) (by decide +kernel))) (fun _ h => h) hv5 dX10_adds_31 ?_
    refine lv_iload_n hx hb dX10_adds_34 rfl (lv_at hl 2 rfl) ?_
    obtain ⟨v6, hv6, hw⟩ := hw
    refine j_ialdz (r := v5) hx hb hK hI hv6 dX10_adds_35 ?_
    exact kX10_adds_36 hX  hw hI (lv_sub hl [1, 3, 4, 5, 0] rfl) (by omega) (by omega)
  · have hw := hw.2 hc
    refine lv_iload hx hb dX10_adds_25 (lv_at hl 0 rfl) ?_
    refine lv_goto (tgt := 36) hx hb dX10_adds_27 (by decide) ?_
    exact kX10_adds_36 hX  hw hI (lv_sub hl [1, 3, 4, 5, 0] rfl) (by omega) (by omega)
set_option maxHeartbeats 4000000 in
set_option maxRecDepth 100000 in
theorem kX10_adds (l : Launch) (hfl : l.stackTraces = false) (D : jD) (z : Nat × Nat) (b : Nat) (x1 : Int32) (x2 : Int32) (x3 : Int32) (x4 : Int32) (μ : jM) (sz : Nat) (Q : Int32 → jM → Prop) : Met l yX10_adds wsX10_adds rmX10_adds (jPre2z D z μ sz [.ref b, .int x1, .int x2, .int x3, .int x4] (wX10_adds z b x1 x2 x3 x4 μ Q)) (jRz jfI Q D z (jA z μ sz)) 0 0 (jA z μ sz) := by
  refine Met.ofW (cc := cX10_adds) (maxL := 6) (ret := (some .int)) (by decide) rfl ?_
  intro p e s m args below meth c s₁ B hml hv
  obtain ⟨rfl, hsz, hH, hz0, hK, hG, hw⟩ := hv
  subst hsz
  have hX : jX2 D z (jA z μ s.heap.size) p l s m _ meth c yX10_adds cX10_adds 6 wsX10_adds (some .int) := ⟨B.exec, B.bytes, hml, findClass_of_methodNamed B.named, atoms_spec (ws := wsX10_adds) B.pre, B.returns, B.notSynchronized, (name_of_methodNamed B.named B.method).1, hK, hG, hfl⟩
  obtain ⟨ls, hg, hl⟩ : ∃ ls : Array Slot, entryFrame m ([.ref b, .int x1, .int x2, .int x3, .int x4] : List Value).toArray 6 = F0 m 0 ls [] ∧ lv_has ls 6 [(0, va_rf (some b)), (1, .int x1), (2, .int x2), (3, .int x3), (4, .int x4)] := by
    exact ⟨_, lg_entry_eq .., lv_entry _ (n := 6) (Nat.le_of_ble_eq_true rfl)⟩
  rw [hg]
  exact kX10_adds_0 hX hw (jIz.start hH hz0) (lv_sub hl [0, 1, 2, 3, 4] rfl) (by decide) (by decide)
set_option maxHeartbeats 4000000 in
set_option maxRecDepth 100000 in
theorem kX10_addPool_62 {b : Nat} (hX : jX2 D z A p l s m args meth c yX10_addPool cX10_addPool 5 wsX10_addPool (some .int)) {Q : Int32 → jM → Prop}  {x1 : Int32} {x2 : Int32} {x3 : Int32} {t0 : Option Nat} {t1 : Int32} {μ : jM} {H : Heap} {locs : List Loc} {ls : Array Slot} {cells slots : Nat} (hw : wX10_addPool_62 z b Q x1 x2 x3 t0 t1 μ) (hI : jIz D z A s.heap μ H locs) (hl : lv_has ls 5 [(0, va_rf (some b)), (1, .int x1), (2, .int x2), (3, .int x3)]) (hcn : cells + 0 ≤ 0) (hsn : slots + 0 ≤ 0) : W p l e rmX10_addPool s m args below meth c H locs cells slots (MQ below (jRz jfI Q D z A) args s 0 0 A) (F0 m 62 ls [.int t1, va_rf t0]) := by
  unfold wX10_addPool_62 at hw
  obtain ⟨hx, hb, hml, hown, hts, hr, hlocks, hnm, hK, hG, hfl⟩ := id hX
  have hown : s.vm.findClass RX10 = some m.cls := hown
  obtain ⟨b3, ⟨hrb3, hfs⟩, hw⟩ := hw
  refine j_goz hI (va_runV (As := [.int t1]) (rest := []) ⟨hx, hb, hml, hown, hts⟩ (kX10_can l hfl D z b3 t1 μ H.size _) (cwV 1 hts gX10_addPool_X10_can rfl rfl rfl (by decide +kernel) ⟨Nat.le_of_ble_eq_true rfl, Nat.le_of_ble_eq_true rfl⟩) (j_prV2z hK hG hI hw (ci := 12) rfl hfs) rfl rfl hl.1 (by rw [hrb3]; rfl) (lv_room (Nat.le_of_ble_eq_true rfl)) dX10_addPool_62 ⟨by show _ ≤ 0; omega, by show _ ≤ 0; omega⟩) (fun v1 μ2 H locs hw hI => ?_)
  refine W.eq (g2 := F0 m 65 ls [.int v1]) rfl ?_
  refine lv_if_eq (tgt := 79) hx hb dX10_addPool_65 (by decide) (fun hc => ?_) (fun hc => ?_)
  · have hw := hw.1 hc
    refine lv_iconst (v := (0)) hx hb dX10_addPool_79 (by decide) ?_
    exact j_iretz hx hb hr hlocks hI hw (by omega) (by omega) dX10_addPool_80
  · have hw := hw.2 hc
    refine j_aload_n (r := (some b)) hx hb dX10_addPool_68 rfl (lv_at hl 0 rfl) ?_
    refine lv_iconst (v := (-1)) hx hb dX10_addPool_69 (by decide) ?_
    refine lv_iload_n hx hb dX10_addPool_70 rfl (lv_at hl 1 rfl) ?_
    refine lv_iload_n hx hb dX10_addPool_71 rfl (lv_at hl 2 rfl) ?_
    refine lv_iload_n hx hb dX10_addPool_72 rfl (lv_at hl 3 rfl) ?_
    obtain ⟨hfs, hw⟩ := hw
    refine j_goz hI (va_runV (As := [.int (-1 : Int32), .int x1, .int x2, .int x3]) (rest := []) ⟨hx, hb, hml, hown, hts⟩ (kX10_adds l hfl D z b (-1 : Int32) x1 x2 x3 μ2 H.size _) (cwV 4 hts gX10_addPool_X10_adds rfl rfl rfl (by decide +kernel) ⟨Nat.le_of_ble_eq_true rfl, Nat.le_of_ble_eq_true rfl⟩) (j_prV2z hK hG hI hw (ci := 12) rfl hfs) rfl rfl hl.1 rfl (lv_room (Nat.le_of_ble_eq_true rfl)) dX10_addPool_73 ⟨by show _ ≤ 0; omega, by show _ ≤ 0; omega⟩) (fun v4 μ5 H locs hw hI => ?_)
    refine W.eq (g2 := F0 m 76 ls [.int v4]) rfl ?_
    refine lv_goto (tgt := 80) hx hb dX10_addPool_76 (by decide) ?_
    exact j_iretz hx hb hr hlocks hI hw (by omega) (by omega) dX10_addPool_80
set_option maxHeartbeats 4000000 in
set_option maxRecDepth 100000 in
theorem kX10_addPool_36 {b : Nat} (hX : jX2 D z A p l s m args meth c yX10_addPool cX10_addPool 5 wsX10_addPool (some .int)) {Q : Int32 → jM → Prop}  {x1 : Int32} {x2 : Int32} {x3 : Int32} {t0 : Int32} {μ : jM} {H : Heap} {locs : List Loc} {ls : Array Slot} {cells slots : Nat} (hw : wX10_addPool_36 z b Q x1 x2 x3 t0 μ) (hI : jIz D z A s.heap μ H locs) (hl : lv_has ls 5 [(0, va_rf (some b)), (1, .int x1), (2, .int x2), (3, .int x3)]) (hcn : cells + 0 ≤ 0) (hsn : slots + 0 ≤ 0) : W p l e rmX10_addPool s m args below meth c H locs cells slots (MQ below (jRz jfI Q D z A) args s 0 0 A) (F0 m 36 ls [.int t0]) := by
  unfold wX10_addPool_36 at hw
  obtain ⟨hx, hb, hml, hown, hts, hr, hlocks, hnm, hK, hG, hfl⟩ := id hX
  have hown : s.vm.findClass RX10 = some m.cls := hown
  have hfX10 : ∀ w ∈ wsX100, w.before args s = true := fun w h => hts w (List.mem_cons_of_mem _ (List.mem_append_right _ h))
  refine lv_istore (lv' := [(4, .int t0), (0, va_rf (some b)), (1, .int x1), (2, .int x2), (3, .int x3)]) hx hb dX10_addPool_36 hl (by decide) rfl (fun ls hl => ?_)
  refine j_aload_n (r := (some b)) hx hb dX10_addPool_38 rfl (lv_at hl 1 rfl) ?_
  refine lv_iload hx hb dX10_addPool_39 (lv_at hl 0 rfl) ?_
  refine lv_if_ne (tgt := 48) hx hb dX10_addPool_41 (by decide) (fun hc => ?_) (fun hc => ?_)
  · have hw := hw.1 hc
    refine j_aload_n (r := (some b)) hx hb dX10_addPool_48 rfl (lv_at hl 1 rfl) ?_
    obtain ⟨v1, hv1, hw⟩ := hw
    refine j_getz (C := RX10) (T := TX10) (N := 25) (ci := 12) (r := (some b)) (v := .int v1) hx hb hfX10 hown hK hI rfl 0 (by decide) (hts (.fieldLink RX10 79 "CashPoolsModel" "accounts" "I") (List.mem_of_getElem? (i := 1) (by decide +kernel))) (fun _ h => h) hv1 dX10_addPool_49 ?_
    refine lv_bipush (v := (10)) hx hb dX10_addPool_52 (by decide) ?_
    refine lv_icmp_ne (tgt := 61) hx hb dX10_addPool_54 (by decide) (fun hc => ?_) (fun hc => ?_)
    · have hw := hw.1 hc
      refine lv_iconst (v := (0)) hx hb dX10_addPool_61 (by decide) ?_
      exact kX10_addPool_62 hX  hw hI (lv_sub hl [1, 2, 3, 4] rfl) (by omega) (by omega)
    · have hw := hw.2 hc
      refine lv_iconst (v := (2)) hx hb dX10_addPool_57 (by decide) ?_
      refine lv_goto (tgt := 62) hx hb dX10_addPool_58 (by decide) ?_
      exact kX10_addPool_62 hX  hw hI (lv_sub hl [1, 2, 3, 4] rfl) (by omega) (by omega)
  · have hw := hw.2 hc
    refine lv_iconst (v := (1)) hx hb dX10_addPool_44 (by decide) ?_
    refine lv_goto (tgt := 62) hx hb dX10_addPool_45 (by decide) ?_
    exact kX10_addPool_62 hX  hw hI (lv_sub hl [1, 2, 3, 4] rfl) (by omega) (by omega)
set_option maxHeartbeats 4000000 in
set_option maxRecDepth 100000 in
theorem kX10_addPool_35 {b : Nat} (hX : jX2 D z A p l s m args meth c yX10_addPool cX10_addPool 5 wsX10_addPool (some .int)) {Q : Int32 → jM → Prop}  {x1 : Int32} {x2 : Int32} {x3 : Int32} {μ : jM} {H : Heap} {locs : List Loc} {ls : Array Slot} {cells slots : Nat} (hw : wX10_addPool_35 z b Q x1 x2 x3 μ) (hI : jIz D z A s.heap μ H locs) (hl : lv_has ls 5 [(0, va_rf (some b)), (1, .int x1), (2, .int x2), (3, .int x3)]) (hcn : cells + 0 ≤ 0) (hsn : slots + 0 ≤ 0) : W p l e rmX10_addPool s m args below meth c H locs cells slots (MQ below (jRz jfI Q D z A) args s 0 0 A) (F0 m 35 ls []) := by
  unfold wX10_addPool_35 at hw
  obtain ⟨hx, hb, hml, hown, hts, hr, hlocks, hnm, hK, hG, hfl⟩ := id hX
  have hown : s.vm.findClass RX10 = some m.cls := hown
  refine lv_iconst (v := (0)) hx hb dX10_addPool_35 (by decide) ?_
  exact kX10_addPool_36 hX  hw hI (lv_sub hl [0, 1, 2, 3] rfl) (by omega) (by omega)
set_option maxHeartbeats 4000000 in
set_option maxRecDepth 100000 in
theorem kX10_addPool_0 {b : Nat} (hX : jX2 D z A p l s m args meth c yX10_addPool cX10_addPool 5 wsX10_addPool (some .int)) {Q : Int32 → jM → Prop}  {x1 : Int32} {x2 : Int32} {x3 : Int32} {μ : jM} {H : Heap} {locs : List Loc} {ls : Array Slot} {cells slots : Nat} (hw : wX10_addPool_0 z b Q x1 x2 x3 μ) (hI : jIz D z A s.heap μ H locs) (hl : lv_has ls 5 [(0, va_rf (some b)), (1, .int x1), (2, .int x2), (3, .int x3)]) (hcn : cells + 0 ≤ 0) (hsn : slots + 0 ≤ 0) : W p l e rmX10_addPool s m args below meth c H locs cells slots (MQ below (jRz jfI Q D z A) args s 0 0 A) (F0 m 0 ls []) := by
  unfold wX10_addPool_0 at hw
  obtain ⟨hx, hb, hml, hown, hts, hr, hlocks, hnm, hK, hG, hfl⟩ := id hX
  have hown : s.vm.findClass RX10 = some m.cls := hown
  refine lv_iload_n hx hb dX10_addPool_0 rfl (lv_at hl 1 rfl) ?_
  refine lv_iconst (v := (0)) hx hb dX10_addPool_1 (by decide) ?_
  refine lv_iconst (v := (3)) hx hb dX10_addPool_2 (by decide) ?_
  refine j_goz hI (va_runS (As := [.int x1, .int (0 : Int32), .int (3 : Int32)]) (rest := []) ⟨hx, hb, hml, hown, hts⟩ (kX10_isIn l hfl D z x1 (0 : Int32) (3 : Int32) μ H.size _) (va_cwS 3 hts gX10_addPool_X10_isIn rfl rfl rfl (by decide +kernel) ⟨Nat.le_of_ble_eq_true rfl, Nat.le_of_ble_eq_true rfl⟩) (j_prS2z hK hG hI hw) rfl rfl hl.1 rfl (lv_room (Nat.le_of_ble_eq_true rfl)) dX10_addPool_3 ⟨by show _ ≤ 0; omega, by show _ ≤ 0; omega⟩) (fun v1 μ2 H locs hw hI => ?_)
  refine W.eq (g2 := F0 m 6 ls [.int v1]) rfl ?_
  refine lv_if_eq (tgt := 35) hx hb dX10_addPool_6 (by decide) (fun hc => ?_) (fun hc => ?_)
  · have hw := hw.1 hc
    exact kX10_addPool_35 hX  hw hI (lv_sub hl [0, 1, 2, 3] rfl) (by omega) (by omega)
  · have hw := hw.2 hc
    refine lv_iload_n hx hb dX10_addPool_9 rfl (lv_at hl 2 rfl) ?_
    refine lv_iconst (v := (0)) hx hb dX10_addPool_10 (by decide) ?_
    refine lv_sipush (v := (1000)) hx hb dX10_addPool_11 (by decide) ?_
    refine j_goz hI (va_runS (As := [.int x2, .int (0 : Int32), .int (1000 : Int32)]) (rest := []) ⟨hx, hb, hml, hown, hts⟩ (kX10_isIn l hfl D z x2 (0 : Int32) (1000 : Int32) μ2 H.size _) (va_cwS 3 hts gX10_addPool_X10_isIn rfl rfl rfl (by decide +kernel) ⟨Nat.le_of_ble_eq_true rfl, Nat.le_of_ble_eq_true rfl⟩) (j_prS2z hK hG hI hw) rfl rfl hl.1 rfl (lv_room (Nat.le_of_ble_eq_true rfl)) dX10_addPool_14 ⟨by show _ ≤ 0; omega, by show _ ≤ 0; omega⟩) (fun v3 μ4 H locs hw hI => ?_)
    refine W.eq (g2 := F0 m 17 ls [.int v3]) rfl ?_
    refine lv_if_eq (tgt := 35) hx hb dX10_addPool_17 (by decide) (fun hc => ?_) (fun hc => ?_)
    · have hw := hw.1 hc
      exact kX10_addPool_35 hX  hw hI (lv_sub hl [0, 1, 2, 3] rfl) (by omega) (by omega)
    · have hw := hw.2 hc
      refine lv_iload_n hx hb dX10_addPool_20 rfl (lv_at hl 3 rfl) ?_
      refine lv_iconst (v := (0)) hx hb dX10_addPool_21 (by decide) ?_
      refine lv_sipush (v := (1000)) hx hb dX10_addPool_22 (by decide) ?_
      refine j_goz hI (va_runS (As := [.int x3, .int (0 : Int32), .int (1000 : Int32)]) (rest := []) ⟨hx, hb, hml, hown, hts⟩ (kX10_isIn l hfl D z x3 (0 : Int32) (1000 : Int32) μ4 H.size _) (va_cwS 3 hts gX10_addPool_X10_isIn rfl rfl rfl (by decide +kernel) ⟨Nat.le_of_ble_eq_true rfl, Nat.le_of_ble_eq_true rfl⟩) (j_prS2z hK hG hI hw) rfl rfl hl.1 rfl (lv_room (Nat.le_of_ble_eq_true rfl)) dX10_addPool_25 ⟨by show _ ≤ 0; omega, by show _ ≤ 0; omega⟩) (fun v5 μ6 H locs hw hI => ?_)
      refine W.eq (g2 := F0 m 28 ls [.int v5]) rfl ?_
      refine lv_if_eq (tgt := 35) hx hb dX10_addPool_28 (by decide) (fun hc => ?_) (fun hc => ?_)
      · have hw := hw.1 hc
        exact kX10_addPool_35 hX  hw hI (lv_sub hl [0, 1, 2, 3] rfl) (by omega) (by omega)
      · have hw := hw.2 hc
        refine lv_iconst (v := (1)) hx hb dX10_addPool_31 (by decide) ?_
        refine lv_goto (tgt := 36) hx hb dX10_addPool_32 (by decide) ?_
        exact kX10_addPool_36 hX  hw hI (lv_sub hl [0, 1, 2, 3] rfl) (by omega) (by omega)
set_option maxHeartbeats 4000000 in
set_option maxRecDepth 100000 in
theorem kX10_addPool (l : Launch) (hfl : l.stackTraces = false) (D : jD) (z : Nat × Nat) (b : Nat) (x1 : Int32) (x2 : Int32) (x3 : Int32) (μ : jM) (sz : Nat) (Q : Int32 → jM → Prop) : Met l yX10_addPool wsX10_addPool rmX10_addPool (jPre2z D z μ sz [.ref b, .int x1, .int x2, .int x3] (wX10_addPool z b x1 x2 x3 μ Q)) (jRz jfI Q D z (jA z μ sz)) 0 0 (jA z μ sz) := by
  refine Met.ofW (cc := cX10_addPool) (maxL := 5) (ret := (some .int)) (by decide) rfl ?_
  intro p e s m args below meth c s₁ B hml hv
  obtain ⟨rfl, hsz, hH, hz0, hK, hG, hw⟩ := hv
  subst hsz
  have hX : jX2 D z (jA z μ s.heap.size) p l s m _ meth c yX10_addPool cX10_addPool 5 wsX10_addPool (some .int) := ⟨B.exec, B.bytes, hml, findClass_of_methodNamed B.named, atoms_spec (ws := wsX10_addPool) B.pre, B.returns, B.notSynchronized, (name_of_methodNamed B.named B.method).1, hK, hG, hfl⟩
  obtain ⟨ls, hg, hl⟩ : ∃ ls : Array Slot, entryFrame m ([.ref b, .int x1, .int x2, .int x3] : List Value).toArray 5 = F0 m 0 ls [] ∧ lv_has ls 5 [(0, va_rf (some b)), (1, .int x1), (2, .int x2), (3, .int x3)] := by
    exact ⟨_, lg_entry_eq .., lv_entry _ (n := 5) (Nat.le_of_ble_eq_true rfl)⟩
  rw [hg]
  exact kX10_addPool_0 hX hw (jIz.start hH hz0) (lv_sub hl [0, 1, 2, 3] rfl) (by decide) (by decide)
set_option maxHeartbeats 4000000 in
set_option maxRecDepth 100000 in
theorem kX10_addAccount_40 {b : Nat} (hX : jX2 D z A p l s m args meth c yX10_addAccount cX10_addAccount 3 wsX10_addAccount (some .int)) {Q : Int32 → jM → Prop}  {x1 : Int32} {x2 : Int32} {t0 : Option Nat} {t1 : Int32} {μ : jM} {H : Heap} {locs : List Loc} {ls : Array Slot} {cells slots : Nat} (hw : wX10_addAccount_40 z b Q x1 x2 t0 t1 μ) (hI : jIz D z A s.heap μ H locs) (hl : lv_has ls 3 [(0, va_rf (some b)), (1, .int x1), (2, .int x2)]) (hcn : cells + 0 ≤ 0) (hsn : slots + 0 ≤ 0) : W p l e rmX10_addAccount s m args below meth c H locs cells slots (MQ below (jRz jfI Q D z A) args s 0 0 A) (F0 m 40 ls [.int t1, va_rf t0]) := by
  unfold wX10_addAccount_40 at hw
  obtain ⟨hx, hb, hml, hown, hts, hr, hlocks, hnm, hK, hG, hfl⟩ := id hX
  have hown : s.vm.findClass RX10 = some m.cls := hown
  obtain ⟨b3, ⟨hrb3, hfs⟩, hw⟩ := hw
  refine j_goz hI (va_runV (As := [.int t1]) (rest := []) ⟨hx, hb, hml, hown, hts⟩ (kX10_can l hfl D z b3 t1 μ H.size _) (cwV 1 hts gX10_addAccount_X10_can rfl rfl rfl (by decide +kernel) ⟨Nat.le_of_ble_eq_true rfl, Nat.le_of_ble_eq_true rfl⟩) (j_prV2z hK hG hI hw (ci := 12) rfl hfs) rfl rfl hl.1 (by rw [hrb3]; rfl) (lv_room (Nat.le_of_ble_eq_true rfl)) dX10_addAccount_40 ⟨by show _ ≤ 0; omega, by show _ ≤ 0; omega⟩) (fun v1 μ2 H locs hw hI => ?_)
  refine W.eq (g2 := F0 m 43 ls [.int v1]) rfl ?_
  refine lv_if_eq (tgt := 57) hx hb dX10_addAccount_43 (by decide) (fun hc => ?_) (fun hc => ?_)
  · have hw := hw.1 hc
    refine lv_iconst (v := (0)) hx hb dX10_addAccount_57 (by decide) ?_
    exact j_iretz hx hb hr hlocks hI hw (by omega) (by omega) dX10_addAccount_58
  · have hw := hw.2 hc
    refine j_aload_n (r := (some b)) hx hb dX10_addAccount_46 rfl (lv_at hl 0 rfl) ?_
    refine lv_iload_n hx hb dX10_addAccount_47 rfl (lv_at hl 1 rfl) ?_
    refine lv_iload_n hx hb dX10_addAccount_48 rfl (lv_at hl 2 rfl) ?_
    refine lv_iconst (v := (0)) hx hb dX10_addAccount_49 (by decide) ?_
    refine lv_iconst (v := (0)) hx hb dX10_addAccount_50 (by decide) ?_
    obtain ⟨hfs, hw⟩ := hw
    refine j_goz hI (va_runV (As := [.int x1, .int x2, .int (0 : Int32), .int (0 : Int32)]) (rest := []) ⟨hx, hb, hml, hown, hts⟩ (kX10_adds l hfl D z b x1 x2 (0 : Int32) (0 : Int32) μ2 H.size _) (cwV 4 hts gX10_addAccount_X10_adds rfl rfl rfl (by decide +kernel) ⟨Nat.le_of_ble_eq_true rfl, Nat.le_of_ble_eq_true rfl⟩) (j_prV2z hK hG hI hw (ci := 12) rfl hfs) rfl rfl hl.1 rfl (lv_room (Nat.le_of_ble_eq_true rfl)) dX10_addAccount_51 ⟨by show _ ≤ 0; omega, by show _ ≤ 0; omega⟩) (fun v4 μ5 H locs hw hI => ?_)
    refine W.eq (g2 := F0 m 54 ls [.int v4]) rfl ?_
    refine lv_goto (tgt := 58) hx hb dX10_addAccount_54 (by decide) ?_
    exact j_iretz hx hb hr hlocks hI hw (by omega) (by omega) dX10_addAccount_58
set_option maxHeartbeats 4000000 in
set_option maxRecDepth 100000 in
theorem kX10_addAccount_0 {b : Nat} (hX : jX2 D z A p l s m args meth c yX10_addAccount cX10_addAccount 3 wsX10_addAccount (some .int)) {Q : Int32 → jM → Prop}  {x1 : Int32} {x2 : Int32} {μ : jM} {H : Heap} {locs : List Loc} {ls : Array Slot} {cells slots : Nat} (hw : wX10_addAccount_0 z b Q x1 x2 μ) (hI : jIz D z A s.heap μ H locs) (hl : lv_has ls 3 [(0, va_rf (some b)), (1, .int x1), (2, .int x2)]) (hcn : cells + 0 ≤ 0) (hsn : slots + 0 ≤ 0) : W p l e rmX10_addAccount s m args below meth c H locs cells slots (MQ below (jRz jfI Q D z A) args s 0 0 A) (F0 m 0 ls []) := by
  unfold wX10_addAccount_0 at hw
  obtain ⟨hx, hb, hml, hown, hts, hr, hlocks, hnm, hK, hG, hfl⟩ := id hX
  have hown : s.vm.findClass RX10 = some m.cls := hown
  have hfX10 : ∀ w ∈ wsX100, w.before args s = true := fun w h => hts w (List.mem_cons_of_mem _ (List.mem_append_right _ h))
  refine j_aload_n (r := (some b)) hx hb dX10_addAccount_0 rfl (lv_at hl 0 rfl) ?_
  refine j_aload_n (r := (some b)) hx hb dX10_addAccount_1 rfl (lv_at hl 0 rfl) ?_
  refine lv_iload_n hx hb dX10_addAccount_2 rfl (lv_at hl 1 rfl) ?_
  obtain ⟨hfs, hw⟩ := hw
  refine j_goz hI (va_runV (As := [.int x1]) (rest := [va_rf (some b)]) ⟨hx, hb, hml, hown, hts⟩ (kX10_isAccount l hfl D z b x1 μ H.size _) (cwV 1 hts gX10_addAccount_X10_isAccount rfl rfl rfl (by decide +kernel) ⟨Nat.le_of_ble_eq_true rfl, Nat.le_of_ble_eq_true rfl⟩) (j_prV2z hK hG hI hw (ci := 12) rfl hfs) rfl rfl hl.1 rfl (lv_room (Nat.le_of_ble_eq_true rfl)) dX10_addAccount_3 ⟨by show _ ≤ 0; omega, by show _ ≤ 0; omega⟩) (fun v1 μ2 H locs hw hI => ?_)
  refine W.eq (g2 := F0 m 6 ls [.int v1, va_rf (some b)]) rfl ?_
  refine lv_if_ne (tgt := 13) hx hb dX10_addAccount_6 (by decide) (fun hc => ?_) (fun hc => ?_)
  · have hw := hw.1 hc
    refine lv_iload_n hx hb dX10_addAccount_13 rfl (lv_at hl 2 rfl) ?_
    refine lv_iconst (v := (0)) hx hb dX10_addAccount_14 (by decide) ?_
    refine lv_iconst (v := (3)) hx hb dX10_addAccount_15 (by decide) ?_
    refine j_goz hI (va_runS (As := [.int x2, .int (0 : Int32), .int (3 : Int32)]) (rest := [va_rf (some b)]) ⟨hx, hb, hml, hown, hts⟩ (kX10_isIn l hfl D z x2 (0 : Int32) (3 : Int32) μ2 H.size _) (va_cwS 3 hts gX10_addAccount_X10_isIn rfl rfl rfl (by decide +kernel) ⟨Nat.le_of_ble_eq_true rfl, Nat.le_of_ble_eq_true rfl⟩) (j_prS2z hK hG hI hw) rfl rfl hl.1 rfl (lv_room (Nat.le_of_ble_eq_true rfl)) dX10_addAccount_16 ⟨by show _ ≤ 0; omega, by show _ ≤ 0; omega⟩) (fun v3 μ4 H locs hw hI => ?_)
    refine W.eq (g2 := F0 m 19 ls [.int v3, va_rf (some b)]) rfl ?_
    refine lv_if_ne (tgt := 26) hx hb dX10_addAccount_19 (by decide) (fun hc => ?_) (fun hc => ?_)
    · have hw := hw.1 hc
      refine j_aload_n (r := (some b)) hx hb dX10_addAccount_26 rfl (lv_at hl 0 rfl) ?_
      obtain ⟨v5, hv5, hw⟩ := hw
      refine j_getz (C := RX10) (T := TX10) (N := 25) (ci := 12) (r := (some b)) (v := .int v5) hx hb hfX10 hown hK hI rfl 0 (by decide) (hts (.fieldLink RX10 79 "CashPoolsModel" "accounts" "I") (List.mem_of_getElem? (i := 1) (by decide +kernel))) (fun _ h => h) hv5 dX10_addAccount_27 ?_
      refine lv_bipush (v := (10)) hx hb dX10_addAccount_30 (by decide) ?_
      refine lv_icmp_ne (tgt := 39) hx hb dX10_addAccount_32 (by decide) (fun hc => ?_) (fun hc => ?_)
      · have hw := hw.1 hc
        refine lv_iconst (v := (0)) hx hb dX10_addAccount_39 (by decide) ?_
        exact kX10_addAccount_40 hX  hw hI (lv_sub hl [0, 1, 2] rfl) (by omega) (by omega)
      · have hw := hw.2 hc
        refine lv_iconst (v := (3)) hx hb dX10_addAccount_35 (by decide) ?_
        refine lv_goto (tgt := 40) hx hb dX10_addAccount_36 (by decide) ?_
        exact kX10_addAccount_40 hX  hw hI (lv_sub hl [0, 1, 2] rfl) (by omega) (by omega)
    · have hw := hw.2 hc
      refine lv_iconst (v := (2)) hx hb dX10_addAccount_22 (by decide) ?_
      refine lv_goto (tgt := 40) hx hb dX10_addAccount_23 (by decide) ?_
      exact kX10_addAccount_40 hX  hw hI (lv_sub hl [0, 1, 2] rfl) (by omega) (by omega)
  · have hw := hw.2 hc
    refine lv_iconst (v := (1)) hx hb dX10_addAccount_9 (by decide) ?_
    refine lv_goto (tgt := 40) hx hb dX10_addAccount_10 (by decide) ?_
    exact kX10_addAccount_40 hX  hw hI (lv_sub hl [0, 1, 2] rfl) (by omega) (by omega)
set_option maxHeartbeats 4000000 in
set_option maxRecDepth 100000 in
theorem kX10_addAccount (l : Launch) (hfl : l.stackTraces = false) (D : jD) (z : Nat × Nat) (b : Nat) (x1 : Int32) (x2 : Int32) (μ : jM) (sz : Nat) (Q : Int32 → jM → Prop) : Met l yX10_addAccount wsX10_addAccount rmX10_addAccount (jPre2z D z μ sz [.ref b, .int x1, .int x2] (wX10_addAccount z b x1 x2 μ Q)) (jRz jfI Q D z (jA z μ sz)) 0 0 (jA z μ sz) := by
  refine Met.ofW (cc := cX10_addAccount) (maxL := 3) (ret := (some .int)) (by decide) rfl ?_
  intro p e s m args below meth c s₁ B hml hv
  obtain ⟨rfl, hsz, hH, hz0, hK, hG, hw⟩ := hv
  subst hsz
  have hX : jX2 D z (jA z μ s.heap.size) p l s m _ meth c yX10_addAccount cX10_addAccount 3 wsX10_addAccount (some .int) := ⟨B.exec, B.bytes, hml, findClass_of_methodNamed B.named, atoms_spec (ws := wsX10_addAccount) B.pre, B.returns, B.notSynchronized, (name_of_methodNamed B.named B.method).1, hK, hG, hfl⟩
  obtain ⟨ls, hg, hl⟩ : ∃ ls : Array Slot, entryFrame m ([.ref b, .int x1, .int x2] : List Value).toArray 3 = F0 m 0 ls [] ∧ lv_has ls 3 [(0, va_rf (some b)), (1, .int x1), (2, .int x2)] := by
    exact ⟨_, lg_entry_eq .., lv_entry _ (n := 3) (Nat.le_of_ble_eq_true rfl)⟩
  rw [hg]
  exact kX10_addAccount_0 hX hw (jIz.start hH hz0) (lv_sub hl [0, 1, 2] rfl) (by decide) (by decide)
set_option maxHeartbeats 4000000 in
set_option maxRecDepth 100000 in
theorem kX10_isAmount_0 (hX : jX2 D z A p l s m args meth c yX10_isAmount cX10_isAmount 1 wsX10_isAmount (some .boolean)) {Q : Int32 → jM → Prop}  {x0 : Int32} {μ : jM} {H : Heap} {locs : List Loc} {ls : Array Slot} {cells slots : Nat} (hw : wX10_isAmount_0 z Q x0 μ) (hI : jIz D z A s.heap μ H locs) (hl : lv_has ls 1 [(0, .int x0)]) (hcn : cells + 0 ≤ 0) (hsn : slots + 0 ≤ 0) : W p l e rmX10_isAmount s m args below meth c H locs cells slots (MQ below (jRz jfI Q D z A) args s 0 0 A) (F0 m 0 ls []) := by
  unfold wX10_isAmount_0 at hw
  obtain ⟨hx, hb, hml, hown, hts, hr, hlocks, hnm, hK, hG, hfl⟩ := id hX
  have hown : s.vm.findClass RX10 = some m.cls := hown
  refine lv_iload_n hx hb dX10_isAmount_0 rfl (lv_at hl 0 rfl) ?_
  refine lv_ldc (v := (-1000000)) hx hb hown (hts (.constant RX10 97 (-1000000)) (List.mem_of_getElem? (i := 1) (by decide +kernel))) dX10_isAmount_1 ?_
  refine lv_ldc (v := (1000000)) hx hb hown (hts (.constant RX10 98 (1000000)) (List.mem_of_getElem? (i := 2) (by decide +kernel))) dX10_isAmount_3 ?_
  refine j_goz hI (va_runS (As := [.int x0, .int (-1000000 : Int32), .int (1000000 : Int32)]) (rest := []) ⟨hx, hb, hml, hown, hts⟩ (kX10_isIn l hfl D z x0 (-1000000 : Int32) (1000000 : Int32) μ H.size _) (va_cwS 3 hts gX10_isAmount_X10_isIn rfl rfl rfl (by decide +kernel) ⟨Nat.le_of_ble_eq_true rfl, Nat.le_of_ble_eq_true rfl⟩) (j_prS2z hK hG hI hw) rfl rfl hl.1 rfl (lv_room (Nat.le_of_ble_eq_true rfl)) dX10_isAmount_5 ⟨by show _ ≤ 0; omega, by show _ ≤ 0; omega⟩) (fun v1 μ2 H locs hw hI => ?_)
  refine W.eq (g2 := F0 m 8 ls [.int v1]) rfl ?_
  obtain ⟨hz, hw⟩ := hw
  exact j_zretz hx hb hr hz hlocks hI hw (by omega) (by omega) dX10_isAmount_8
set_option maxHeartbeats 4000000 in
set_option maxRecDepth 100000 in
theorem kX10_isAmount (l : Launch) (hfl : l.stackTraces = false) (D : jD) (z : Nat × Nat) (x0 : Int32) (μ : jM) (sz : Nat) (Q : Int32 → jM → Prop) : Met l yX10_isAmount wsX10_isAmount rmX10_isAmount (jPre2z D z μ sz [.int x0] (wX10_isAmount z x0 μ Q)) (jRz jfI Q D z (jA z μ sz)) 0 0 (jA z μ sz) := by
  refine Met.ofW (cc := cX10_isAmount) (maxL := 1) (ret := (some .boolean)) (by decide) rfl ?_
  intro p e s m args below meth c s₁ B hml hv
  obtain ⟨rfl, hsz, hH, hz0, hK, hG, hw⟩ := hv
  subst hsz
  have hX : jX2 D z (jA z μ s.heap.size) p l s m _ meth c yX10_isAmount cX10_isAmount 1 wsX10_isAmount (some .boolean) := ⟨B.exec, B.bytes, hml, findClass_of_methodNamed B.named, atoms_spec (ws := wsX10_isAmount) B.pre, B.returns, B.notSynchronized, (name_of_methodNamed B.named B.method).1, hK, hG, hfl⟩
  obtain ⟨ls, hg, hl⟩ : ∃ ls : Array Slot, entryFrame m ([.int x0] : List Value).toArray 1 = F0 m 0 ls [] ∧ lv_has ls 1 [(0, .int x0)] := by
    exact ⟨_, lg_entry_eq .., lv_entry _ (n := 1) (Nat.le_of_ble_eq_true rfl)⟩
  rw [hg]
  exact kX10_isAmount_0 hX hw (jIz.start hH hz0) (lv_sub hl [0] rfl) (by decide) (by decide)
set_option maxHeartbeats 4000000 in
set_option maxRecDepth 100000 in
theorem kX10_setRule_46 {b : Nat} (hX : jX2 D z A p l s m args meth c yX10_setRule cX10_setRule 5 wsX10_setRule (some .int)) {Q : Int32 → jM → Prop}  {x1 : Int32} {x2 : Int32} {x3 : Int32} {t0 : Option Nat} {t1 : Int32} {μ : jM} {H : Heap} {locs : List Loc} {ls : Array Slot} {cells slots : Nat} (hw : wX10_setRule_46 z b Q x1 x2 x3 t0 t1 μ) (hI : jIz D z A s.heap μ H locs) (hl : lv_has ls 5 [(0, va_rf (some b)), (1, .int x1), (2, .int x2), (3, .int x3)]) (hcn : cells + 0 ≤ 0) (hsn : slots + 0 ≤ 0) : W p l e rmX10_setRule s m args below meth c H locs cells slots (MQ below (jRz jfI Q D z A) args s 0 0 A) (F0 m 46 ls [.int t1, va_rf t0]) := by
  unfold wX10_setRule_46 at hw
  obtain ⟨hx, hb, hml, hown, hts, hr, hlocks, hnm, hK, hG, hfl⟩ := id hX
  have hown : s.vm.findClass RX10 = some m.cls := hown
  have hfX10 : ∀ w ∈ wsX100, w.before args s = true := fun w h => hts w (List.mem_cons_of_mem _ (List.mem_append_right _ h))
  obtain ⟨b3, ⟨hrb3, hfs⟩, hw⟩ := hw
  refine j_goz hI (va_runV (As := [.int t1]) (rest := []) ⟨hx, hb, hml, hown, hts⟩ (kX10_can l hfl D z b3 t1 μ H.size _) (cwV 1 hts gX10_setRule_X10_can rfl rfl rfl (by decide +kernel) ⟨Nat.le_of_ble_eq_true rfl, Nat.le_of_ble_eq_true rfl⟩) (j_prV2z hK hG hI hw (ci := 12) rfl hfs) rfl rfl hl.1 (by rw [hrb3]; rfl) (lv_room (Nat.le_of_ble_eq_true rfl)) dX10_setRule_46 ⟨by show _ ≤ 0; omega, by show _ ≤ 0; omega⟩) (fun v1 μ2 H locs hw hI => ?_)
  refine W.eq (g2 := F0 m 49 ls [.int v1]) rfl ?_
  refine lv_if_ne (tgt := 54) hx hb dX10_setRule_49 (by decide) (fun hc => ?_) (fun hc => ?_)
  · have hw := hw.1 hc
    refine j_aload_n (r := (some b)) hx hb dX10_setRule_54 rfl (lv_at hl 0 rfl) ?_
    obtain ⟨v4, hv4, hw⟩ := hw
    refine j_getz (C := RX10) (T := TX10) (N := 25) (ci := 12) (r := (some b)) (v := va_rf v4) hx hb hfX10 hown hK hI rfl 8 (by decide) (hts (.fieldLink RX10 26 "CashPoolsModel" "rule" "[I") (List.mem_of_getElem? (i := 1) (by decide +kernel))) (fun _ h => h) hv4 dX10_setRule_55 ?_
    refine lv_iload_n hx hb dX10_setRule_58 rfl (lv_at hl 1 rfl) ?_
    obtain ⟨v5, hv5, hw⟩ := hw
    refine j_ialdz (r := v4) hx hb hK hI hv5 dX10_setRule_59 ?_
    refine lv_istore (lv' := [(4, .int v5), (0, va_rf (some b)), (1, .int x1), (2, .int x2), (3, .int x3)]) hx hb dX10_setRule_60 hl (by decide) rfl (fun ls hl => ?_)
    refine j_aload_n (r := (some b)) hx hb dX10_setRule_62 rfl (lv_at hl 1 rfl) ?_
    obtain ⟨v6, hv6, hw⟩ := hw
    refine j_getz (C := RX10) (T := TX10) (N := 25) (ci := 12) (r := (some b)) (v := va_rf v6) hx hb hfX10 hown hK hI rfl 8 (by decide) (hts (.fieldLink RX10 26 "CashPoolsModel" "rule" "[I") (List.mem_of_getElem? (i := 1) (by decide +kernel))) (fun _ h => h) hv6 dX10_setRule_63 ?_
    refine lv_iload_n hx hb dX10_setRule_66 rfl (lv_at hl 2 rfl) ?_
    refine lv_iload_n hx hb dX10_setRule_67 rfl (lv_at hl 3 rfl) ?_
    obtain ⟨μ7, hμ7, hw⟩ := hw
    refine j_iastz (r := v6) hx hb hK hI hμ7 dX10_setRule_68 (fun H locs hI => ?_)
    refine j_aload_n (r := (some b)) hx hb dX10_setRule_69 rfl (lv_at hl 1 rfl) ?_
    obtain ⟨v8, hv8, hw⟩ := hw
    refine j_getz (C := RX10) (T := TX10) (N := 25) (ci := 12) (r := (some b)) (v := va_rf v8) hx hb hfX10 hown hK hI rfl 9 (by decide) (hts (.fieldLink RX10 29 "CashPoolsModel" "target" "[I") (List.mem_of_getElem? (i := 2) (by decide +kernel))) (fun _ h => h) hv8 dX10_setRule_70 ?_
    refine lv_iload_n hx hb dX10_setRule_73 rfl (lv_at hl 2 rfl) ?_
    refine lv_iload_n hx hb dX10_setRule_74 rfl (lv_at hl 4 rfl) ?_
    obtain ⟨μ9, hμ9, hw⟩ := hw
    refine j_iastz (r := v8) hx hb hK hI hμ9 dX10_setRule_75 (fun H locs hI => ?_)
    refine lv_iload hx hb dX10_setRule_76 (lv_at hl 0 rfl) ?_
    exact j_iretz hx hb hr hlocks hI hw (by omega) (by omega) dX10_setRule_78
  · have hw := hw.2 hc
    refine lv_iconst (v := (0)) hx hb dX10_setRule_52 (by decide) ?_
    exact j_iretz hx hb hr hlocks hI hw (by omega) (by omega) dX10_setRule_53
set_option maxHeartbeats 4000000 in
set_option maxRecDepth 100000 in
theorem kX10_setRule_29 {b : Nat} (hX : jX2 D z A p l s m args meth c yX10_setRule cX10_setRule 5 wsX10_setRule (some .int)) {Q : Int32 → jM → Prop}  {x1 : Int32} {x2 : Int32} {x3 : Int32} {t0 : Option Nat} {μ : jM} {H : Heap} {locs : List Loc} {ls : Array Slot} {cells slots : Nat} (hw : wX10_setRule_29 z b Q x1 x2 x3 t0 μ) (hI : jIz D z A s.heap μ H locs) (hl : lv_has ls 5 [(0, va_rf (some b)), (1, .int x1), (2, .int x2), (3, .int x3)]) (hcn : cells + 0 ≤ 0) (hsn : slots + 0 ≤ 0) : W p l e rmX10_setRule s m args below meth c H locs cells slots (MQ below (jRz jfI Q D z A) args s 0 0 A) (F0 m 29 ls [va_rf t0]) := by
  unfold wX10_setRule_29 at hw
  obtain ⟨hx, hb, hml, hown, hts, hr, hlocks, hnm, hK, hG, hfl⟩ := id hX
  have hown : s.vm.findClass RX10 = some m.cls := hown
  refine lv_iconst (v := (2)) hx hb dX10_setRule_29 (by decide) ?_
  refine lv_goto (tgt := 46) hx hb dX10_setRule_30 (by decide) ?_
  exact kX10_setRule_46 hX  hw hI (lv_sub hl [0, 1, 2, 3] rfl) (by omega) (by omega)
set_option maxHeartbeats 4000000 in
set_option maxRecDepth 100000 in
theorem kX10_setRule_0 {b : Nat} (hX : jX2 D z A p l s m args meth c yX10_setRule cX10_setRule 5 wsX10_setRule (some .int)) {Q : Int32 → jM → Prop}  {x1 : Int32} {x2 : Int32} {x3 : Int32} {μ : jM} {H : Heap} {locs : List Loc} {ls : Array Slot} {cells slots : Nat} (hw : wX10_setRule_0 z b Q x1 x2 x3 μ) (hI : jIz D z A s.heap μ H locs) (hl : lv_has ls 5 [(0, va_rf (some b)), (1, .int x1), (2, .int x2), (3, .int x3)]) (hcn : cells + 0 ≤ 0) (hsn : slots + 0 ≤ 0) : W p l e rmX10_setRule s m args below meth c H locs cells slots (MQ below (jRz jfI Q D z A) args s 0 0 A) (F0 m 0 ls []) := by
  unfold wX10_setRule_0 at hw
  obtain ⟨hx, hb, hml, hown, hts, hr, hlocks, hnm, hK, hG, hfl⟩ := id hX
  have hown : s.vm.findClass RX10 = some m.cls := hown
  refine j_aload_n (r := (some b)) hx hb dX10_setRule_0 rfl (lv_at hl 0 rfl) ?_
  refine j_aload_n (r := (some b)) hx hb dX10_setRule_1 rfl (lv_at hl 0 rfl) ?_
  refine lv_iload_n hx hb dX10_setRule_2 rfl (lv_at hl 1 rfl) ?_
  obtain ⟨hfs, hw⟩ := hw
  refine j_goz hI (va_runV (As := [.int x1]) (rest := [va_rf (some b)]) ⟨hx, hb, hml, hown, hts⟩ (kX10_isAccount l hfl D z b x1 μ H.size _) (cwV 1 hts gX10_setRule_X10_isAccount rfl rfl rfl (by decide +kernel) ⟨Nat.le_of_ble_eq_true rfl, Nat.le_of_ble_eq_true rfl⟩) (j_prV2z hK hG hI hw (ci := 12) rfl hfs) rfl rfl hl.1 rfl (lv_room (Nat.le_of_ble_eq_true rfl)) dX10_setRule_3 ⟨by show _ ≤ 0; omega, by show _ ≤ 0; omega⟩) (fun v1 μ2 H locs hw hI => ?_)
  refine W.eq (g2 := F0 m 6 ls [.int v1, va_rf (some b)]) rfl ?_
  refine lv_if_ne (tgt := 13) hx hb dX10_setRule_6 (by decide) (fun hc => ?_) (fun hc => ?_)
  · have hw := hw.1 hc
    refine lv_iload_n hx hb dX10_setRule_13 rfl (lv_at hl 2 rfl) ?_
    refine lv_iconst (v := (0)) hx hb dX10_setRule_14 (by decide) ?_
    refine lv_iconst (v := (3)) hx hb dX10_setRule_15 (by decide) ?_
    refine j_goz hI (va_runS (As := [.int x2, .int (0 : Int32), .int (3 : Int32)]) (rest := [va_rf (some b)]) ⟨hx, hb, hml, hown, hts⟩ (kX10_isIn l hfl D z x2 (0 : Int32) (3 : Int32) μ2 H.size _) (va_cwS 3 hts gX10_setRule_X10_isIn rfl rfl rfl (by decide +kernel) ⟨Nat.le_of_ble_eq_true rfl, Nat.le_of_ble_eq_true rfl⟩) (j_prS2z hK hG hI hw) rfl rfl hl.1 rfl (lv_room (Nat.le_of_ble_eq_true rfl)) dX10_setRule_16 ⟨by show _ ≤ 0; omega, by show _ ≤ 0; omega⟩) (fun v3 μ4 H locs hw hI => ?_)
    refine W.eq (g2 := F0 m 19 ls [.int v3, va_rf (some b)]) rfl ?_
    refine lv_if_eq (tgt := 29) hx hb dX10_setRule_19 (by decide) (fun hc => ?_) (fun hc => ?_)
    · have hw := hw.1 hc
      exact kX10_setRule_29 hX  hw hI (lv_sub hl [0, 1, 2, 3] rfl) (by omega) (by omega)
    · have hw := hw.2 hc
      refine lv_iload_n hx hb dX10_setRule_22 rfl (lv_at hl 3 rfl) ?_
      refine j_goz hI (va_runS (As := [.int x3]) (rest := [va_rf (some b)]) ⟨hx, hb, hml, hown, hts⟩ (kX10_isAmount l hfl D z x3 μ4 H.size _) (va_cwS 1 hts gX10_setRule_X10_isAmount rfl rfl rfl (by decide +kernel) ⟨Nat.le_of_ble_eq_true rfl, Nat.le_of_ble_eq_true rfl⟩) (j_prS2z hK hG hI hw) rfl rfl hl.1 rfl (lv_room (Nat.le_of_ble_eq_true rfl)) dX10_setRule_23 ⟨by show _ ≤ 0; omega, by show _ ≤ 0; omega⟩) (fun v5 μ6 H locs hw hI => ?_)
      refine W.eq (g2 := F0 m 26 ls [.int v5, va_rf (some b)]) rfl ?_
      refine lv_if_ne (tgt := 33) hx hb dX10_setRule_26 (by decide) (fun hc => ?_) (fun hc => ?_)
      · have hw := hw.1 hc
        refine j_aload_n (r := (some b)) hx hb dX10_setRule_33 rfl (lv_at hl 0 rfl) ?_
        refine lv_iload_n hx hb dX10_setRule_34 rfl (lv_at hl 1 rfl) ?_
        obtain ⟨hfs, hw⟩ := hw
        refine j_goz hI (va_runV (As := [.int x1]) (rest := [va_rf (some b)]) ⟨hx, hb, hml, hown, hts⟩ (kX10_isTop l hfl D z b x1 μ6 H.size _) (cwV 1 hts gX10_setRule_X10_isTop rfl rfl rfl (by decide +kernel) ⟨Nat.le_of_ble_eq_true rfl, Nat.le_of_ble_eq_true rfl⟩) (j_prV2z hK hG hI hw (ci := 12) rfl hfs) rfl rfl hl.1 rfl (lv_room (Nat.le_of_ble_eq_true rfl)) dX10_setRule_35 ⟨by show _ ≤ 0; omega, by show _ ≤ 0; omega⟩) (fun v7 μ8 H locs hw hI => ?_)
        refine W.eq (g2 := F0 m 38 ls [.int v7, va_rf (some b)]) rfl ?_
        refine lv_if_eq (tgt := 45) hx hb dX10_setRule_38 (by decide) (fun hc => ?_) (fun hc => ?_)
        · have hw := hw.1 hc
          refine lv_iconst (v := (0)) hx hb dX10_setRule_45 (by decide) ?_
          exact kX10_setRule_46 hX  hw hI (lv_sub hl [0, 1, 2, 3] rfl) (by omega) (by omega)
        · have hw := hw.2 hc
          refine lv_iconst (v := (3)) hx hb dX10_setRule_41 (by decide) ?_
          refine lv_goto (tgt := 46) hx hb dX10_setRule_42 (by decide) ?_
          exact kX10_setRule_46 hX  hw hI (lv_sub hl [0, 1, 2, 3] rfl) (by omega) (by omega)
      · have hw := hw.2 hc
        exact kX10_setRule_29 hX  hw hI (lv_sub hl [0, 1, 2, 3] rfl) (by omega) (by omega)
  · have hw := hw.2 hc
    refine lv_iconst (v := (1)) hx hb dX10_setRule_9 (by decide) ?_
    refine lv_goto (tgt := 46) hx hb dX10_setRule_10 (by decide) ?_
    exact kX10_setRule_46 hX  hw hI (lv_sub hl [0, 1, 2, 3] rfl) (by omega) (by omega)
set_option maxHeartbeats 4000000 in
set_option maxRecDepth 100000 in
theorem kX10_setRule (l : Launch) (hfl : l.stackTraces = false) (D : jD) (z : Nat × Nat) (b : Nat) (x1 : Int32) (x2 : Int32) (x3 : Int32) (μ : jM) (sz : Nat) (Q : Int32 → jM → Prop) : Met l yX10_setRule wsX10_setRule rmX10_setRule (jPre2z D z μ sz [.ref b, .int x1, .int x2, .int x3] (wX10_setRule z b x1 x2 x3 μ Q)) (jRz jfI Q D z (jA z μ sz)) 0 0 (jA z μ sz) := by
  refine Met.ofW (cc := cX10_setRule) (maxL := 5) (ret := (some .int)) (by decide) rfl ?_
  intro p e s m args below meth c s₁ B hml hv
  obtain ⟨rfl, hsz, hH, hz0, hK, hG, hw⟩ := hv
  subst hsz
  have hX : jX2 D z (jA z μ s.heap.size) p l s m _ meth c yX10_setRule cX10_setRule 5 wsX10_setRule (some .int) := ⟨B.exec, B.bytes, hml, findClass_of_methodNamed B.named, atoms_spec (ws := wsX10_setRule) B.pre, B.returns, B.notSynchronized, (name_of_methodNamed B.named B.method).1, hK, hG, hfl⟩
  obtain ⟨ls, hg, hl⟩ : ∃ ls : Array Slot, entryFrame m ([.ref b, .int x1, .int x2, .int x3] : List Value).toArray 5 = F0 m 0 ls [] ∧ lv_has ls 5 [(0, va_rf (some b)), (1, .int x1), (2, .int x2), (3, .int x3)] := by
    exact ⟨_, lg_entry_eq .., lv_entry _ (n := 5) (Nat.le_of_ble_eq_true rfl)⟩
  rw [hg]
  exact kX10_setRule_0 hX hw (jIz.start hH hz0) (lv_sub hl [0, 1, 2, 3] rfl) (by decide) (by decide)
set_option maxHeartbeats 4000000 in
set_option maxRecDepth 100000 in
theorem kX10_setFloor_25 {b : Nat} (hX : jX2 D z A p l s m args meth c yX10_setFloor cX10_setFloor 4 wsX10_setFloor (some .int)) {Q : Int32 → jM → Prop}  {x1 : Int32} {x2 : Int32} {t0 : Option Nat} {t1 : Int32} {μ : jM} {H : Heap} {locs : List Loc} {ls : Array Slot} {cells slots : Nat} (hw : wX10_setFloor_25 z b Q x1 x2 t0 t1 μ) (hI : jIz D z A s.heap μ H locs) (hl : lv_has ls 4 [(0, va_rf (some b)), (1, .int x1), (2, .int x2)]) (hcn : cells + 0 ≤ 0) (hsn : slots + 0 ≤ 0) : W p l e rmX10_setFloor s m args below meth c H locs cells slots (MQ below (jRz jfI Q D z A) args s 0 0 A) (F0 m 25 ls [.int t1, va_rf t0]) := by
  unfold wX10_setFloor_25 at hw
  obtain ⟨hx, hb, hml, hown, hts, hr, hlocks, hnm, hK, hG, hfl⟩ := id hX
  have hown : s.vm.findClass RX10 = some m.cls := hown
  have hfX10 : ∀ w ∈ wsX100, w.before args s = true := fun w h => hts w (List.mem_cons_of_mem _ (List.mem_append_right _ h))
  obtain ⟨b3, ⟨hrb3, hfs⟩, hw⟩ := hw
  refine j_goz hI (va_runV (As := [.int t1]) (rest := []) ⟨hx, hb, hml, hown, hts⟩ (kX10_can l hfl D z b3 t1 μ H.size _) (cwV 1 hts gX10_setFloor_X10_can rfl rfl rfl (by decide +kernel) ⟨Nat.le_of_ble_eq_true rfl, Nat.le_of_ble_eq_true rfl⟩) (j_prV2z hK hG hI hw (ci := 12) rfl hfs) rfl rfl hl.1 (by rw [hrb3]; rfl) (lv_room (Nat.le_of_ble_eq_true rfl)) dX10_setFloor_25 ⟨by show _ ≤ 0; omega, by show _ ≤ 0; omega⟩) (fun v1 μ2 H locs hw hI => ?_)
  refine W.eq (g2 := F0 m 28 ls [.int v1]) rfl ?_
  refine lv_if_ne (tgt := 33) hx hb dX10_setFloor_28 (by decide) (fun hc => ?_) (fun hc => ?_)
  · have hw := hw.1 hc
    refine j_aload_n (r := (some b)) hx hb dX10_setFloor_33 rfl (lv_at hl 0 rfl) ?_
    obtain ⟨v4, hv4, hw⟩ := hw
    refine j_getz (C := RX10) (T := TX10) (N := 25) (ci := 12) (r := (some b)) (v := va_rf v4) hx hb hfX10 hown hK hI rfl 10 (by decide) (hts (.fieldLink RX10 32 "CashPoolsModel" "floor" "[I") (List.mem_of_getElem? (i := 1) (by decide +kernel))) (fun _ h => h) hv4 dX10_setFloor_34 ?_
    refine lv_iload_n hx hb dX10_setFloor_37 rfl (lv_at hl 1 rfl) ?_
    obtain ⟨v5, hv5, hw⟩ := hw
    refine j_ialdz (r := v4) hx hb hK hI hv5 dX10_setFloor_38 ?_
    refine lv_istore_n (lv' := [(3, .int v5), (0, va_rf (some b)), (1, .int x1), (2, .int x2)]) hx hb dX10_setFloor_39 rfl hl (by decide) rfl (fun ls hl => ?_)
    refine j_aload_n (r := (some b)) hx hb dX10_setFloor_40 rfl (lv_at hl 1 rfl) ?_
    obtain ⟨v6, hv6, hw⟩ := hw
    refine j_getz (C := RX10) (T := TX10) (N := 25) (ci := 12) (r := (some b)) (v := va_rf v6) hx hb hfX10 hown hK hI rfl 10 (by decide) (hts (.fieldLink RX10 32 "CashPoolsModel" "floor" "[I") (List.mem_of_getElem? (i := 1) (by decide +kernel))) (fun _ h => h) hv6 dX10_setFloor_41 ?_
    refine lv_iload_n hx hb dX10_setFloor_44 rfl (lv_at hl 2 rfl) ?_
    refine lv_iload_n hx hb dX10_setFloor_45 rfl (lv_at hl 3 rfl) ?_
    obtain ⟨μ7, hμ7, hw⟩ := hw
    refine j_iastz (r := v6) hx hb hK hI hμ7 dX10_setFloor_46 (fun H locs hI => ?_)
    refine lv_iload_n hx hb dX10_setFloor_47 rfl (lv_at hl 0 rfl) ?_
    exact j_iretz hx hb hr hlocks hI hw (by omega) (by omega) dX10_setFloor_48
  · have hw := hw.2 hc
    refine lv_iconst (v := (0)) hx hb dX10_setFloor_31 (by decide) ?_
    exact j_iretz hx hb hr hlocks hI hw (by omega) (by omega) dX10_setFloor_32
set_option maxHeartbeats 4000000 in
set_option maxRecDepth 100000 in
theorem kX10_setFloor_0 {b : Nat} (hX : jX2 D z A p l s m args meth c yX10_setFloor cX10_setFloor 4 wsX10_setFloor (some .int)) {Q : Int32 → jM → Prop}  {x1 : Int32} {x2 : Int32} {μ : jM} {H : Heap} {locs : List Loc} {ls : Array Slot} {cells slots : Nat} (hw : wX10_setFloor_0 z b Q x1 x2 μ) (hI : jIz D z A s.heap μ H locs) (hl : lv_has ls 4 [(0, va_rf (some b)), (1, .int x1), (2, .int x2)]) (hcn : cells + 0 ≤ 0) (hsn : slots + 0 ≤ 0) : W p l e rmX10_setFloor s m args below meth c H locs cells slots (MQ below (jRz jfI Q D z A) args s 0 0 A) (F0 m 0 ls []) := by
  unfold wX10_setFloor_0 at hw
  obtain ⟨hx, hb, hml, hown, hts, hr, hlocks, hnm, hK, hG, hfl⟩ := id hX
  have hown : s.vm.findClass RX10 = some m.cls := hown
  refine j_aload_n (r := (some b)) hx hb dX10_setFloor_0 rfl (lv_at hl 0 rfl) ?_
  refine j_aload_n (r := (some b)) hx hb dX10_setFloor_1 rfl (lv_at hl 0 rfl) ?_
  refine lv_iload_n hx hb dX10_setFloor_2 rfl (lv_at hl 1 rfl) ?_
  obtain ⟨hfs, hw⟩ := hw
  refine j_goz hI (va_runV (As := [.int x1]) (rest := [va_rf (some b)]) ⟨hx, hb, hml, hown, hts⟩ (kX10_isAccount l hfl D z b x1 μ H.size _) (cwV 1 hts gX10_setFloor_X10_isAccount rfl rfl rfl (by decide +kernel) ⟨Nat.le_of_ble_eq_true rfl, Nat.le_of_ble_eq_true rfl⟩) (j_prV2z hK hG hI hw (ci := 12) rfl hfs) rfl rfl hl.1 rfl (lv_room (Nat.le_of_ble_eq_true rfl)) dX10_setFloor_3 ⟨by show _ ≤ 0; omega, by show _ ≤ 0; omega⟩) (fun v1 μ2 H locs hw hI => ?_)
  refine W.eq (g2 := F0 m 6 ls [.int v1, va_rf (some b)]) rfl ?_
  refine lv_if_ne (tgt := 13) hx hb dX10_setFloor_6 (by decide) (fun hc => ?_) (fun hc => ?_)
  · have hw := hw.1 hc
    refine lv_iload_n hx hb dX10_setFloor_13 rfl (lv_at hl 2 rfl) ?_
    refine j_goz hI (va_runS (As := [.int x2]) (rest := [va_rf (some b)]) ⟨hx, hb, hml, hown, hts⟩ (kX10_isAmount l hfl D z x2 μ2 H.size _) (va_cwS 1 hts gX10_setFloor_X10_isAmount rfl rfl rfl (by decide +kernel) ⟨Nat.le_of_ble_eq_true rfl, Nat.le_of_ble_eq_true rfl⟩) (j_prS2z hK hG hI hw) rfl rfl hl.1 rfl (lv_room (Nat.le_of_ble_eq_true rfl)) dX10_setFloor_14 ⟨by show _ ≤ 0; omega, by show _ ≤ 0; omega⟩) (fun v3 μ4 H locs hw hI => ?_)
    refine W.eq (g2 := F0 m 17 ls [.int v3, va_rf (some b)]) rfl ?_
    refine lv_if_eq (tgt := 24) hx hb dX10_setFloor_17 (by decide) (fun hc => ?_) (fun hc => ?_)
    · have hw := hw.1 hc
      refine lv_iconst (v := (2)) hx hb dX10_setFloor_24 (by decide) ?_
      exact kX10_setFloor_25 hX  hw hI (lv_sub hl [0, 1, 2] rfl) (by omega) (by omega)
    · have hw := hw.2 hc
      refine lv_iconst (v := (0)) hx hb dX10_setFloor_20 (by decide) ?_
      refine lv_goto (tgt := 25) hx hb dX10_setFloor_21 (by decide) ?_
      exact kX10_setFloor_25 hX  hw hI (lv_sub hl [0, 1, 2] rfl) (by omega) (by omega)
  · have hw := hw.2 hc
    refine lv_iconst (v := (1)) hx hb dX10_setFloor_9 (by decide) ?_
    refine lv_goto (tgt := 25) hx hb dX10_setFloor_10 (by decide) ?_
    exact kX10_setFloor_25 hX  hw hI (lv_sub hl [0, 1, 2] rfl) (by omega) (by omega)
set_option maxHeartbeats 4000000 in
set_option maxRecDepth 100000 in
theorem kX10_setFloor (l : Launch) (hfl : l.stackTraces = false) (D : jD) (z : Nat × Nat) (b : Nat) (x1 : Int32) (x2 : Int32) (μ : jM) (sz : Nat) (Q : Int32 → jM → Prop) : Met l yX10_setFloor wsX10_setFloor rmX10_setFloor (jPre2z D z μ sz [.ref b, .int x1, .int x2] (wX10_setFloor z b x1 x2 μ Q)) (jRz jfI Q D z (jA z μ sz)) 0 0 (jA z μ sz) := by
  refine Met.ofW (cc := cX10_setFloor) (maxL := 4) (ret := (some .int)) (by decide) rfl ?_
  intro p e s m args below meth c s₁ B hml hv
  obtain ⟨rfl, hsz, hH, hz0, hK, hG, hw⟩ := hv
  subst hsz
  have hX : jX2 D z (jA z μ s.heap.size) p l s m _ meth c yX10_setFloor cX10_setFloor 4 wsX10_setFloor (some .int) := ⟨B.exec, B.bytes, hml, findClass_of_methodNamed B.named, atoms_spec (ws := wsX10_setFloor) B.pre, B.returns, B.notSynchronized, (name_of_methodNamed B.named B.method).1, hK, hG, hfl⟩
  obtain ⟨ls, hg, hl⟩ : ∃ ls : Array Slot, entryFrame m ([.ref b, .int x1, .int x2] : List Value).toArray 4 = F0 m 0 ls [] ∧ lv_has ls 4 [(0, va_rf (some b)), (1, .int x1), (2, .int x2)] := by
    exact ⟨_, lg_entry_eq .., lv_entry _ (n := 4) (Nat.le_of_ble_eq_true rfl)⟩
  rw [hg]
  exact kX10_setFloor_0 hX hw (jIz.start hH hz0) (lv_sub hl [0, 1, 2] rfl) (by decide) (by decide)
end
