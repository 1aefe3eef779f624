section
variable {p : Program} {l : Launch} {e : Env} {s : State} {m : MethodId} {args : Array Value} {below : List Frame} {meth : Method} {c : Code} {D : jD} {z : Nat × Nat} {A : Nat → Prop}
set_option maxHeartbeats 4000000 in
set_option maxRecDepth 100000 in
theorem kX0_surplusOf_0 {b : Nat} (hX : jX2 D z A p l s m args meth c yX0_surplusOf cX0_surplusOf 3 wsX0_surplusOf (some .long)) {Q : Int64 → jM → Prop}  {x1 : Int64} {μ : jM} {H : Heap} {locs : List Loc} {ls : Array Slot} {cells slots : Nat} (hw : wX0_surplusOf_0 z b Q x1 μ) (hI : jIz D z A s.heap μ H locs) (hl : lv_has ls 3 [(0, va_rf (some b)), (1, .long x1)]) (hcn : cells + 0 ≤ 0) (hsn : slots + 0 ≤ 0) : W p l e rmX0_surplusOf s m args below meth c H locs cells slots (MQ below (jRz jfJ Q D z A) args s 0 0 A) (F0 m 0 ls []) := by
  unfold wX0_surplusOf_0 at hw
  obtain ⟨hx, hb, hml, hown, hts, hr, hlocks, hnm, hK, hG, hfl⟩ := id hX
  have hown : s.vm.findClass RX0 = some m.cls := hown
  have hfX0 : ∀ w ∈ wsX00, w.before args s = true := fun w h => hts w (List.mem_cons_of_mem _ (List.mem_append_right _ h))
  refine j_aload_n (r := (some b)) hx hb dX0_surplusOf_0 rfl (lv_at hl 0 rfl) ?_
  obtain ⟨v1, hv1, hw⟩ := hw
  refine j_getz (C := RX0) (T := TX0) (N := 12) (ci := 3) (r := (some b)) (v := .int v1) hx hb hfX0 hown hK hI rfl 5 (by decide) (hts (.fieldLink RX0 32 "CashPools$Account" "rule" "I") (List.mem_of_getElem? (i := 1) (by decide +kernel))) (fun _ h => h) hv1 dX0_surplusOf_1 ?_
  by_cases hc0 : v1 = (1 : Int32)
  · have hw := hw.1 hc0
    refine lv_tableIn (off := 28) (tgt := 32) hx hb dX0_surplusOf_4 (by rw [hc0]; decide) (by rw [hc0]; decide) (by rw [hc0]; rfl) (by decide) ?_
    refine lv_lload_n hx hb dX0_surplusOf_32 rfl (lv_at hl 1 rfl) ?_
    refine j_aload_n (r := (some b)) hx hb dX0_surplusOf_33 rfl (lv_at hl 0 rfl) ?_
    obtain ⟨v2, hv2, hw⟩ := hw
    refine j_getz (C := RX0) (T := TX0) (N := 12) (ci := 3) (r := (some b)) (v := .int v2) hx hb hfX0 hown hK hI rfl 6 (by decide) (hts (.fieldLink RX0 35 "CashPools$Account" "target" "I") (List.mem_of_getElem? (i := 2) (by decide +kernel))) (fun _ h => h) hv2 dX0_surplusOf_34 ?_
    refine lv_i2l hx hb dX0_surplusOf_37 rfl ?_
    refine lv_lsub hx hb dX0_surplusOf_38 ?_
    exact j_lretz hx hb hr hlocks hI hw (by omega) (by omega) dX0_surplusOf_39
  have hw := hw.2 hc0
  by_cases hc1 : v1 = (2 : Int32)
  · have hw := hw.1 hc1
    refine lv_tableIn (off := 36) (tgt := 40) hx hb dX0_surplusOf_4 (by rw [hc1]; decide) (by rw [hc1]; decide) (by rw [hc1]; rfl) (by decide) ?_
    refine lv_lload_n hx hb dX0_surplusOf_40 rfl (lv_at hl 1 rfl) ?_
    refine j_aload_n (r := (some b)) hx hb dX0_surplusOf_41 rfl (lv_at hl 0 rfl) ?_
    obtain ⟨v3, hv3, hw⟩ := hw
    refine j_getz (C := RX0) (T := TX0) (N := 12) (ci := 3) (r := (some b)) (v := .int v3) hx hb hfX0 hown hK hI rfl 6 (by decide) (hts (.fieldLink RX0 35 "CashPools$Account" "target" "I") (List.mem_of_getElem? (i := 2) (by decide +kernel))) (fun _ h => h) hv3 dX0_surplusOf_42 ?_
    refine lv_i2l hx hb dX0_surplusOf_45 rfl ?_
    refine lv_lsub hx hb dX0_surplusOf_46 ?_
    refine lv_lconst (v := (0)) hx hb dX0_surplusOf_47 (by decide) ?_
    refine va_mmax_long hx hb (by rw [hml]; exact hl.1.symm) hown (hts (.methodLink RX0 38 Lib.MathLoose.max_long.x) (List.mem_of_getElem? (i := 3) (by decide +kernel))) (hts (.static Lib.MathLoose.max_long.x) (List.mem_of_getElem? (i := 4) (by decide +kernel))) (hts (.initialized "java/lang/Math") (List.mem_of_getElem? (i := 5) (by decide +kernel))) (hts (.code Lib.MathLoose.max_long.x Lib.MathLoose.max_long.code 4 (some .long)) (List.mem_of_getElem? (i := 6) (by decide +kernel))) (Nat.le_of_ble_eq_true rfl) (Nat.le_of_ble_eq_true rfl) (by show _ ≤ 0; omega) (by show _ ≤ 0; omega) dX0_surplusOf_48 ?_
    exact j_lretz hx hb hr hlocks hI hw (by omega) (by omega) dX0_surplusOf_51
  have hw := hw.2 hc1
  by_cases hc2 : v1 = (3 : Int32)
  · have hw := hw.1 hc2
    refine lv_tableIn (off := 48) (tgt := 52) hx hb dX0_surplusOf_4 (by rw [hc2]; decide) (by rw [hc2]; decide) (by rw [hc2]; rfl) (by decide) ?_
    refine lv_lload_n hx hb dX0_surplusOf_52 rfl (lv_at hl 1 rfl) ?_
    refine j_aload_n (r := (some b)) hx hb dX0_surplusOf_53 rfl (lv_at hl 0 rfl) ?_
    obtain ⟨v4, hv4, hw⟩ := hw
    refine j_getz (C := RX0) (T := TX0) (N := 12) (ci := 3) (r := (some b)) (v := .int v4) hx hb hfX0 hown hK hI rfl 6 (by decide) (hts (.fieldLink RX0 35 "CashPools$Account" "target" "I") (List.mem_of_getElem? (i := 2) (by decide +kernel))) (fun _ h => h) hv4 dX0_surplusOf_54 ?_
    refine lv_i2l hx hb dX0_surplusOf_57 rfl ?_
    refine lv_lsub hx hb dX0_surplusOf_58 ?_
    refine lv_lconst (v := (0)) hx hb dX0_surplusOf_59 (by decide) ?_
    refine va_mmin_long hx hb (by rw [hml]; exact hl.1.symm) hown (hts (.methodLink RX0 44 Lib.MathLoose.min_long.x) (List.mem_of_getElem? (i := 7) (by decide +kernel))) (hts (.static Lib.MathLoose.min_long.x) (List.mem_of_getElem? (i := 8) (by decide +kernel))) (hts (.initialized "java/lang/Math") (List.mem_of_getElem? (i := 5) (by decide +kernel))) (hts (.code Lib.MathLoose.min_long.x Lib.MathLoose.min_long.code 4 (some .long)) (List.mem_of_getElem? (i := 9) (by decide +kernel))) (Nat.le_of_ble_eq_true rfl) (Nat.le_of_ble_eq_true rfl) (by show _ ≤ 0; omega) (by show _ ≤ 0; omega) dX0_surplusOf_60 ?_
    exact j_lretz hx hb hr hlocks hI hw (by omega) (by omega) dX0_surplusOf_63
  have hw := hw.2 hc2
  refine lv_tableOut (tgt := 64) hx hb dX0_surplusOf_4 (by have hq0 := lv_neT hc0 (show (1 : Int32).toInt = 1 by decide) ; have hq1 := lv_neT hc1 (show (2 : Int32).toInt = 2 by decide) ; have hq2 := lv_neT hc2 (show (3 : Int32).toInt = 3 by decide) ; omega) (by decide) ?_
  refine lv_lconst (v := (0)) hx hb dX0_surplusOf_64 (by decide) ?_
  exact j_lretz hx hb hr hlocks hI hw (by omega) (by omega) dX0_surplusOf_65
set_option maxHeartbeats 4000000 in
set_option maxRecDepth 100000 in
theorem kX0_surplusOf (l : Launch) (hfl : l.stackTraces = false) (D : jD) (z : Nat × Nat) (b : Nat) (x1 : Int64) (μ : jM) (sz : Nat) (Q : Int64 → jM → Prop) : Met l yX0_surplusOf wsX0_surplusOf rmX0_surplusOf (jPre2z D z μ sz [.ref b, .long x1] (wX0_surplusOf z b x1 μ Q)) (jRz jfJ Q D z (jA z μ sz)) 0 0 (jA z μ sz) := by
  refine Met.ofW (cc := cX0_surplusOf) (maxL := 3) (ret := (some .long)) (by decide) rfl ?_
  intro p e s m args below meth c s₁ B hml hv
  obtain ⟨rfl, hsz, hH, hz0, hK, hG, hw⟩ := hv
  subst hsz
  have hX : jX2 D z (jA z μ s.heap.size) p l s m _ meth c yX0_surplusOf cX0_surplusOf 3 wsX0_surplusOf (some .long) := ⟨B.exec, B.bytes, hml, findClass_of_methodNamed B.named, atoms_spec (ws := wsX0_surplusOf) B.pre, B.returns, B.notSynchronized, (name_of_methodNamed B.named B.method).1, hK, hG, hfl⟩
  obtain ⟨ls, hg, hl⟩ : ∃ ls : Array Slot, entryFrame m ([.ref b, .long x1] : List Value).toArray 3 = F0 m 0 ls [] ∧ lv_has ls 3 [(0, va_rf (some b)), (1, .long x1)] := by
    exact ⟨_, lg_entry_eq .., lv_entry _ (n := 3) (Nat.le_of_ble_eq_true rfl)⟩
  rw [hg]
  exact kX0_surplusOf_0 hX hw (jIz.start hH hz0) (lv_sub hl [0, 1] rfl) (by decide) (by decide)
set_option maxHeartbeats 4000000 in
set_option maxRecDepth 100000 in
theorem kX8_sweepUp_9 (hX : jX2 D z A p l s m args meth c yX8_sweepUp cX8_sweepUp 4 wsX8_sweepUp none) {Q : Unit → jM → Prop} {nR : Nat} {RC : Option Nat → Int32 → jM → (Unit → jM → Prop) → Prop} (hRC : ∀ (y0 : Option Nat) (y1 : Int32) (μ : jM) (sz : Nat) (Q : Unit → jM → Prop), Met l yX8_sweepUp wsX8_sweepUp (rmX8_sweepUp nR) (jPre2z D z μ sz [va_rf y0, .int y1] (RC y0 y1 μ Q)) (jRz jfV Q D z (jA z μ sz)) 0 0 (jA z μ sz)) (n : Nat) : ∀ {x0 : Option Nat} {x1 : Int32} {x2 : Int32} {μ : jM} {H : Heap} {locs : List Loc} {ls : Array Slot} {cells slots : Nat}, wX8_sweepUp_9 z RC Q n x0 x1 x2 μ → jIz D z A s.heap μ H locs → lv_has ls 4 [(0, va_rf x0), (1, .int x1), (2, .int x2)] → cells + 0 ≤ 0 → slots + 0 ≤ 0 → W p l e (rmX8_sweepUp (nR + 1)) s m args below meth c H locs cells slots (MQ below (jRz jfV Q D z A) args s 0 0 A) (F0 m 9 ls []) := by
  induction n with
  | zero =>
    intros
    rename_i hw _ _ _ _
    exact (show False from hw).elim
  | succ n ih =>
    intro x0 x1 x2 μ H locs ls cells slots hw hI hl hcn hsn
    have hw : wX8_sweepUp_9_b z RC Q (wX8_sweepUp_9 z RC Q n) x0 x1 x2 μ := hw
    unfold wX8_sweepUp_9_b at hw
    obtain ⟨hx, hb, hml, hown, hts, hr, hlocks, hnm, hK, hG, hfl⟩ := id hX
    have hown : s.vm.findClass RX8 = some m.cls := hown
    have hfX0 : ∀ w ∈ wsX00, w.before args s = true := fun w h => hts w (List.mem_cons_of_mem _ (List.mem_append_left _ (List.mem_append_right _ h)))
    refine lv_iload_n hx hb dX8_sweepUp_9 rfl (lv_at hl 2 rfl) ?_
    refine j_aload_n (r := x0) hx hb dX8_sweepUp_10 rfl (lv_at hl 0 rfl) ?_
    obtain ⟨v1, hv1, hw⟩ := hw
    refine j_getz (C := RX0) (T := TX0) (N := 12) (ci := 3) (r := x0) (v := va_rf v1) hx hb hfX0 hown hK hI rfl 4 (by decide) (hts (.fieldLink RX8 15 "CashPools$Account" "children" "Ljava/util/ArrayList;") (List.mem_of_getElem? (i := 1) (by decide +kernel))) (fun _ h => h) hv1 dX8_sweepUp_11 ?_
    obtain ⟨b4, ⟨hrb4, hfs⟩, hw⟩ := hw
    refine j_goz hI (va_runV (As := []) (rest := [.int x2]) ⟨hx, hb, hml, hown, hts⟩ (kJx4a65c_size_8abf5 l hfl D z b4  μ H.size _) (cwV 0 hts gX8_sweepUp_Jx4a65c_size_8abf5 rfl rfl rfl (by decide +kernel) ⟨by show 1 ≤ nR + 1 + 3; omega, by show 20 ≤ (nR + 1) * 23 + 132; omega⟩) (j_prV2z hK hG hI hw (ci := 2) rfl hfs) rfl rfl hl.1 (by rw [hrb4]; rfl) (lv_room (Nat.le_of_ble_eq_true rfl)) dX8_sweepUp_14 ⟨by show _ ≤ 0; omega, by show _ ≤ 0; omega⟩) (fun v2 μ3 H locs hw hI => ?_)
    refine W.eq (g2 := F0 m 17 ls [.int v2, .int x2]) rfl ?_
    refine lv_icmp_ge (tgt := 43) hx hb dX8_sweepUp_17 (by decide) (fun hc => ?_) (fun hc => ?_)
    · have hw := hw.1 hc
      refine j_aload_n (r := x0) hx hb dX8_sweepUp_43 rfl (lv_at hl 0 rfl) ?_
      refine j_aload_n (r := x0) hx hb dX8_sweepUp_44 rfl (lv_at hl 0 rfl) ?_
      obtain ⟨v5, hv5, hw⟩ := hw
      refine j_getz (C := RX0) (T := TX0) (N := 12) (ci := 3) (r := x0) (v := .long v5) hx hb hfX0 hown hK hI rfl 8 (by decide) (hts (.fieldLink RX8 9 "CashPools$Account" "cash" "J") (List.mem_of_getElem? (i := 3) (by decide +kernel))) (fun _ h => h) hv5 dX8_sweepUp_45 ?_
      obtain ⟨b8, ⟨hrb8, hfs⟩, hw⟩ := hw
      refine j_goz hI (va_runV (As := [.long v5]) (rest := []) ⟨hx, hb, hml, hown, hts⟩ (kX0_surplusOf l hfl D z b8 v5 μ3 H.size _) (cwV 1 hts gX8_sweepUp_X0_surplusOf rfl rfl rfl (by decide +kernel) ⟨by show 2 ≤ nR + 1 + 3; omega, by show 132 ≤ (nR + 1) * 23 + 132; omega⟩) (j_prV2z hK hG hI hw (ci := 3) rfl hfs) rfl rfl hl.1 (by rw [hrb8]; rfl) (lv_room (Nat.le_of_ble_eq_true rfl)) dX8_sweepUp_48 ⟨by show _ ≤ 0; omega, by show _ ≤ 0; omega⟩) (fun v6 μ7 H locs hw hI => ?_)
      refine W.eq (g2 := F0 m 51 ls [.long v6]) rfl ?_
      refine lv_lconst (v := (0)) hx hb dX8_sweepUp_51 (by decide) ?_
      refine va_mmax_long hx hb (by rw [hml]; exact hl.1.symm) hown (hts (.methodLink RX8 46 Lib.MathLoose.max_long.x) (List.mem_of_getElem? (i := 4) (by decide +kernel))) (hts (.static Lib.MathLoose.max_long.x) (List.mem_of_getElem? (i := 5) (by decide +kernel))) (hts (.initialized "java/lang/Math") (List.mem_of_getElem? (i := 6) (by decide +kernel))) (hts (.code Lib.MathLoose.max_long.x Lib.MathLoose.max_long.code 4 (some .long)) (List.mem_of_getElem? (i := 7) (by decide +kernel))) (by show 1 ≤ nR + 1 + 3; omega) (by simp only [List.map, List.sum_cons, List.sum_nil, jrc, jci, jcl, jcr, jcn]; show _ ≤ (nR + 1) * 23 + 132; omega) (by show _ ≤ 0; omega) (by show _ ≤ 0; omega) dX8_sweepUp_52 ?_
      refine lv_topl (fun v9 ev9 => ?_)
      have hw := hw v9 ev9
      refine lv_lstore_n (lv' := [(2, .long v9), (0, va_rf x0), (1, .int x1)]) hx hb dX8_sweepUp_55 rfl hl (by decide) rfl (fun ls hl => ?_)
      refine j_aload_n (r := x0) hx hb dX8_sweepUp_56 rfl (lv_at hl 1 rfl) ?_
      obtain ⟨v10, hv10, hw⟩ := hw
      refine j_getz (C := RX0) (T := TX0) (N := 12) (ci := 3) (r := x0) (v := va_rf v10) hx hb hfX0 hown hK hI rfl 1 (by decide) (hts (.fieldLink RX8 52 "CashPools$Account" "parent" "LCashPools$Account;") (List.mem_of_getElem? (i := 8) (by decide +kernel))) (fun _ h => h) hv10 dX8_sweepUp_57 ?_
      refine j_ifnull (r := v10) (tgt := 86) hx hb dX8_sweepUp_60 (by decide) (fun hc => ?_) (fun hc => ?_)
      · have hw := hw.1 hc
        exact j_vretz hx hb hr hlocks hI hw (by omega) (by omega) dX8_sweepUp_86
      · have hw := hw.2 hc
        refine j_aload_n (r := x0) hx hb dX8_sweepUp_63 rfl (lv_at hl 1 rfl) ?_
        refine lv_dup hx hb dX8_sweepUp_64 (jrc x0) ?_
        obtain ⟨v11, hv11, hw⟩ := hw
        refine j_getz (C := RX0) (T := TX0) (N := 12) (ci := 3) (r := x0) (v := .long v11) hx hb hfX0 hown hK hI rfl 8 (by decide) (hts (.fieldLink RX8 9 "CashPools$Account" "cash" "J") (List.mem_of_getElem? (i := 3) (by decide +kernel))) (fun _ h => h) hv11 dX8_sweepUp_65 ?_
        refine lv_lload_n hx hb dX8_sweepUp_68 rfl (lv_at hl 0 rfl) ?_
        refine lv_lsub hx hb dX8_sweepUp_69 ?_
        obtain ⟨μ12, hμ12, hw⟩ := hw
        refine j_putz (C := RX0) (T := TX0) (N := 12) (ci := 3) (r := x0) (v := .long (v11 - v9)) hx hb hfX0 tyX0 tyX0_ok nmX0 hown hK hI rfl 8 (by decide) (hts (.fieldLink RX8 9 "CashPools$Account" "cash" "J") (List.mem_of_getElem? (i := 3) (by decide +kernel))) (fun _ h => h) rfl (tyX0_ok 8 (by decide)) rfl rfl hμ12 dX8_sweepUp_70 (fun H locs hI => ?_)
        refine j_aload_n (r := x0) hx hb dX8_sweepUp_73 rfl (lv_at hl 1 rfl) ?_
        obtain ⟨v13, hv13, hw⟩ := hw
        refine j_getz (C := RX0) (T := TX0) (N := 12) (ci := 3) (r := x0) (v := va_rf v13) hx hb hfX0 hown hK hI rfl 1 (by decide) (hts (.fieldLink RX8 52 "CashPools$Account" "parent" "LCashPools$Account;") (List.mem_of_getElem? (i := 8) (by decide +kernel))) (fun _ h => h) hv13 dX8_sweepUp_74 ?_
        refine lv_dup hx hb dX8_sweepUp_77 (jrc v13) ?_
        obtain ⟨v14, hv14, hw⟩ := hw
        refine j_getz (C := RX0) (T := TX0) (N := 12) (ci := 3) (r := v13) (v := .long v14) hx hb hfX0 hown hK hI rfl 8 (by decide) (hts (.fieldLink RX8 9 "CashPools$Account" "cash" "J") (List.mem_of_getElem? (i := 3) (by decide +kernel))) (fun _ h => h) hv14 dX8_sweepUp_78 ?_
        refine lv_lload_n hx hb dX8_sweepUp_81 rfl (lv_at hl 0 rfl) ?_
        refine lv_ladd hx hb dX8_sweepUp_82 ?_
        obtain ⟨μ15, hμ15, hw⟩ := hw
        refine j_putz (C := RX0) (T := TX0) (N := 12) (ci := 3) (r := v13) (v := .long (v14 + v9)) hx hb hfX0 tyX0 tyX0_ok nmX0 hown hK hI rfl 8 (by decide) (hts (.fieldLink RX8 9 "CashPools$Account" "cash" "J") (List.mem_of_getElem? (i := 3) (by decide +kernel))) (fun _ h => h) rfl (tyX0_ok 8 (by decide)) rfl rfl hμ15 dX8_sweepUp_83 (fun H locs hI => ?_)
        exact j_vretz hx hb hr hlocks hI hw (by omega) (by omega) dX8_sweepUp_86
    · have hw := hw.2 hc
      refine j_aload_n (r := x0) hx hb dX8_sweepUp_20 rfl (lv_at hl 0 rfl) ?_
      obtain ⟨v16, hv16, hw⟩ := hw
      refine j_getz (C := RX0) (T := TX0) (N := 12) (ci := 3) (r := x0) (v := va_rf v16) hx hb hfX0 hown hK hI rfl 4 (by decide) (hts (.fieldLink RX8 15 "CashPools$Account" "children" "Ljava/util/ArrayList;") (List.mem_of_getElem? (i := 1) (by decide +kernel))) (fun _ h => h) hv16 dX8_sweepUp_21 ?_
      refine lv_iload_n hx hb dX8_sweepUp_24 rfl (lv_at hl 2 rfl) ?_
      obtain ⟨b19, ⟨hrb19, hfs⟩, hw⟩ := hw
      refine j_goz hI (va_runV (As := [.int x2]) (rest := []) ⟨hx, hb, hml, hown, hts⟩ (kJx4a65c_get_915e3 l hfl D z b19 x2 μ3 H.size _) (cwV 1 hts gX8_sweepUp_Jx4a65c_get_915e3 rfl rfl rfl (by decide +kernel) ⟨by show 3 ≤ nR + 1 + 3; omega, by show 64 ≤ (nR + 1) * 23 + 132; omega⟩) (j_prV2z hK hG hI hw (ci := 2) rfl hfs) rfl rfl hl.1 (by rw [hrb19]; rfl) (lv_room (Nat.le_of_ble_eq_true rfl)) dX8_sweepUp_25 ⟨by show _ ≤ 0; omega, by show _ ≤ 0; omega⟩) (fun v17 μ18 H locs hw hI => ?_)
      refine W.eq (g2 := F0 m 28 ls [va_rf v17]) rfl ?_
      obtain ⟨h20, hw⟩ := hw
      refine j_castz (C := RX0) (T := TX0) (N := 12) (ci := 3) (r := v17) hx hb hown (hts (.classLink RX8 10 "CashPools$Account") (List.mem_of_getElem? (i := 2) (by decide +kernel))) hK hI rfl h20 dX8_sweepUp_28 ?_
      refine lv_iload_n hx hb dX8_sweepUp_31 rfl (lv_at hl 1 rfl) ?_
      refine lv_iconst (v := (1)) hx hb dX8_sweepUp_32 (by decide) ?_
      refine lv_iadd hx hb dX8_sweepUp_33 ?_
      refine j_goz hI (va_runS (As := [va_rf v17, .int (x1 + (1 : Int32))]) (rest := []) ⟨hx, hb, hml, hown, hts⟩ (hRC v17 (x1 + (1 : Int32)) μ18 H.size _) (va_cwS 2 hts gX8_sweepUp_X8_sweepUp rfl rfl rfl (by decide +kernel) ⟨by show nR + 3 + 1 ≤ nR + 1 + 3; omega, by show 8 + (4 + 11) + (nR * 23 + 132) ≤ (nR + 1) * 23 + 132; omega⟩) (j_prS2z hK hG hI hw) rfl rfl hl.1 rfl (lv_room (Nat.le_of_ble_eq_true rfl)) dX8_sweepUp_34 ⟨by show _ ≤ 0; omega, by show _ ≤ 0; omega⟩) (fun u21 μ22 H locs hw hI => ?_)
      refine W.eq (g2 := F0 m 37 ls []) rfl ?_
      obtain ⟨v23, ev23⟩ : ∃ y : Int32, y = x2 + (1 : Int32) := ⟨_, rfl⟩
      have hw := hw v23 ev23
      refine lv_iinc (v := v23) (lv' := [(2, .int v23), (0, va_rf x0), (1, .int x1)]) hx hb dX8_sweepUp_37 hl (k := 2) rfl (by rw [ev23]; rfl) (by decide) rfl (fun ls hl => ?_)
      refine lv_goto (tgt := 9) hx hb dX8_sweepUp_40 (by decide) ?_
      exact ih hw hI (lv_sub hl [1, 2, 0] rfl) (by omega) (by omega)
set_option maxHeartbeats 4000000 in
set_option maxRecDepth 100000 in
theorem kX8_sweepUp_0 (hX : jX2 D z A p l s m args meth c yX8_sweepUp cX8_sweepUp 4 wsX8_sweepUp none) {Q : Unit → jM → Prop} {nR : Nat} {RC : Option Nat → Int32 → jM → (Unit → jM → Prop) → Prop} (hRC : ∀ (y0 : Option Nat) (y1 : Int32) (μ : jM) (sz : Nat) (Q : Unit → jM → Prop), Met l yX8_sweepUp wsX8_sweepUp (rmX8_sweepUp nR) (jPre2z D z μ sz [va_rf y0, .int y1] (RC y0 y1 μ Q)) (jRz jfV Q D z (jA z μ sz)) 0 0 (jA z μ sz)) {x0 : Option Nat} {x1 : Int32} {μ : jM} {H : Heap} {locs : List Loc} {ls : Array Slot} {cells slots : Nat} (hw : wX8_sweepUp_0 z RC Q x0 x1 μ) (hI : jIz D z A s.heap μ H locs) (hl : lv_has ls 4 [(0, va_rf x0), (1, .int x1)]) (hcn : cells + 0 ≤ 0) (hsn : slots + 0 ≤ 0) : W p l e (rmX8_sweepUp (nR + 1)) s m args below meth c H locs cells slots (MQ below (jRz jfV Q D z A) args s 0 0 A) (F0 m 0 ls []) := by
  unfold wX8_sweepUp_0 at hw
  obtain ⟨hx, hb, hml, hown, hts, hr, hlocks, hnm, hK, hG, hfl⟩ := id hX
  have hown : s.vm.findClass RX8 = some m.cls := hown
  refine lv_iload_n hx hb dX8_sweepUp_0 rfl (lv_at hl 1 rfl) ?_
  refine lv_bipush (v := (10)) hx hb dX8_sweepUp_1 (by decide) ?_
  refine lv_icmp_le (tgt := 7) hx hb dX8_sweepUp_3 (by decide) (fun hc => ?_) (fun hc => ?_)
  · have hw := hw.1 hc
    refine lv_iconst (v := (0)) hx hb dX8_sweepUp_7 (by decide) ?_
    refine lv_topi (fun v1 ev1 => ?_)
    have hw := hw v1 ev1
    refine lv_istore_n (lv' := [(2, .int v1), (0, va_rf x0), (1, .int x1)]) hx hb dX8_sweepUp_8 rfl hl (by decide) rfl (fun ls hl => ?_)
    obtain ⟨n2, hw⟩ := hw
    exact kX8_sweepUp_9 hX hRC n2 hw hI (lv_sub hl [1, 2, 0] rfl) (by omega) (by omega)
  · have hw := hw.2 hc
    exact j_vretz hx hb hr hlocks hI hw (by omega) (by omega) dX8_sweepUp_6
set_option maxHeartbeats 4000000 in
set_option maxRecDepth 100000 in
theorem kX8_sweepUp_r (l : Launch) (hfl : l.stackTraces = false) (D : jD) (z : Nat × Nat) (n : Nat) : ∀ (x0 : Option Nat) (x1 : Int32) (μ : jM) (sz : Nat) (Q : Unit → jM → Prop), Met l yX8_sweepUp wsX8_sweepUp (rmX8_sweepUp n) (jPre2z D z μ sz [va_rf x0, .int x1] (wX8_sweepUp z n x0 x1 μ Q)) (jRz jfV Q D z (jA z μ sz)) 0 0 (jA z μ sz) := by
  induction n with
  | zero =>
    intro x0 x1 μ sz Q
    refine Met.ofW (cc := cX8_sweepUp) (maxL := 4) (ret := none) (by decide) rfl ?_
    intro p e s m args below meth c s₁ B hml hv
    obtain ⟨_, _, _, _, _, _, hw⟩ := hv
    exact (show False from hw).elim
  | succ n ih =>
    intro x0 x1 μ sz Q
    refine Met.ofW (cc := cX8_sweepUp) (maxL := 4) (ret := none) (by decide) rfl ?_
    intro p e s m args below meth c s₁ B hml hv
    obtain ⟨rfl, hsz, hH, hz0, hK, hG, hw⟩ := hv
    subst hsz
    have hX : jX2 D z (jA z μ s.heap.size) p l s m _ meth c yX8_sweepUp cX8_sweepUp 4 wsX8_sweepUp none := ⟨B.exec, B.bytes, hml, findClass_of_methodNamed B.named, atoms_spec (ws := wsX8_sweepUp) B.pre, B.returns, B.notSynchronized, (name_of_methodNamed B.named B.method).1, hK, hG, hfl⟩
    obtain ⟨ls, hg, hl⟩ : ∃ ls : Array Slot, entryFrame m ([va_rf x0, .int x1] : List Value).toArray 4 = F0 m 0 ls [] ∧ lv_has ls 4 [(0, va_rf x0), (1, .int x1)] := by
      cases x0 <;> exact ⟨_, lg_entry_eq .., lv_entry _ (n := 4) (Nat.le_of_ble_eq_true rfl)⟩
    rw [hg]
    exact kX8_sweepUp_0 hX ih hw (jIz.start hH hz0) (lv_sub hl [0, 1] rfl) (by decide) (by decide)
theorem kX8_sweepUp (l : Launch) (hfl : l.stackTraces = false) (D : jD) (z : Nat × Nat) (x0 : Option Nat) (x1 : Int32) (μ : jM) (sz : Nat) (Q : Unit → jM → Prop) : Met l yX8_sweepUp wsX8_sweepUp (rmX8_sweepUp 12) (jPre2z D z μ sz [va_rf x0, .int x1] (wX8_sweepUp z 12 x0 x1 μ Q)) (jRz jfV Q D z (jA z μ sz)) 0 0 (jA z μ sz) := kX8_sweepUp_r l hfl D z 12 x0 x1 μ sz Q
set_option maxHeartbeats 4000000 in
set_option maxRecDepth 100000 in
theorem kX8_partOf_0 (hX : jX2 D z A p l s m args meth c yX8_partOf cX8_partOf 9 wsX8_partOf (some .long)) {Q : Int64 → jM → Prop}  {x0 : Option Nat} {x1 : Int64} {x3 : Int64} {μ : jM} {H : Heap} {locs : List Loc} {ls : Array Slot} {cells slots : Nat} (hw : wX8_partOf_0 z Q x0 x1 x3 μ) (hI : jIz D z A s.heap μ H locs) (hl : lv_has ls 9 [(0, va_rf x0), (1, .long x1), (3, .long x3)]) (hcn : cells + 0 ≤ 0) (hsn : slots + 0 ≤ 0) : W p l e rmX8_partOf s m args below meth c H locs cells slots (MQ below (jRz jfJ Q D z A) args s 0 0 A) (F0 m 0 ls []) := by
  unfold wX8_partOf_0 at hw
  obtain ⟨hx, hb, hml, hown, hts, hr, hlocks, hnm, hK, hG, hfl⟩ := id hX
  have hown : s.vm.findClass RX8 = some m.cls := hown
  have hfX0 : ∀ w ∈ wsX00, w.before args s = true := fun w h => hts w (List.mem_cons_of_mem _ (List.mem_append_right _ h))
  refine j_aload_n (r := x0) hx hb dX8_partOf_0 rfl (lv_at hl 0 rfl) ?_
  obtain ⟨v1, hv1, hw⟩ := hw
  refine j_getz (C := RX0) (T := TX0) (N := 12) (ci := 3) (r := x0) (v := va_rf v1) hx hb hfX0 hown hK hI rfl 1 (by decide) (hts (.fieldLink RX8 52 "CashPools$Account" "parent" "LCashPools$Account;") (List.mem_of_getElem? (i := 1) (by decide +kernel))) (fun _ h => h) hv1 dX8_partOf_1 ?_
  refine j_ifnonnull (r := v1) (tgt := 9) hx hb dX8_partOf_4 (by decide) (fun hc => ?_) (fun hc => ?_)
  · have hw := hw.1 hc
    refine j_aload_n (r := x0) hx hb dX8_partOf_9 rfl (lv_at hl 0 rfl) ?_
    refine lv_lload_n hx hb dX8_partOf_10 rfl (lv_at hl 1 rfl) ?_
    obtain ⟨b4, ⟨hrb4, hfs⟩, hw⟩ := hw
    refine j_goz hI (va_runV (As := [.long x1]) (rest := []) ⟨hx, hb, hml, hown, hts⟩ (kX0_surplusOf l hfl D z b4 x1 μ H.size _) (cwV 1 hts gX8_partOf_X0_surplusOf rfl rfl rfl (by decide +kernel) ⟨Nat.le_of_ble_eq_true rfl, Nat.le_of_ble_eq_true rfl⟩) (j_prV2z hK hG hI hw (ci := 3) rfl hfs) rfl rfl hl.1 (by rw [hrb4]; rfl) (lv_room (Nat.le_of_ble_eq_true rfl)) dX8_partOf_11 ⟨by show _ ≤ 0; omega, by show _ ≤ 0; omega⟩) (fun v2 μ3 H locs hw hI => ?_)
    refine W.eq (g2 := F0 m 14 ls [.long v2]) rfl ?_
    refine lv_lneg hx hb dX8_partOf_14 ?_
    refine lv_lconst (v := (0)) hx hb dX8_partOf_15 (by decide) ?_
    refine va_mmax_long hx hb (by rw [hml]; exact hl.1.symm) hown (hts (.methodLink RX8 46 Lib.MathLoose.max_long.x) (List.mem_of_getElem? (i := 2) (by decide +kernel))) (hts (.static Lib.MathLoose.max_long.x) (List.mem_of_getElem? (i := 3) (by decide +kernel))) (hts (.initialized "java/lang/Math") (List.mem_of_getElem? (i := 4) (by decide +kernel))) (hts (.code Lib.MathLoose.max_long.x Lib.MathLoose.max_long.code 4 (some .long)) (List.mem_of_getElem? (i := 5) (by decide +kernel))) (Nat.le_of_ble_eq_true rfl) (Nat.le_of_ble_eq_true rfl) (by show _ ≤ 0; omega) (by show _ ≤ 0; omega) dX8_partOf_16 ?_
    refine lv_topl (fun v5 ev5 => ?_)
    have hw := hw v5 ev5
    refine lv_lstore (lv' := [(5, .long v5), (0, va_rf x0), (1, .long x1), (3, .long x3)]) hx hb dX8_partOf_19 hl (by decide) rfl (fun ls hl => ?_)
    refine lv_lload_n hx hb dX8_partOf_21 rfl (lv_at hl 3 rfl) ?_
    refine j_aload_n (r := x0) hx hb dX8_partOf_22 rfl (lv_at hl 1 rfl) ?_
    obtain ⟨v6, hv6, hw⟩ := hw
    refine j_getz (C := RX0) (T := TX0) (N := 12) (ci := 3) (r := x0) (v := va_rf v6) hx hb hfX0 hown hK hI rfl 1 (by decide) (hts (.fieldLink RX8 52 "CashPools$Account" "parent" "LCashPools$Account;") (List.mem_of_getElem? (i := 1) (by decide +kernel))) (fun _ h => h) hv6 dX8_partOf_23 ?_
    obtain ⟨v7, hv7, hw⟩ := hw
    refine j_getz (C := RX0) (T := TX0) (N := 12) (ci := 3) (r := v6) (v := .int v7) hx hb hfX0 hown hK hI rfl 7 (by decide) (hts (.fieldLink RX8 60 "CashPools$Account" "floor" "I") (List.mem_of_getElem? (i := 6) (by decide +kernel))) (fun _ h => h) hv7 dX8_partOf_26 ?_
    refine lv_i2l hx hb dX8_partOf_29 rfl ?_
    refine lv_lsub hx hb dX8_partOf_30 ?_
    refine lv_lconst (v := (0)) hx hb dX8_partOf_31 (by decide) ?_
    refine va_mmax_long hx hb (by rw [hml]; exact hl.1.symm) hown (hts (.methodLink RX8 46 Lib.MathLoose.max_long.x) (List.mem_of_getElem? (i := 2) (by decide +kernel))) (hts (.static Lib.MathLoose.max_long.x) (List.mem_of_getElem? (i := 3) (by decide +kernel))) (hts (.initialized "java/lang/Math") (List.mem_of_getElem? (i := 4) (by decide +kernel))) (hts (.code Lib.MathLoose.max_long.x Lib.MathLoose.max_long.code 4 (some .long)) (List.mem_of_getElem? (i := 5) (by decide +kernel))) (Nat.le_of_ble_eq_true rfl) (Nat.le_of_ble_eq_true rfl) (by show _ ≤ 0; omega) (by show _ ≤ 0; omega) dX8_partOf_32 ?_
    refine lv_topl (fun v8 ev8 => ?_)
    have hw := hw v8 ev8
    refine lv_lstore (lv' := [(7, .long v8), (5, .long v5), (0, va_rf x0), (1, .long x1), (3, .long x3)]) hx hb dX8_partOf_35 hl (by decide) rfl (fun ls hl => ?_)
    refine lv_lload hx hb dX8_partOf_37 (lv_at hl 1 rfl) ?_
    refine lv_lload hx hb dX8_partOf_39 (lv_at hl 0 rfl) ?_
    refine va_mmin_long hx hb (by rw [hml]; exact hl.1.symm) hown (hts (.methodLink RX8 64 Lib.MathLoose.min_long.x) (List.mem_of_getElem? (i := 7) (by decide +kernel))) (hts (.static Lib.MathLoose.min_long.x) (List.mem_of_getElem? (i := 8) (by decide +kernel))) (hts (.initialized "java/lang/Math") (List.mem_of_getElem? (i := 4) (by decide +kernel))) (hts (.code Lib.MathLoose.min_long.x Lib.MathLoose.min_long.code 4 (some .long)) (List.mem_of_getElem? (i := 9) (by decide +kernel))) (Nat.le_of_ble_eq_true rfl) (Nat.le_of_ble_eq_true rfl) (by show _ ≤ 0; omega) (by show _ ≤ 0; omega) dX8_partOf_41 ?_
    exact j_lretz hx hb hr hlocks hI hw (by omega) (by omega) dX8_partOf_44
  · have hw := hw.2 hc
    refine lv_lconst (v := (0)) hx hb dX8_partOf_7 (by decide) ?_
    exact j_lretz hx hb hr hlocks hI hw (by omega) (by omega) dX8_partOf_8
set_option maxHeartbeats 4000000 in
set_option maxRecDepth 100000 in
theorem kX8_partOf (l : Launch) (hfl : l.stackTraces = false) (D : jD) (z : Nat × Nat) (x0 : Option Nat) (x1 : Int64) (x3 : Int64) (μ : jM) (sz : Nat) (Q : Int64 → jM → Prop) : Met l yX8_partOf wsX8_partOf rmX8_partOf (jPre2z D z μ sz [va_rf x0, .long x1, .long x3] (wX8_partOf z x0 x1 x3 μ Q)) (jRz jfJ Q D z (jA z μ sz)) 0 0 (jA z μ sz) := by
  refine Met.ofW (cc := cX8_partOf) (maxL := 9) (ret := (some .long)) (by decide) rfl ?_
  intro p e s m args below meth c s₁ B hml hv
  obtain ⟨rfl, hsz, hH, hz0, hK, hG, hw⟩ := hv
  subst hsz
  have hX : jX2 D z (jA z μ s.heap.size) p l s m _ meth c yX8_partOf cX8_partOf 9 wsX8_partOf (some .long) := ⟨B.exec, B.bytes, hml, findClass_of_methodNamed B.named, atoms_spec (ws := wsX8_partOf) B.pre, B.returns, B.notSynchronized, (name_of_methodNamed B.named B.method).1, hK, hG, hfl⟩
  obtain ⟨ls, hg, hl⟩ : ∃ ls : Array Slot, entryFrame m ([va_rf x0, .long x1, .long x3] : List Value).toArray 9 = F0 m 0 ls [] ∧ lv_has ls 9 [(0, va_rf x0), (1, .long x1), (3, .long x3)] := by
    cases x0 <;> exact ⟨_, lg_entry_eq .., lv_entry _ (n := 9) (Nat.le_of_ble_eq_true rfl)⟩
  rw [hg]
  exact kX8_partOf_0 hX hw (jIz.start hH hz0) (lv_sub hl [0, 1, 2] rfl) (by decide) (by decide)
set_option maxHeartbeats 4000000 in
set_option maxRecDepth 100000 in
theorem kX8_sweepDown_55 (hX : jX2 D z A p l s m args meth c yX8_sweepDown cX8_sweepDown 4 wsX8_sweepDown none) {Q : Unit → jM → Prop} {nR : Nat} {RC : Option Nat → Int32 → jM → (Unit → jM → Prop) → Prop} (hRC : ∀ (y0 : Option Nat) (y1 : Int32) (μ : jM) (sz : Nat) (Q : Unit → jM → Prop), Met l yX8_sweepDown wsX8_sweepDown (rmX8_sweepDown nR) (jPre2z D z μ sz [va_rf y0, .int y1] (RC y0 y1 μ Q)) (jRz jfV Q D z (jA z μ sz)) 0 0 (jA z μ sz)) (n : Nat) : ∀ {x0 : Option Nat} {x1 : Int32} {x2 : Int32} {μ : jM} {H : Heap} {locs : List Loc} {ls : Array Slot} {cells slots : Nat}, wX8_sweepDown_55 z RC Q n x0 x1 x2 μ → jIz D z A s.heap μ H locs → lv_has ls 4 [(0, va_rf x0), (1, .int x1), (2, .int x2)] → cells + 0 ≤ 0 → slots + 0 ≤ 0 → W p l e (rmX8_sweepDown (nR + 1)) s m args below meth c H locs cells slots (MQ below (jRz jfV Q D z A) args s 0 0 A) (F0 m 55 ls []) := by
  induction n with
  | zero =>
    intros
    rename_i hw _ _ _ _
    exact (show False from hw).elim
  | succ n ih =>
    intro x0 x1 x2 μ H locs ls cells slots hw hI hl hcn hsn
    have hw : wX8_sweepDown_55_b z RC Q (wX8_sweepDown_55 z RC Q n) x0 x1 x2 μ := hw
    unfold wX8_sweepDown_55_b at hw
    obtain ⟨hx, hb, hml, hown, hts, hr, hlocks, hnm, hK, hG, hfl⟩ := id hX
    have hown : s.vm.findClass RX8 = some m.cls := hown
    have hfX0 : ∀ w ∈ wsX00, w.before args s = true := fun w h => hts w (List.mem_cons_of_mem _ (List.mem_append_left _ (List.mem_append_right _ h)))
    refine lv_iload_n hx hb dX8_sweepDown_55 rfl (lv_at hl 2 rfl) ?_
    refine j_aload_n (r := x0) hx hb dX8_sweepDown_56 rfl (lv_at hl 0 rfl) ?_
    obtain ⟨v1, hv1, hw⟩ := hw
    refine j_getz (C := RX0) (T := TX0) (N := 12) (ci := 3) (r := x0) (v := va_rf v1) hx hb hfX0 hown hK hI rfl 4 (by decide) (hts (.fieldLink RX8 15 "CashPools$Account" "children" "Ljava/util/ArrayList;") (List.mem_of_getElem? (i := 3) (by decide +kernel))) (fun _ h => h) hv1 dX8_sweepDown_57 ?_
    obtain ⟨b4, ⟨hrb4, hfs⟩, hw⟩ := hw
    refine j_goz hI (va_runV (As := []) (rest := [.int x2]) ⟨hx, hb, hml, hown, hts⟩ (kJx4a65c_size_8abf5 l hfl D z b4  μ H.size _) (cwV 0 hts gX8_sweepDown_Jx4a65c_size_8abf5 rfl rfl rfl (by decide +kernel) ⟨by show 1 ≤ nR + 1 + 3; omega, by show 20 ≤ (nR + 1) * 23 + 160; omega⟩) (j_prV2z hK hG hI hw (ci := 2) rfl hfs) rfl rfl hl.1 (by rw [hrb4]; rfl) (lv_room (Nat.le_of_ble_eq_true rfl)) dX8_sweepDown_60 ⟨by show _ ≤ 0; omega, by show _ ≤ 0; omega⟩) (fun v2 μ3 H locs hw hI => ?_)
    refine W.eq (g2 := F0 m 63 ls [.int v2, .int x2]) rfl ?_
    refine lv_icmp_ge (tgt := 89) hx hb dX8_sweepDown_63 (by decide) (fun hc => ?_) (fun hc => ?_)
    · have hw := hw.1 hc
      exact j_vretz hx hb hr hlocks hI hw (by omega) (by omega) dX8_sweepDown_89
    · have hw := hw.2 hc
      refine j_aload_n (r := x0) hx hb dX8_sweepDown_66 rfl (lv_at hl 0 rfl) ?_
      obtain ⟨v5, hv5, hw⟩ := hw
      refine j_getz (C := RX0) (T := TX0) (N := 12) (ci := 3) (r := x0) (v := va_rf v5) hx hb hfX0 hown hK hI rfl 4 (by decide) (hts (.fieldLink RX8 15 "CashPools$Account" "children" "Ljava/util/ArrayList;") (List.mem_of_getElem? (i := 3) (by decide +kernel))) (fun _ h => h) hv5 dX8_sweepDown_67 ?_
      refine lv_iload_n hx hb dX8_sweepDown_70 rfl (lv_at hl 2 rfl) ?_
      obtain ⟨b8, ⟨hrb8, hfs⟩, hw⟩ := hw
      refine j_goz hI (va_runV (As := [.int x2]) (rest := []) ⟨hx, hb, hml, hown, hts⟩ (kJx4a65c_get_915e3 l hfl D z b8 x2 μ3 H.size _) (cwV 1 hts gX8_sweepDown_Jx4a65c_get_915e3 rfl rfl rfl (by decide +kernel) ⟨by show 3 ≤ nR + 1 + 3; omega, by show 64 ≤ (nR + 1) * 23 + 160; omega⟩) (j_prV2z hK hG hI hw (ci := 2) rfl hfs) rfl rfl hl.1 (by rw [hrb8]; rfl) (lv_room (Nat.le_of_ble_eq_true rfl)) dX8_sweepDown_71 ⟨by show _ ≤ 0; omega, by show _ ≤ 0; omega⟩) (fun v6 μ7 H locs hw hI => ?_)
      refine W.eq (g2 := F0 m 74 ls [va_rf v6]) rfl ?_
      obtain ⟨h9, hw⟩ := hw
      refine j_castz (C := RX0) (T := TX0) (N := 12) (ci := 3) (r := v6) hx hb hown (hts (.classLink RX8 10 "CashPools$Account") (List.mem_of_getElem? (i := 4) (by decide +kernel))) hK hI rfl h9 dX8_sweepDown_74 ?_
      refine lv_iload_n hx hb dX8_sweepDown_77 rfl (lv_at hl 1 rfl) ?_
      refine lv_iconst (v := (1)) hx hb dX8_sweepDown_78 (by decide) ?_
      refine lv_iadd hx hb dX8_sweepDown_79 ?_
      refine j_goz hI (va_runS (As := [va_rf v6, .int (x1 + (1 : Int32))]) (rest := []) ⟨hx, hb, hml, hown, hts⟩ (hRC v6 (x1 + (1 : Int32)) μ7 H.size _) (va_cwS 2 hts gX8_sweepDown_X8_sweepDown rfl rfl rfl (by decide +kernel) ⟨by show nR + 3 + 1 ≤ nR + 1 + 3; omega, by show 8 + (4 + 11) + (nR * 23 + 160) ≤ (nR + 1) * 23 + 160; omega⟩) (j_prS2z hK hG hI hw) rfl rfl hl.1 rfl (lv_room (Nat.le_of_ble_eq_true rfl)) dX8_sweepDown_80 ⟨by show _ ≤ 0; omega, by show _ ≤ 0; omega⟩) (fun u10 μ11 H locs hw hI => ?_)
      refine W.eq (g2 := F0 m 83 ls []) rfl ?_
      obtain ⟨v12, ev12⟩ : ∃ y : Int32, y = x2 + (1 : Int32) := ⟨_, rfl⟩
      have hw := hw v12 ev12
      refine lv_iinc (v := v12) (lv' := [(2, .int v12), (0, va_rf x0), (1, .int x1)]) hx hb dX8_sweepDown_83 hl (k := 2) rfl (by rw [ev12]; rfl) (by decide) rfl (fun ls hl => ?_)
      refine lv_goto (tgt := 55) hx hb dX8_sweepDown_86 (by decide) ?_
      exact ih hw hI (lv_sub hl [1, 2, 0] rfl) (by omega) (by omega)
set_option maxHeartbeats 4000000 in
set_option maxRecDepth 100000 in
theorem kX8_sweepDown_0 (hX : jX2 D z A p l s m args meth c yX8_sweepDown cX8_sweepDown 4 wsX8_sweepDown none) {Q : Unit → jM → Prop} {nR : Nat} {RC : Option Nat → Int32 → jM → (Unit → jM → Prop) → Prop} (hRC : ∀ (y0 : Option Nat) (y1 : Int32) (μ : jM) (sz : Nat) (Q : Unit → jM → Prop), Met l yX8_sweepDown wsX8_sweepDown (rmX8_sweepDown nR) (jPre2z D z μ sz [va_rf y0, .int y1] (RC y0 y1 μ Q)) (jRz jfV Q D z (jA z μ sz)) 0 0 (jA z μ sz)) {x0 : Option Nat} {x1 : Int32} {μ : jM} {H : Heap} {locs : List Loc} {ls : Array Slot} {cells slots : Nat} (hw : wX8_sweepDown_0 z RC Q x0 x1 μ) (hI : jIz D z A s.heap μ H locs) (hl : lv_has ls 4 [(0, va_rf x0), (1, .int x1)]) (hcn : cells + 0 ≤ 0) (hsn : slots + 0 ≤ 0) : W p l e (rmX8_sweepDown (nR + 1)) s m args below meth c H locs cells slots (MQ below (jRz jfV Q D z A) args s 0 0 A) (F0 m 0 ls []) := by
  unfold wX8_sweepDown_0 at hw
  obtain ⟨hx, hb, hml, hown, hts, hr, hlocks, hnm, hK, hG, hfl⟩ := id hX
  have hown : s.vm.findClass RX8 = some m.cls := hown
  have hfX0 : ∀ w ∈ wsX00, w.before args s = true := fun w h => hts w (List.mem_cons_of_mem _ (List.mem_append_left _ (List.mem_append_right _ h)))
  refine lv_iload_n hx hb dX8_sweepDown_0 rfl (lv_at hl 1 rfl) ?_
  refine lv_bipush (v := (10)) hx hb dX8_sweepDown_1 (by decide) ?_
  refine lv_icmp_le (tgt := 7) hx hb dX8_sweepDown_3 (by decide) (fun hc => ?_) (fun hc => ?_)
  · have hw := hw.1 hc
    refine j_aload_n (r := x0) hx hb dX8_sweepDown_7 rfl (lv_at hl 0 rfl) ?_
    obtain ⟨v1, hv1, hw⟩ := hw
    refine j_getz (C := RX0) (T := TX0) (N := 12) (ci := 3) (r := x0) (v := va_rf v1) hx hb hfX0 hown hK hI rfl 1 (by decide) (hts (.fieldLink RX8 52 "CashPools$Account" "parent" "LCashPools$Account;") (List.mem_of_getElem? (i := 1) (by decide +kernel))) (fun _ h => h) hv1 dX8_sweepDown_8 ?_
    refine j_ifnull (r := v1) (tgt := 53) hx hb dX8_sweepDown_11 (by decide) (fun hc => ?_) (fun hc => ?_)
    · have hw := hw.1 hc
      refine lv_iconst (v := (0)) hx hb dX8_sweepDown_53 (by decide) ?_
      refine lv_topi (fun v2 ev2 => ?_)
      have hw := hw v2 ev2
      refine lv_istore_n (lv' := [(2, .int v2), (0, va_rf x0), (1, .int x1)]) hx hb dX8_sweepDown_54 rfl hl (by decide) rfl (fun ls hl => ?_)
      obtain ⟨n3, hw⟩ := hw
      exact kX8_sweepDown_55 hX hRC n3 hw hI (lv_sub hl [1, 2, 0] rfl) (by omega) (by omega)
    · have hw := hw.2 hc
      refine j_aload_n (r := x0) hx hb dX8_sweepDown_14 rfl (lv_at hl 0 rfl) ?_
      refine j_aload_n (r := x0) hx hb dX8_sweepDown_15 rfl (lv_at hl 0 rfl) ?_
      obtain ⟨v4, hv4, hw⟩ := hw
      refine j_getz (C := RX0) (T := TX0) (N := 12) (ci := 3) (r := x0) (v := .long v4) hx hb hfX0 hown hK hI rfl 8 (by decide) (hts (.fieldLink RX8 9 "CashPools$Account" "cash" "J") (List.mem_of_getElem? (i := 2) (by decide +kernel))) (fun _ h => h) hv4 dX8_sweepDown_16 ?_
      refine j_aload_n (r := x0) hx hb dX8_sweepDown_19 rfl (lv_at hl 0 rfl) ?_
      obtain ⟨v5, hv5, hw⟩ := hw
      refine j_getz (C := RX0) (T := TX0) (N := 12) (ci := 3) (r := x0) (v := va_rf v5) hx hb hfX0 hown hK hI rfl 1 (by decide) (hts (.fieldLink RX8 52 "CashPools$Account" "parent" "LCashPools$Account;") (List.mem_of_getElem? (i := 1) (by decide +kernel))) (fun _ h => h) hv5 dX8_sweepDown_20 ?_
      obtain ⟨v6, hv6, hw⟩ := hw
      refine j_getz (C := RX0) (T := TX0) (N := 12) (ci := 3) (r := v5) (v := .long v6) hx hb hfX0 hown hK hI rfl 8 (by decide) (hts (.fieldLink RX8 9 "CashPools$Account" "cash" "J") (List.mem_of_getElem? (i := 2) (by decide +kernel))) (fun _ h => h) hv6 dX8_sweepDown_23 ?_
      refine j_goz hI (va_runS (As := [va_rf x0, .long v4, .long v6]) (rest := []) ⟨hx, hb, hml, hown, hts⟩ (kX8_partOf l hfl D z x0 v4 v6 μ H.size _) (va_cwS 3 hts gX8_sweepDown_X8_partOf rfl rfl rfl (by decide +kernel) ⟨by show 3 ≤ nR + 1 + 3; omega, by show 160 ≤ (nR + 1) * 23 + 160; omega⟩) (j_prS2z hK hG hI hw) rfl rfl hl.1 rfl (lv_room (Nat.le_of_ble_eq_true rfl)) dX8_sweepDown_26 ⟨by show _ ≤ 0; omega, by show _ ≤ 0; omega⟩) (fun v7 μ8 H locs hw hI => ?_)
      refine W.eq (g2 := F0 m 29 ls [.long v7]) rfl ?_
      refine lv_lstore_n (lv' := [(2, .long v7), (0, va_rf x0), (1, .int x1)]) hx hb dX8_sweepDown_29 rfl hl (by decide) rfl (fun ls hl => ?_)
      refine j_aload_n (r := x0) hx hb dX8_sweepDown_30 rfl (lv_at hl 1 rfl) ?_
      refine lv_dup hx hb dX8_sweepDown_31 (jrc x0) ?_
      obtain ⟨v9, hv9, hw⟩ := hw
      refine j_getz (C := RX0) (T := TX0) (N := 12) (ci := 3) (r := x0) (v := .long v9) hx hb hfX0 hown hK hI rfl 8 (by decide) (hts (.fieldLink RX8 9 "CashPools$Account" "cash" "J") (List.mem_of_getElem? (i := 2) (by decide +kernel))) (fun _ h => h) hv9 dX8_sweepDown_32 ?_
      refine lv_lload_n hx hb dX8_sweepDown_35 rfl (lv_at hl 0 rfl) ?_
      refine lv_ladd hx hb dX8_sweepDown_36 ?_
      obtain ⟨μ10, hμ10, hw⟩ := hw
      refine j_putz (C := RX0) (T := TX0) (N := 12) (ci := 3) (r := x0) (v := .long (v9 + v7)) hx hb hfX0 tyX0 tyX0_ok nmX0 hown hK hI rfl 8 (by decide) (hts (.fieldLink RX8 9 "CashPools$Account" "cash" "J") (List.mem_of_getElem? (i := 2) (by decide +kernel))) (fun _ h => h) rfl (tyX0_ok 8 (by decide)) rfl rfl hμ10 dX8_sweepDown_37 (fun H locs hI => ?_)
      refine j_aload_n (r := x0) hx hb dX8_sweepDown_40 rfl (lv_at hl 1 rfl) ?_
      obtain ⟨v11, hv11, hw⟩ := hw
      refine j_getz (C := RX0) (T := TX0) (N := 12) (ci := 3) (r := x0) (v := va_rf v11) hx hb hfX0 hown hK hI rfl 1 (by decide) (hts (.fieldLink RX8 52 "CashPools$Account" "parent" "LCashPools$Account;") (List.mem_of_getElem? (i := 1) (by decide +kernel))) (fun _ h => h) hv11 dX8_sweepDown_41 ?_
      refine lv_dup hx hb dX8_sweepDown_44 (jrc v11) ?_
      obtain ⟨v12, hv12, hw⟩ := hw
      refine j_getz (C := RX0) (T := TX0) (N := 12) (ci := 3) (r := v11) (v := .long v12) hx hb hfX0 hown hK hI rfl 8 (by decide) (hts (.fieldLink RX8 9 "CashPools$Account" "cash" "J") (List.mem_of_getElem? (i := 2) (by decide +kernel))) (fun _ h => h) hv12 dX8_sweepDown_45 ?_
      refine lv_lload_n hx hb dX8_sweepDown_48 rfl (lv_at hl 0 rfl) ?_
      refine lv_lsub hx hb dX8_sweepDown_49 ?_
      obtain ⟨μ13, hμ13, hw⟩ := hw
      refine j_putz (C := RX0) (T := TX0) (N := 12) (ci := 3) (r := v11) (v := .long (v12 - v7)) hx hb hfX0 tyX0 tyX0_ok nmX0 hown hK hI rfl 8 (by decide) (hts (.fieldLink RX8 9 "CashPools$Account" "cash" "J") (List.mem_of_getElem? (i := 2) (by decide +kernel))) (fun _ h => h) rfl (tyX0_ok 8 (by decide)) rfl rfl hμ13 dX8_sweepDown_50 (fun H locs hI => ?_)
      refine lv_iconst (v := (0)) hx hb dX8_sweepDown_53 (by decide) ?_
      refine lv_topi (fun v14 ev14 => ?_)
      have hw := hw v14 ev14
      refine lv_istore_n (lv' := [(2, .int v14), (0, va_rf x0), (1, .int x1)]) hx hb dX8_sweepDown_54 rfl hl (by decide) rfl (fun ls hl => ?_)
      obtain ⟨n15, hw⟩ := hw
      exact kX8_sweepDown_55 hX hRC n15 hw hI (lv_sub hl [1, 2, 0] rfl) (by omega) (by omega)
  · have hw := hw.2 hc
    exact j_vretz hx hb hr hlocks hI hw (by omega) (by omega) dX8_sweepDown_6
set_option maxHeartbeats 4000000 in
set_option maxRecDepth 100000 in
theorem kX8_sweepDown_r (l : Launch) (hfl : l.stackTraces = false) (D : jD) (z : Nat × Nat) (n : Nat) : ∀ (x0 : Option Nat) (x1 : Int32) (μ : jM) (sz : Nat) (Q : Unit → jM → Prop), Met l yX8_sweepDown wsX8_sweepDown (rmX8_sweepDown n) (jPre2z D z μ sz [va_rf x0, .int x1] (wX8_sweepDown z n x0 x1 μ Q)) (jRz jfV Q D z (jA z μ sz)) 0 0 (jA z μ sz) := by
  induction n with
  | zero =>
    intro x0 x1 μ sz Q
    refine Met.ofW (cc := cX8_sweepDown) (maxL := 4) (ret := none) (by decide) rfl ?_
    intro p e s m args below meth c s₁ B hml hv
    obtain ⟨_, _, _, _, _, _, hw⟩ := hv
    exact (show False from hw).elim
  | succ n ih =>
    intro x0 x1 μ sz Q
    refine Met.ofW (cc := cX8_sweepDown) (maxL := 4) (ret := none) (by decide) rfl ?_
    intro p e s m args below meth c s₁ B hml hv
    obtain ⟨rfl, hsz, hH, hz0, hK, hG, hw⟩ := hv
    subst hsz
    have hX : jX2 D z (jA z μ s.heap.size) p l s m _ meth c yX8_sweepDown cX8_sweepDown 4 wsX8_sweepDown none := ⟨B.exec, B.bytes, hml, findClass_of_methodNamed B.named, atoms_spec (ws := wsX8_sweepDown) B.pre, B.returns, B.notSynchronized, (name_of_methodNamed B.named B.method).1, hK, hG, hfl⟩
    obtain ⟨ls, hg, hl⟩ : ∃ ls : Array Slot, entryFrame m ([va_rf x0, .int x1] : List Value).toArray 4 = F0 m 0 ls [] ∧ lv_has ls 4 [(0, va_rf x0), (1, .int x1)] := by
      cases x0 <;> exact ⟨_, lg_entry_eq .., lv_entry _ (n := 4) (Nat.le_of_ble_eq_true rfl)⟩
    rw [hg]
    exact kX8_sweepDown_0 hX ih hw (jIz.start hH hz0) (lv_sub hl [0, 1] rfl) (by decide) (by decide)
theorem kX8_sweepDown (l : Launch) (hfl : l.stackTraces = false) (D : jD) (z : Nat × Nat) (x0 : Option Nat) (x1 : Int32) (μ : jM) (sz : Nat) (Q : Unit → jM → Prop) : Met l yX8_sweepDown wsX8_sweepDown (rmX8_sweepDown 12) (jPre2z D z μ sz [va_rf x0, .int x1] (wX8_sweepDown z 12 x0 x1 μ Q)) (jRz jfV Q D z (jA z μ sz)) 0 0 (jA z μ sz) := kX8_sweepDown_r l hfl D z 12 x0 x1 μ sz Q
set_option maxHeartbeats 4000000 in
set_option maxRecDepth 100000 in
theorem kX8_sweep_0 (hX : jX2 D z A p l s m args meth c yX8_sweep cX8_sweep 1 wsX8_sweep none) {Q : Unit → jM → Prop}  {x0 : Option Nat} {μ : jM} {H : Heap} {locs : List Loc} {ls : Array Slot} {cells slots : Nat} (hw : wX8_sweep_0 z Q x0 μ) (hI : jIz D z A s.heap μ H locs) (hl : lv_has ls 1 [(0, va_rf x0)]) (hcn : cells + 0 ≤ 0) (hsn : slots + 0 ≤ 0) : W p l e rmX8_sweep s m args below meth c H locs cells slots (MQ below (jRz jfV Q D z A) args s 0 0 A) (F0 m 0 ls []) := by
  unfold wX8_sweep_0 at hw
  obtain ⟨hx, hb, hml, hown, hts, hr, hlocks, hnm, hK, hG, hfl⟩ := id hX
  have hown : s.vm.findClass RX8 = some m.cls := hown
  refine j_aload_n (r := x0) hx hb dX8_sweep_0 rfl (lv_at hl 0 rfl) ?_
  refine lv_iconst (v := (0)) hx hb dX8_sweep_1 (by decide) ?_
  refine j_goz hI (va_runS (As := [va_rf x0, .int (0 : Int32)]) (rest := []) ⟨hx, hb, hml, hown, hts⟩ (kX8_sweepUp l hfl D z x0 (0 : Int32) μ H.size _) (va_cwS 2 hts gX8_sweep_X8_sweepUp rfl rfl rfl (by decide +kernel) ⟨Nat.le_of_ble_eq_true rfl, Nat.le_of_ble_eq_true rfl⟩) (j_prS2z hK hG hI hw) rfl rfl hl.1 rfl (lv_room (Nat.le_of_ble_eq_true rfl)) dX8_sweep_2 ⟨by show _ ≤ 0; omega, by show _ ≤ 0; omega⟩) (fun u1 μ2 H locs hw hI => ?_)
  refine W.eq (g2 := F0 m 5 ls []) rfl ?_
  refine j_aload_n (r := x0) hx hb dX8_sweep_5 rfl (lv_at hl 0 rfl) ?_
  refine lv_iconst (v := (0)) hx hb dX8_sweep_6 (by decide) ?_
  refine j_goz hI (va_runS (As := [va_rf x0, .int (0 : Int32)]) (rest := []) ⟨hx, hb, hml, hown, hts⟩ (kX8_sweepDown l hfl D z x0 (0 : Int32) μ2 H.size _) (va_cwS 2 hts gX8_sweep_X8_sweepDown rfl rfl rfl (by decide +kernel) ⟨Nat.le_of_ble_eq_true rfl, Nat.le_of_ble_eq_true rfl⟩) (j_prS2z hK hG hI hw) rfl rfl hl.1 rfl (lv_room (Nat.le_of_ble_eq_true rfl)) dX8_sweep_7 ⟨by show _ ≤ 0; omega, by show _ ≤ 0; omega⟩) (fun u3 μ4 H locs hw hI => ?_)
  refine W.eq (g2 := F0 m 10 ls []) rfl ?_
  exact j_vretz hx hb hr hlocks hI hw (by omega) (by omega) dX8_sweep_10
set_option maxHeartbeats 4000000 in
set_option maxRecDepth 100000 in
theorem kX8_sweep (l : Launch) (hfl : l.stackTraces = false) (D : jD) (z : Nat × Nat) (x0 : Option Nat) (μ : jM) (sz : Nat) (Q : Unit → jM → Prop) : Met l yX8_sweep wsX8_sweep rmX8_sweep (jPre2z D z μ sz [va_rf x0] (wX8_sweep z x0 μ Q)) (jRz jfV Q D z (jA z μ sz)) 0 0 (jA z μ sz) := by
  refine Met.ofW (cc := cX8_sweep) (maxL := 1) (ret := none) (by decide) rfl ?_
  intro p e s m args below meth c s₁ B hml hv
  obtain ⟨rfl, hsz, hH, hz0, hK, hG, hw⟩ := hv
  subst hsz
  have hX : jX2 D z (jA z μ s.heap.size) p l s m _ meth c yX8_sweep cX8_sweep 1 wsX8_sweep none := ⟨B.exec, B.bytes, hml, findClass_of_methodNamed B.named, atoms_spec (ws := wsX8_sweep) B.pre, B.returns, B.notSynchronized, (name_of_methodNamed B.named B.method).1, hK, hG, hfl⟩
  obtain ⟨ls, hg, hl⟩ : ∃ ls : Array Slot, entryFrame m ([va_rf x0] : List Value).toArray 1 = F0 m 0 ls [] ∧ lv_has ls 1 [(0, va_rf x0)] := by
    cases x0 <;> exact ⟨_, lg_entry_eq .., lv_entry _ (n := 1) (Nat.le_of_ble_eq_true rfl)⟩
  rw [hg]
  exact kX8_sweep_0 hX hw (jIz.start hH hz0) (lv_sub hl [0] rfl) (by decide) (by decide)
set_option maxHeartbeats 4000000 in
set_option maxRecDepth 100000 in
theorem kX3_sweepPools_2 {b : Nat} (hX : jX2 D z A p l s m args meth c yX3_sweepPools cX3_sweepPools 2 wsX3_sweepPools none) {Q : Unit → jM → Prop}  (n : Nat) : ∀ {x1 : Int32} {μ : jM} {H : Heap} {locs : List Loc} {ls : Array Slot} {cells slots : Nat}, wX3_sweepPools_2 z b Q n x1 μ → jIz D z A s.heap μ H locs → lv_has ls 2 [(0, va_rf (some b)), (1, .int x1)] → cells + 0 ≤ 0 → slots + 0 ≤ 0 → W p l e rmX3_sweepPools s m args below meth c H locs cells slots (MQ below (jRz jfV Q D z A) args s 0 0 A) (F0 m 2 ls []) := by
  induction n with
  | zero =>
    intros
    rename_i hw _ _ _ _
    exact (show False from hw).elim
  | succ n ih =>
    intro x1 μ H locs ls cells slots hw hI hl hcn hsn
    have hw : wX3_sweepPools_2_b z b Q (wX3_sweepPools_2 z b Q n) x1 μ := hw
    unfold wX3_sweepPools_2_b at hw
    obtain ⟨hx, hb, hml, hown, hts, hr, hlocks, hnm, hK, hG, hfl⟩ := id hX
    have hown : s.vm.findClass RX3 = some m.cls := hown
    have hfX3 : ∀ w ∈ wsX30, w.before args s = true := fun w h => hts w (List.mem_cons_of_mem _ (List.mem_append_left _ (List.mem_append_left _ (List.mem_append_right _ h))))
    refine lv_iload_n hx hb dX3_sweepPools_2 rfl (lv_at hl 1 rfl) ?_
    refine j_aload_n (r := (some b)) hx hb dX3_sweepPools_3 rfl (lv_at hl 0 rfl) ?_
    obtain ⟨v1, hv1, hw⟩ := hw
    refine j_getz (C := RX3) (T := TX3) (N := 8) (ci := 6) (r := (some b)) (v := va_rf v1) hx hb hfX3 hown hK hI rfl 1 (by decide) (hts (.fieldLink RX3 18 "CashPools$Desk" "tops" "Ljava/util/ArrayList;") (List.mem_of_getElem? (i := 1) (by decide +kernel))) (fun _ h => h) hv1 dX3_sweepPools_4 ?_
    obtain ⟨b4, ⟨hrb4, hfs⟩, hw⟩ := hw
    refine j_goz hI (va_runV (As := []) (rest := [.int x1]) ⟨hx, hb, hml, hown, hts⟩ (kJx4a65c_size_8abf5 l hfl D z b4  μ H.size _) (cwV 0 hts gX3_sweepPools_Jx4a65c_size_8abf5 rfl rfl rfl (by decide +kernel) ⟨Nat.le_of_ble_eq_true rfl, Nat.le_of_ble_eq_true rfl⟩) (j_prV2z hK hG hI hw (ci := 2) rfl hfs) rfl rfl hl.1 (by rw [hrb4]; rfl) (lv_room (Nat.le_of_ble_eq_true rfl)) dX3_sweepPools_7 ⟨by show _ ≤ 0; omega, by show _ ≤ 0; omega⟩) (fun v2 μ3 H locs hw hI => ?_)
    refine W.eq (g2 := F0 m 10 ls [.int v2, .int x1]) rfl ?_
    refine lv_icmp_ge (tgt := 33) hx hb dX3_sweepPools_10 (by decide) (fun hc => ?_) (fun hc => ?_)
    · have hw := hw.1 hc
      exact j_vretz hx hb hr hlocks hI hw (by omega) (by omega) dX3_sweepPools_33
    · have hw := hw.2 hc
      refine j_aload_n (r := (some b)) hx hb dX3_sweepPools_13 rfl (lv_at hl 0 rfl) ?_
      obtain ⟨v5, hv5, hw⟩ := hw
      refine j_getz (C := RX3) (T := TX3) (N := 8) (ci := 6) (r := (some b)) (v := va_rf v5) hx hb hfX3 hown hK hI rfl 1 (by decide) (hts (.fieldLink RX3 18 "CashPools$Desk" "tops" "Ljava/util/ArrayList;") (List.mem_of_getElem? (i := 1) (by decide +kernel))) (fun _ h => h) hv5 dX3_sweepPools_14 ?_
      refine lv_iload_n hx hb dX3_sweepPools_17 rfl (lv_at hl 1 rfl) ?_
      obtain ⟨b8, ⟨hrb8, hfs⟩, hw⟩ := hw
      refine j_goz hI (va_runV (As := [.int x1]) (rest := []) ⟨hx, hb, hml, hown, hts⟩ (kJx4a65c_get_915e3 l hfl D z b8 x1 μ3 H.size _) (cwV 1 hts gX3_sweepPools_Jx4a65c_get_915e3 rfl rfl rfl (by decide +kernel) ⟨Nat.le_of_ble_eq_true rfl, Nat.le_of_ble_eq_true rfl⟩) (j_prV2z hK hG hI hw (ci := 2) rfl hfs) rfl rfl hl.1 (by rw [hrb8]; rfl) (lv_room (Nat.le_of_ble_eq_true rfl)) dX3_sweepPools_18 ⟨by show _ ≤ 0; omega, by show _ ≤ 0; omega⟩) (fun v6 μ7 H locs hw hI => ?_)
      refine W.eq (g2 := F0 m 21 ls [va_rf v6]) rfl ?_
      obtain ⟨h9, hw⟩ := hw
      refine j_castz (C := RX0) (T := TX0) (N := 12) (ci := 3) (r := v6) hx hb hown (hts (.classLink RX3 55 "CashPools$Account") (List.mem_of_getElem? (i := 2) (by decide +kernel))) hK hI rfl h9 dX3_sweepPools_21 ?_
      refine j_goz hI (va_runS (As := [va_rf v6]) (rest := []) ⟨hx, hb, hml, hown, hts⟩ (kX8_sweep l hfl D z v6 μ7 H.size _) (va_cwS 1 hts gX3_sweepPools_X8_sweep rfl rfl rfl (by decide +kernel) ⟨Nat.le_of_ble_eq_true rfl, Nat.le_of_ble_eq_true rfl⟩) (j_prS2z hK hG hI hw) rfl rfl hl.1 rfl (lv_room (Nat.le_of_ble_eq_true rfl)) dX3_sweepPools_24 ⟨by show _ ≤ 0; omega, by show _ ≤ 0; omega⟩) (fun u10 μ11 H locs hw hI => ?_)
      refine W.eq (g2 := F0 m 27 ls []) rfl ?_
      obtain ⟨v12, ev12⟩ : ∃ y : Int32, y = x1 + (1 : Int32) := ⟨_, rfl⟩
      have hw := hw v12 ev12
      refine lv_iinc (v := v12) (lv' := [(1, .int v12), (0, va_rf (some b))]) hx hb dX3_sweepPools_27 hl (k := 1) rfl (by rw [ev12]; rfl) (by decide) rfl (fun ls hl => ?_)
      refine lv_goto (tgt := 2) hx hb dX3_sweepPools_30 (by decide) ?_
      exact ih hw hI (lv_sub hl [1, 0] rfl) (by omega) (by omega)
set_option maxHeartbeats 4000000 in
set_option maxRecDepth 100000 in
theorem kX3_sweepPools_0 {b : Nat} (hX : jX2 D z A p l s m args meth c yX3_sweepPools cX3_sweepPools 2 wsX3_sweepPools none) {Q : Unit → jM → Prop}   {μ : jM} {H : Heap} {locs : List Loc} {ls : Array Slot} {cells slots : Nat} (hw : wX3_sweepPools_0 z b Q  μ) (hI : jIz D z A s.heap μ H locs) (hl : lv_has ls 2 [(0, va_rf (some b))]) (hcn : cells + 0 ≤ 0) (hsn : slots + 0 ≤ 0) : W p l e rmX3_sweepPools s m args below meth c H locs cells slots (MQ below (jRz jfV Q D z A) args s 0 0 A) (F0 m 0 ls []) := by
  unfold wX3_sweepPools_0 at hw
  obtain ⟨hx, hb, hml, hown, hts, hr, hlocks, hnm, hK, hG, hfl⟩ := id hX
  have hown : s.vm.findClass RX3 = some m.cls := hown
  refine lv_iconst (v := (0)) hx hb dX3_sweepPools_0 (by decide) ?_
  refine lv_topi (fun v1 ev1 => ?_)
  have hw := hw v1 ev1
  refine lv_istore_n (lv' := [(1, .int v1), (0, va_rf (some b))]) hx hb dX3_sweepPools_1 rfl hl (by decide) rfl (fun ls hl => ?_)
  obtain ⟨n2, hw⟩ := hw
  exact kX3_sweepPools_2 hX  n2 hw hI (lv_sub hl [1, 0] rfl) (by omega) (by omega)
set_option maxHeartbeats 4000000 in
set_option maxRecDepth 100000 in
theorem kX3_sweepPools (l : Launch) (hfl : l.stackTraces = false) (D : jD) (z : Nat × Nat) (b : Nat)  (μ : jM) (sz : Nat) (Q : Unit → jM → Prop) : Met l yX3_sweepPools wsX3_sweepPools rmX3_sweepPools (jPre2z D z μ sz [.ref b] (wX3_sweepPools z b  μ Q)) (jRz jfV Q D z (jA z μ sz)) 0 0 (jA z μ sz) := by
  refine Met.ofW (cc := cX3_sweepPools) (maxL := 2) (ret := none) (by decide) rfl ?_
  intro p e s m args below meth c s₁ B hml hv
  obtain ⟨rfl, hsz, hH, hz0, hK, hG, hw⟩ := hv
  subst hsz
  have hX : jX2 D z (jA z μ s.heap.size) p l s m _ meth c yX3_sweepPools cX3_sweepPools 2 wsX3_sweepPools none := ⟨B.exec, B.bytes, hml, findClass_of_methodNamed B.named, atoms_spec (ws := wsX3_sweepPools) B.pre, B.returns, B.notSynchronized, (name_of_methodNamed B.named B.method).1, hK, hG, hfl⟩
  obtain ⟨ls, hg, hl⟩ : ∃ ls : Array Slot, entryFrame m ([.ref b] : List Value).toArray 2 = F0 m 0 ls [] ∧ lv_has ls 2 [(0, va_rf (some b))] := by
    exact ⟨_, lg_entry_eq .., lv_entry _ (n := 2) (Nat.le_of_ble_eq_true rfl)⟩
  rw [hg]
  exact kX3_sweepPools_0 hX hw (jIz.start hH hz0) (lv_sub hl [0] rfl) (by decide) (by decide)
set_option maxHeartbeats 4000000 in
set_option maxRecDepth 100000 in
theorem kX6_drawMissing_2 {b : Nat} (hX : jX2 D z A p l s m args meth c yX6_drawMissing cX6_drawMissing 8 wsX6_drawMissing none) {Q : Unit → jM → Prop}  (n : Nat) : ∀ {x1 : Option Nat} {x2 : Int32} {μ : jM} {H : Heap} {locs : List Loc} {ls : Array Slot} {cells slots : Nat}, wX6_drawMissing_2 z b Q n x1 x2 μ → jIz D z A s.heap μ H locs → lv_has ls 8 [(0, va_rf (some b)), (1, va_rf x1), (2, .int x2)] → cells + 0 ≤ 0 → slots + 0 ≤ 0 → W p l e rmX6_drawMissing s m args below meth c H locs cells slots (MQ below (jRz jfV Q D z A) args s 0 0 A) (F0 m 2 ls []) := by
  induction n with
  | zero =>
    intros
    rename_i hw _ _ _ _
    exact (show False from hw).elim
  | succ n ih =>
    intro x1 x2 μ H locs ls cells slots hw hI hl hcn hsn
    have hw : wX6_drawMissing_2_b z b Q (wX6_drawMissing_2 z b Q n) x1 x2 μ := hw
    unfold wX6_drawMissing_2_b at hw
    obtain ⟨hx, hb, hml, hown, hts, hr, hlocks, hnm, hK, hG, hfl⟩ := id hX
    have hown : s.vm.findClass RX6 = some m.cls := hown
    have hfX0 : ∀ w ∈ wsX00, w.before args s = true := fun w h => hts w (List.mem_cons_of_mem _ (List.mem_append_left _ (List.mem_append_left _ (List.mem_append_right _ h))))
    have hfX5 : ∀ w ∈ wsX50, w.before args s = true := fun w h => hts w (List.mem_cons_of_mem _ (List.mem_append_left _ (List.mem_append_right _ h)))
    have hfX6 : ∀ w ∈ wsX60, w.before args s = true := fun w h => hts w (List.mem_cons_of_mem _ (List.mem_append_left _ (List.mem_append_left _ (List.mem_append_left _ (List.mem_append_right _ h)))))
    refine lv_iload_n hx hb dX6_drawMissing_2 rfl (lv_at hl 2 rfl) ?_
    refine j_aload_n (r := (some b)) hx hb dX6_drawMissing_3 rfl (lv_at hl 0 rfl) ?_
    obtain ⟨v1, hv1, hw⟩ := hw
    refine j_getz (C := RX6) (T := TX6) (N := 5) (ci := 9) (r := (some b)) (v := va_rf v1) hx hb hfX6 hown hK hI rfl 4 (by decide) (hts (.fieldLink RX6 16 "CashPools$Pool" "ranked" "Ljava/util/ArrayList;") (List.mem_of_getElem? (i := 1) (by decide +kernel))) (fun _ h => h) hv1 dX6_drawMissing_4 ?_
    obtain ⟨b4, ⟨hrb4, hfs⟩, hw⟩ := hw
    refine j_goz hI (va_runV (As := []) (rest := [.int x2]) ⟨hx, hb, hml, hown, hts⟩ (kJx4a65c_size_8abf5 l hfl D z b4  μ H.size _) (cwV 0 hts gX6_drawMissing_Jx4a65c_size_8abf5 rfl rfl rfl (by decide +kernel) ⟨Nat.le_of_ble_eq_true rfl, Nat.le_of_ble_eq_true rfl⟩) (j_prV2z hK hG hI hw (ci := 2) rfl hfs) rfl rfl hl.1 (by rw [hrb4]; rfl) (lv_room (Nat.le_of_ble_eq_true rfl)) dX6_drawMissing_7 ⟨by show _ ≤ 0; omega, by show _ ≤ 0; omega⟩) (fun v2 μ3 H locs hw hI => ?_)
    refine W.eq (g2 := F0 m 10 ls [.int v2, .int x2]) rfl ?_
    refine lv_icmp_ge (tgt := 81) hx hb dX6_drawMissing_10 (by decide) (fun hc => ?_) (fun hc => ?_)
    · have hw := hw.1 hc
      exact j_vretz hx hb hr hlocks hI hw (by omega) (by omega) dX6_drawMissing_81
    · have hw := hw.2 hc
      refine j_aload_n (r := (some b)) hx hb dX6_drawMissing_13 rfl (lv_at hl 0 rfl) ?_
      obtain ⟨v5, hv5, hw⟩ := hw
      refine j_getz (C := RX6) (T := TX6) (N := 5) (ci := 9) (r := (some b)) (v := va_rf v5) hx hb hfX6 hown hK hI rfl 4 (by decide) (hts (.fieldLink RX6 16 "CashPools$Pool" "ranked" "Ljava/util/ArrayList;") (List.mem_of_getElem? (i := 1) (by decide +kernel))) (fun _ h => h) hv5 dX6_drawMissing_14 ?_
      refine lv_iload_n hx hb dX6_drawMissing_17 rfl (lv_at hl 2 rfl) ?_
      obtain ⟨b8, ⟨hrb8, hfs⟩, hw⟩ := hw
      refine j_goz hI (va_runV (As := [.int x2]) (rest := []) ⟨hx, hb, hml, hown, hts⟩ (kJx4a65c_get_915e3 l hfl D z b8 x2 μ3 H.size _) (cwV 1 hts gX6_drawMissing_Jx4a65c_get_915e3 rfl rfl rfl (by decide +kernel) ⟨Nat.le_of_ble_eq_true rfl, Nat.le_of_ble_eq_true rfl⟩) (j_prV2z hK hG hI hw (ci := 2) rfl hfs) rfl rfl hl.1 (by rw [hrb8]; rfl) (lv_room (Nat.le_of_ble_eq_true rfl)) dX6_drawMissing_18 ⟨by show _ ≤ 0; omega, by show _ ≤ 0; omega⟩) (fun v6 μ7 H locs hw hI => ?_)
      refine W.eq (g2 := F0 m 21 ls [va_rf v6]) rfl ?_
      obtain ⟨h9, hw⟩ := hw
      refine j_castz (C := RX5) (T := TX5) (N := 9) (ci := 8) (r := v6) hx hb hown (hts (.classLink RX6 43 "CashPools$Line") (List.mem_of_getElem? (i := 2) (by decide +kernel))) hK hI rfl h9 dX6_drawMissing_21 ?_
      refine j_astore_n (r := v6) (lv' := [(3, va_rf v6), (0, va_rf (some b)), (1, va_rf x1), (2, .int x2)]) hx hb dX6_drawMissing_24 rfl hl (by decide) rfl (fun ls hl => ?_)
      refine j_aload_n (r := x1) hx hb dX6_drawMissing_25 rfl (lv_at hl 2 rfl) ?_
      obtain ⟨v10, hv10, hw⟩ := hw
      refine j_getz (C := RX0) (T := TX0) (N := 12) (ci := 3) (r := x1) (v := .long v10) hx hb hfX0 hown hK hI rfl 8 (by decide) (hts (.fieldLink RX6 52 "CashPools$Account" "cash" "J") (List.mem_of_getElem? (i := 3) (by decide +kernel))) (fun _ h => h) hv10 dX6_drawMissing_26 ?_
      refine lv_lneg hx hb dX6_drawMissing_29 ?_
      refine lv_lconst (v := (0)) hx hb dX6_drawMissing_30 (by decide) ?_
      refine va_mmax_long hx hb (by rw [hml]; exact hl.1.symm) hown (hts (.methodLink RX6 58 Lib.MathLoose.max_long.x) (List.mem_of_getElem? (i := 4) (by decide +kernel))) (hts (.static Lib.MathLoose.max_long.x) (List.mem_of_getElem? (i := 5) (by decide +kernel))) (hts (.initialized "java/lang/Math") (List.mem_of_getElem? (i := 6) (by decide +kernel))) (hts (.code Lib.MathLoose.max_long.x Lib.MathLoose.max_long.code 4 (some .long)) (List.mem_of_getElem? (i := 7) (by decide +kernel))) (Nat.le_of_ble_eq_true rfl) (Nat.le_of_ble_eq_true rfl) (by show _ ≤ 0; omega) (by show _ ≤ 0; omega) dX6_drawMissing_31 ?_
      refine lv_topl (fun v11 ev11 => ?_)
      have hw := hw v11 ev11
      refine j_lstoreA (r := v6) (F := fun w => [(3, w), (0, va_rf (some b)), (1, va_rf x1), (2, .int x2)]) (F2 := fun w => [(4, .long v11), (3, w), (0, va_rf (some b)), (1, va_rf x1), (2, .int x2)]) hx hb dX6_drawMissing_34 hl (by decide) (fun w hw => by rcases hw with rfl | ⟨_, rfl⟩ <;> rfl) (fun ls hl => ?_)
      refine lv_lload hx hb dX6_drawMissing_36 (lv_at hl 0 rfl) ?_
      refine j_aload_n (r := v6) hx hb dX6_drawMissing_38 rfl (lv_at hl 1 rfl) ?_
      obtain ⟨v12, hv12, hw⟩ := hw
      refine j_getz (C := RX5) (T := TX5) (N := 9) (ci := 8) (r := v6) (v := .int v12) hx hb hfX5 hown hK hI rfl 1 (by decide) (hts (.fieldLink RX6 64 "CashPools$Line" "limit" "I") (List.mem_of_getElem? (i := 8) (by decide +kernel))) (fun _ h => h) hv12 dX6_drawMissing_39 ?_
      refine lv_i2l hx hb dX6_drawMissing_42 rfl ?_
      refine j_aload_n (r := v6) hx hb dX6_drawMissing_43 rfl (lv_at hl 1 rfl) ?_
      obtain ⟨v13, hv13, hw⟩ := hw
      refine j_getz (C := RX5) (T := TX5) (N := 9) (ci := 8) (r := v6) (v := .long v13) hx hb hfX5 hown hK hI rfl 3 (by decide) (hts (.fieldLink RX6 67 "CashPools$Line" "used" "J") (List.mem_of_getElem? (i := 9) (by decide +kernel))) (fun _ h => h) hv13 dX6_drawMissing_44 ?_
      refine lv_lsub hx hb dX6_drawMissing_47 ?_
      refine va_mmin_long hx hb (by rw [hml]; exact hl.1.symm) hown (hts (.methodLink RX6 70 Lib.MathLoose.min_long.x) (List.mem_of_getElem? (i := 10) (by decide +kernel))) (hts (.static Lib.MathLoose.min_long.x) (List.mem_of_getElem? (i := 11) (by decide +kernel))) (hts (.initialized "java/lang/Math") (List.mem_of_getElem? (i := 6) (by decide +kernel))) (hts (.code Lib.MathLoose.min_long.x Lib.MathLoose.min_long.code 4 (some .long)) (List.mem_of_getElem? (i := 12) (by decide +kernel))) (Nat.le_of_ble_eq_true rfl) (Nat.le_of_ble_eq_true rfl) (by show _ ≤ 0; omega) (by show _ ≤ 0; omega) dX6_drawMissing_48 ?_
      refine lv_topl (fun v14 ev14 => ?_)
      have hw := hw v14 ev14
      refine lv_lstore (lv' := [(6, .long v14), (4, .long v11), (3, va_rf v6), (0, va_rf (some b)), (1, va_rf x1), (2, .int x2)]) hx hb dX6_drawMissing_51 hl (by decide) rfl (fun ls hl => ?_)
      refine j_aload_n (r := v6) hx hb dX6_drawMissing_53 rfl (lv_at hl 2 rfl) ?_
      refine lv_dup hx hb dX6_drawMissing_54 (jrc v6) ?_
      obtain ⟨v15, hv15, hw⟩ := hw
      refine j_getz (C := RX5) (T := TX5) (N := 9) (ci := 8) (r := v6) (v := .long v15) hx hb hfX5 hown hK hI rfl 3 (by decide) (hts (.fieldLink RX6 67 "CashPools$Line" "used" "J") (List.mem_of_getElem? (i := 9) (by decide +kernel))) (fun _ h => h) hv15 dX6_drawMissing_55 ?_
      refine lv_lload hx hb dX6_drawMissing_58 (lv_at hl 0 rfl) ?_
      refine lv_ladd hx hb dX6_drawMissing_60 ?_
      obtain ⟨μ16, hμ16, hw⟩ := hw
      refine j_putz (C := RX5) (T := TX5) (N := 9) (ci := 8) (r := v6) (v := .long (v15 + v14)) hx hb hfX5 tyX5 tyX5_ok nmX5 hown hK hI rfl 3 (by decide) (hts (.fieldLink RX6 67 "CashPools$Line" "used" "J") (List.mem_of_getElem? (i := 9) (by decide +kernel))) (fun _ h => h) rfl (tyX5_ok 3 (by decide)) rfl rfl hμ16 dX6_drawMissing_61 (fun H locs hI => ?_)
      refine j_aload_n (r := x1) hx hb dX6_drawMissing_64 rfl (lv_at hl 4 rfl) ?_
      refine lv_dup hx hb dX6_drawMissing_65 (jrc x1) ?_
      obtain ⟨v17, hv17, hw⟩ := hw
      refine j_getz (C := RX0) (T := TX0) (N := 12) (ci := 3) (r := x1) (v := .long v17) hx hb hfX0 hown hK hI rfl 8 (by decide) (hts (.fieldLink RX6 52 "CashPools$Account" "cash" "J") (List.mem_of_getElem? (i := 3) (by decide +kernel))) (fun _ h => h) hv17 dX6_drawMissing_66 ?_
      refine lv_lload hx hb dX6_drawMissing_69 (lv_at hl 0 rfl) ?_
      refine lv_ladd hx hb dX6_drawMissing_71 ?_
      obtain ⟨μ18, hμ18, hw⟩ := hw
      refine j_putz (C := RX0) (T := TX0) (N := 12) (ci := 3) (r := x1) (v := .long (v17 + v14)) hx hb hfX0 tyX0 tyX0_ok nmX0 hown hK hI rfl 8 (by decide) (hts (.fieldLink RX6 52 "CashPools$Account" "cash" "J") (List.mem_of_getElem? (i := 3) (by decide +kernel))) (fun _ h => h) rfl (tyX0_ok 8 (by decide)) rfl rfl hμ18 dX6_drawMissing_72 (fun H locs hI => ?_)
      obtain ⟨v19, ev19⟩ : ∃ y : Int32, y = x2 + (1 : Int32) := ⟨_, rfl⟩
      have hw := hw v19 ev19
      refine j_iincA (r := x1) (F := fun w => [(6, .long v14), (4, .long v11), (3, va_rf v6), (0, va_rf (some b)), (1, w), (2, .int x2)]) (F2 := fun w => [(2, .int v19), (6, .long v14), (4, .long v11), (3, va_rf v6), (0, va_rf (some b)), (1, w)]) (v := v19) hx hb dX6_drawMissing_75 hl (k := 5) (fun _ => rfl) (by rw [ev19]; rfl) (by decide) (fun w hw => by rcases hw with rfl | ⟨_, rfl⟩ <;> rfl) (fun ls hl => ?_)
      refine lv_goto (tgt := 2) hx hb dX6_drawMissing_78 (by decide) ?_
      exact ih hw hI (lv_sub hl [4, 5, 0] rfl) (by omega) (by omega)
set_option maxHeartbeats 4000000 in
set_option maxRecDepth 100000 in
theorem kX6_drawMissing_0 {b : Nat} (hX : jX2 D z A p l s m args meth c yX6_drawMissing cX6_drawMissing 8 wsX6_drawMissing none) {Q : Unit → jM → Prop}  {x1 : Option Nat} {μ : jM} {H : Heap} {locs : List Loc} {ls : Array Slot} {cells slots : Nat} (hw : wX6_drawMissing_0 z b Q x1 μ) (hI : jIz D z A s.heap μ H locs) (hl : lv_has ls 8 [(0, va_rf (some b)), (1, va_rf x1)]) (hcn : cells + 0 ≤ 0) (hsn : slots + 0 ≤ 0) : W p l e rmX6_drawMissing s m args below meth c H locs cells slots (MQ below (jRz jfV Q D z A) args s 0 0 A) (F0 m 0 ls []) := by
  unfold wX6_drawMissing_0 at hw
  obtain ⟨hx, hb, hml, hown, hts, hr, hlocks, hnm, hK, hG, hfl⟩ := id hX
  have hown : s.vm.findClass RX6 = some m.cls := hown
  refine lv_iconst (v := (0)) hx hb dX6_drawMissing_0 (by decide) ?_
  refine lv_topi (fun v1 ev1 => ?_)
  have hw := hw v1 ev1
  refine j_istore_nA (r := x1) (F := fun w => [(0, va_rf (some b)), (1, w)]) (F2 := fun w => [(2, .int v1), (0, va_rf (some b)), (1, w)]) hx hb dX6_drawMissing_1 rfl hl (by decide) (fun w hw => by rcases hw with rfl | ⟨_, rfl⟩ <;> rfl) (fun ls hl => ?_)
  obtain ⟨n2, hw⟩ := hw
  exact kX6_drawMissing_2 hX  n2 hw hI (lv_sub hl [1, 2, 0] rfl) (by omega) (by omega)
set_option maxHeartbeats 4000000 in
set_option maxRecDepth 100000 in
theorem kX6_drawMissing (l : Launch) (hfl : l.stackTraces = false) (D : jD) (z : Nat × Nat) (b : Nat) (x1 : Option Nat) (μ : jM) (sz : Nat) (Q : Unit → jM → Prop) : Met l yX6_drawMissing wsX6_drawMissing rmX6_drawMissing (jPre2z D z μ sz [.ref b, va_rf x1] (wX6_drawMissing z b x1 μ Q)) (jRz jfV Q D z (jA z μ sz)) 0 0 (jA z μ sz) := by
  refine Met.ofW (cc := cX6_drawMissing) (maxL := 8) (ret := none) (by decide) rfl ?_
  intro p e s m args below meth c s₁ B hml hv
  obtain ⟨rfl, hsz, hH, hz0, hK, hG, hw⟩ := hv
  subst hsz
  have hX : jX2 D z (jA z μ s.heap.size) p l s m _ meth c yX6_drawMissing cX6_drawMissing 8 wsX6_drawMissing none := ⟨B.exec, B.bytes, hml, findClass_of_methodNamed B.named, atoms_spec (ws := wsX6_drawMissing) B.pre, B.returns, B.notSynchronized, (name_of_methodNamed B.named B.method).1, hK, hG, hfl⟩
  obtain ⟨ls, hg, hl⟩ : ∃ ls : Array Slot, entryFrame m ([.ref b, va_rf x1] : List Value).toArray 8 = F0 m 0 ls [] ∧ lv_has ls 8 [(0, va_rf (some b)), (1, va_rf x1)] := by
    cases x1 <;> exact ⟨_, lg_entry_eq .., lv_entry _ (n := 8) (Nat.le_of_ble_eq_true rfl)⟩
  rw [hg]
  exact kX6_drawMissing_0 hX hw (jIz.start hH hz0) (lv_sub hl [0, 1] rfl) (by decide) (by decide)
set_option maxHeartbeats 4000000 in
set_option maxRecDepth 100000 in
theorem kX6_payBack_10 {b : Nat} (hX : jX2 D z A p l s m args meth c yX6_payBack cX6_payBack 6 wsX6_payBack none) {Q : Unit → jM → Prop}  (n : Nat) : ∀ {x1 : Option Nat} {x2 : Int32} {μ : jM} {H : Heap} {locs : List Loc} {ls : Array Slot} {cells slots : Nat}, wX6_payBack_10 z b Q n x1 x2 μ → jIz D z A s.heap μ H locs → lv_has ls 6 [(0, va_rf (some b)), (1, va_rf x1), (2, .int x2)] → cells + 0 ≤ 0 → slots + 0 ≤ 0 → W p l e rmX6_payBack s m args below meth c H locs cells slots (MQ below (jRz jfV Q D z A) args s 0 0 A) (F0 m 10 ls []) := by
  induction n with
  | zero =>
    intros
    rename_i hw _ _ _ _
    exact (show False from hw).elim
  | succ n ih =>
    intro x1 x2 μ H locs ls cells slots hw hI hl hcn hsn
    have hw : wX6_payBack_10_b z b Q (wX6_payBack_10 z b Q n) x1 x2 μ := hw
    unfold wX6_payBack_10_b at hw
    obtain ⟨hx, hb, hml, hown, hts, hr, hlocks, hnm, hK, hG, hfl⟩ := id hX
    have hown : s.vm.findClass RX6 = some m.cls := hown
    have hfX0 : ∀ w ∈ wsX00, w.before args s = true := fun w h => hts w (List.mem_cons_of_mem _ (List.mem_append_left _ (List.mem_append_left _ (List.mem_append_right _ h))))
    have hfX5 : ∀ w ∈ wsX50, w.before args s = true := fun w h => hts w (List.mem_cons_of_mem _ (List.mem_append_left _ (List.mem_append_right _ h)))
    have hfX6 : ∀ w ∈ wsX60, w.before args s = true := fun w h => hts w (List.mem_cons_of_mem _ (List.mem_append_left _ (List.mem_append_left _ (List.mem_append_left _ (List.mem_append_right _ h)))))
    refine lv_iload_n hx hb dX6_payBack_10 rfl (lv_at hl 2 rfl) ?_
    refine lv_if_lt (tgt := 71) hx hb dX6_payBack_11 (by decide) (fun hc => ?_) (fun hc => ?_)
    · have hw := hw.1 hc
      exact j_vretz hx hb hr hlocks hI hw (by omega) (by omega) dX6_payBack_71
    · have hw := hw.2 hc
      refine j_aload_n (r := (some b)) hx hb dX6_payBack_14 rfl (lv_at hl 0 rfl) ?_
      obtain ⟨v1, hv1, hw⟩ := hw
      refine j_getz (C := RX6) (T := TX6) (N := 5) (ci := 9) (r := (some b)) (v := va_rf v1) hx hb hfX6 hown hK hI rfl 4 (by decide) (hts (.fieldLink RX6 16 "CashPools$Pool" "ranked" "Ljava/util/ArrayList;") (List.mem_of_getElem? (i := 1) (by decide +kernel))) (fun _ h => h) hv1 dX6_payBack_15 ?_
      refine lv_iload_n hx hb dX6_payBack_18 rfl (lv_at hl 2 rfl) ?_
      obtain ⟨b4, ⟨hrb4, hfs⟩, hw⟩ := hw
      refine j_goz hI (va_runV (As := [.int x2]) (rest := []) ⟨hx, hb, hml, hown, hts⟩ (kJx4a65c_get_915e3 l hfl D z b4 x2 μ H.size _) (cwV 1 hts gX6_payBack_Jx4a65c_get_915e3 rfl rfl rfl (by decide +kernel) ⟨Nat.le_of_ble_eq_true rfl, Nat.le_of_ble_eq_true rfl⟩) (j_prV2z hK hG hI hw (ci := 2) rfl hfs) rfl rfl hl.1 (by rw [hrb4]; rfl) (lv_room (Nat.le_of_ble_eq_true rfl)) dX6_payBack_19 ⟨by show _ ≤ 0; omega, by show _ ≤ 0; omega⟩) (fun v2 μ3 H locs hw hI => ?_)
      refine W.eq (g2 := F0 m 22 ls [va_rf v2]) rfl ?_
      obtain ⟨h5, hw⟩ := hw
      refine j_castz (C := RX5) (T := TX5) (N := 9) (ci := 8) (r := v2) hx hb hown (hts (.classLink RX6 43 "CashPools$Line") (List.mem_of_getElem? (i := 2) (by decide +kernel))) hK hI rfl h5 dX6_payBack_22 ?_
      refine j_astore_n (r := v2) (lv' := [(3, va_rf v2), (0, va_rf (some b)), (1, va_rf x1), (2, .int x2)]) hx hb dX6_payBack_25 rfl hl (by decide) rfl (fun ls hl => ?_)
      refine j_aload_n (r := x1) hx hb dX6_payBack_26 rfl (lv_at hl 2 rfl) ?_
      obtain ⟨v6, hv6, hw⟩ := hw
      refine j_getz (C := RX0) (T := TX0) (N := 12) (ci := 3) (r := x1) (v := .long v6) hx hb hfX0 hown hK hI rfl 8 (by decide) (hts (.fieldLink RX6 52 "CashPools$Account" "cash" "J") (List.mem_of_getElem? (i := 3) (by decide +kernel))) (fun _ h => h) hv6 dX6_payBack_27 ?_
      refine lv_lconst (v := (0)) hx hb dX6_payBack_30 (by decide) ?_
      refine va_mmax_long hx hb (by rw [hml]; exact hl.1.symm) hown (hts (.methodLink RX6 58 Lib.MathLoose.max_long.x) (List.mem_of_getElem? (i := 4) (by decide +kernel))) (hts (.static Lib.MathLoose.max_long.x) (List.mem_of_getElem? (i := 5) (by decide +kernel))) (hts (.initialized "java/lang/Math") (List.mem_of_getElem? (i := 6) (by decide +kernel))) (hts (.code Lib.MathLoose.max_long.x Lib.MathLoose.max_long.code 4 (some .long)) (List.mem_of_getElem? (i := 7) (by decide +kernel))) (Nat.le_of_ble_eq_true rfl) (Nat.le_of_ble_eq_true rfl) (by show _ ≤ 0; omega) (by show _ ≤ 0; omega) dX6_payBack_31 ?_
      refine j_aload_n (r := v2) hx hb dX6_payBack_34 rfl (lv_at hl 0 rfl) ?_
      obtain ⟨v7, hv7, hw⟩ := hw
      refine j_getz (C := RX5) (T := TX5) (N := 9) (ci := 8) (r := v2) (v := .long v7) hx hb hfX5 hown hK hI rfl 3 (by decide) (hts (.fieldLink RX6 67 "CashPools$Line" "used" "J") (List.mem_of_getElem? (i := 8) (by decide +kernel))) (fun _ h => h) hv7 dX6_payBack_35 ?_
      refine va_mmin_long hx hb (by rw [hml]; exact hl.1.symm) hown (hts (.methodLink RX6 70 Lib.MathLoose.min_long.x) (List.mem_of_getElem? (i := 9) (by decide +kernel))) (hts (.static Lib.MathLoose.min_long.x) (List.mem_of_getElem? (i := 10) (by decide +kernel))) (hts (.initialized "java/lang/Math") (List.mem_of_getElem? (i := 6) (by decide +kernel))) (hts (.code Lib.MathLoose.min_long.x Lib.MathLoose.min_long.code 4 (some .long)) (List.mem_of_getElem? (i := 11) (by decide +kernel))) (Nat.le_of_ble_eq_true rfl) (Nat.le_of_ble_eq_true rfl) (by show _ ≤ 0; omega) (by show _ ≤ 0; omega) dX6_payBack_38 ?_
      refine lv_topl (fun v8 ev8 => ?_)
      have hw := hw v8 ev8
      refine j_lstoreA (r := v2) (F := fun w => [(3, w), (0, va_rf (some b)), (1, va_rf x1), (2, .int x2)]) (F2 := fun w => [(4, .long v8), (3, w), (0, va_rf (some b)), (1, va_rf x1), (2, .int x2)]) hx hb dX6_payBack_41 hl (by decide) (fun w hw => by rcases hw with rfl | ⟨_, rfl⟩ <;> rfl) (fun ls hl => ?_)
      refine j_aload_n (r := v2) hx hb dX6_payBack_43 rfl (lv_at hl 1 rfl) ?_
      refine lv_dup hx hb dX6_payBack_44 (jrc v2) ?_
      obtain ⟨v9, hv9, hw⟩ := hw
      refine j_getz (C := RX5) (T := TX5) (N := 9) (ci := 8) (r := v2) (v := .long v9) hx hb hfX5 hown hK hI rfl 3 (by decide) (hts (.fieldLink RX6 67 "CashPools$Line" "used" "J") (List.mem_of_getElem? (i := 8) (by decide +kernel))) (fun _ h => h) hv9 dX6_payBack_45 ?_
      refine lv_lload hx hb dX6_payBack_48 (lv_at hl 0 rfl) ?_
      refine lv_lsub hx hb dX6_payBack_50 ?_
      obtain ⟨μ10, hμ10, hw⟩ := hw
      refine j_putz (C := RX5) (T := TX5) (N := 9) (ci := 8) (r := v2) (v := .long (v9 - v8)) hx hb hfX5 tyX5 tyX5_ok nmX5 hown hK hI rfl 3 (by decide) (hts (.fieldLink RX6 67 "CashPools$Line" "used" "J") (List.mem_of_getElem? (i := 8) (by decide +kernel))) (fun _ h => h) rfl (tyX5_ok 3 (by decide)) rfl rfl hμ10 dX6_payBack_51 (fun H locs hI => ?_)
      refine j_aload_n (r := x1) hx hb dX6_payBack_54 rfl (lv_at hl 3 rfl) ?_
      refine lv_dup hx hb dX6_payBack_55 (jrc x1) ?_
      obtain ⟨v11, hv11, hw⟩ := hw
      refine j_getz (C := RX0) (T := TX0) (N := 12) (ci := 3) (r := x1) (v := .long v11) hx hb hfX0 hown hK hI rfl 8 (by decide) (hts (.fieldLink RX6 52 "CashPools$Account" "cash" "J") (List.mem_of_getElem? (i := 3) (by decide +kernel))) (fun _ h => h) hv11 dX6_payBack_56 ?_
      refine lv_lload hx hb dX6_payBack_59 (lv_at hl 0 rfl) ?_
      refine lv_lsub hx hb dX6_payBack_61 ?_
      obtain ⟨μ12, hμ12, hw⟩ := hw
      refine j_putz (C := RX0) (T := TX0) (N := 12) (ci := 3) (r := x1) (v := .long (v11 - v8)) hx hb hfX0 tyX0 tyX0_ok nmX0 hown hK hI rfl 8 (by decide) (hts (.fieldLink RX6 52 "CashPools$Account" "cash" "J") (List.mem_of_getElem? (i := 3) (by decide +kernel))) (fun _ h => h) rfl (tyX0_ok 8 (by decide)) rfl rfl hμ12 dX6_payBack_62 (fun H locs hI => ?_)
      obtain ⟨v13, ev13⟩ : ∃ y : Int32, y = x2 + (-1 : Int32) := ⟨_, rfl⟩
      have hw := hw v13 ev13
      refine j_iincA (r := x1) (F := fun w => [(4, .long v8), (3, va_rf v2), (0, va_rf (some b)), (1, w), (2, .int x2)]) (F2 := fun w => [(2, .int v13), (4, .long v8), (3, va_rf v2), (0, va_rf (some b)), (1, w)]) (v := v13) hx hb dX6_payBack_65 hl (k := 4) (fun _ => rfl) (by rw [ev13]; rfl) (by decide) (fun w hw => by rcases hw with rfl | ⟨_, rfl⟩ <;> rfl) (fun ls hl => ?_)
      refine lv_goto (tgt := 10) hx hb dX6_payBack_68 (by decide) ?_
      exact ih hw hI (lv_sub hl [3, 4, 0] rfl) (by omega) (by omega)
set_option maxHeartbeats 4000000 in
set_option maxRecDepth 100000 in
theorem kX6_payBack_0 {b : Nat} (hX : jX2 D z A p l s m args meth c yX6_payBack cX6_payBack 6 wsX6_payBack none) {Q : Unit → jM → Prop}  {x1 : Option Nat} {μ : jM} {H : Heap} {locs : List Loc} {ls : Array Slot} {cells slots : Nat} (hw : wX6_payBack_0 z b Q x1 μ) (hI : jIz D z A s.heap μ H locs) (hl : lv_has ls 6 [(0, va_rf (some b)), (1, va_rf x1)]) (hcn : cells + 0 ≤ 0) (hsn : slots + 0 ≤ 0) : W p l e rmX6_payBack s m args below meth c H locs cells slots (MQ below (jRz jfV Q D z A) args s 0 0 A) (F0 m 0 ls []) := by
  unfold wX6_payBack_0 at hw
  obtain ⟨hx, hb, hml, hown, hts, hr, hlocks, hnm, hK, hG, hfl⟩ := id hX
  have hown : s.vm.findClass RX6 = some m.cls := hown
  have hfX6 : ∀ w ∈ wsX60, w.before args s = true := fun w h => hts w (List.mem_cons_of_mem _ (List.mem_append_left _ (List.mem_append_left _ (List.mem_append_left _ (List.mem_append_right _ h)))))
  refine j_aload_n (r := (some b)) hx hb dX6_payBack_0 rfl (lv_at hl 0 rfl) ?_
  obtain ⟨v1, hv1, hw⟩ := hw
  refine j_getz (C := RX6) (T := TX6) (N := 5) (ci := 9) (r := (some b)) (v := va_rf v1) hx hb hfX6 hown hK hI rfl 4 (by decide) (hts (.fieldLink RX6 16 "CashPools$Pool" "ranked" "Ljava/util/ArrayList;") (List.mem_of_getElem? (i := 1) (by decide +kernel))) (fun _ h => h) hv1 dX6_payBack_1 ?_
  obtain ⟨b4, ⟨hrb4, hfs⟩, hw⟩ := hw
  refine j_goz hI (va_runV (As := []) (rest := []) ⟨hx, hb, hml, hown, hts⟩ (kJx4a65c_size_8abf5 l hfl D z b4  μ H.size _) (cwV 0 hts gX6_payBack_Jx4a65c_size_8abf5 rfl rfl rfl (by decide +kernel) ⟨Nat.le_of_ble_eq_true rfl, Nat.le_of_ble_eq_true rfl⟩) (j_prV2z hK hG hI hw (ci := 2) rfl hfs) rfl rfl hl.1 (by rw [hrb4]; rfl) (lv_room (Nat.le_of_ble_eq_true rfl)) dX6_payBack_4 ⟨by show _ ≤ 0; omega, by show _ ≤ 0; omega⟩) (fun v2 μ3 H locs hw hI => ?_)
  refine W.eq (g2 := F0 m 7 ls [.int v2]) rfl ?_
  refine lv_iconst (v := (1)) hx hb dX6_payBack_7 (by decide) ?_
  refine lv_isub hx hb dX6_payBack_8 ?_
  refine lv_topi (fun v5 ev5 => ?_)
  have hw := hw v5 ev5
  refine j_istore_nA (r := x1) (F := fun w => [(0, va_rf (some b)), (1, w)]) (F2 := fun w => [(2, .int v5), (0, va_rf (some b)), (1, w)]) hx hb dX6_payBack_9 rfl hl (by decide) (fun w hw => by rcases hw with rfl | ⟨_, rfl⟩ <;> rfl) (fun ls hl => ?_)
  obtain ⟨n6, hw⟩ := hw
  exact kX6_payBack_10 hX  n6 hw hI (lv_sub hl [1, 2, 0] rfl) (by omega) (by omega)
set_option maxHeartbeats 4000000 in
set_option maxRecDepth 100000 in
theorem kX6_payBack (l : Launch) (hfl : l.stackTraces = false) (D : jD) (z : Nat × Nat) (b : Nat) (x1 : Option Nat) (μ : jM) (sz : Nat) (Q : Unit → jM → Prop) : Met l yX6_payBack wsX6_payBack rmX6_payBack (jPre2z D z μ sz [.ref b, va_rf x1] (wX6_payBack z b x1 μ Q)) (jRz jfV Q D z (jA z μ sz)) 0 0 (jA z μ sz) := by
  refine Met.ofW (cc := cX6_payBack) (maxL := 6) (ret := none) (by decide) rfl ?_
  intro p e s m args below meth c s₁ B hml hv
  obtain ⟨rfl, hsz, hH, hz0, hK, hG, hw⟩ := hv
  subst hsz
  have hX : jX2 D z (jA z μ s.heap.size) p l s m _ meth c yX6_payBack cX6_payBack 6 wsX6_payBack none := ⟨B.exec, B.bytes, hml, findClass_of_methodNamed B.named, atoms_spec (ws := wsX6_payBack) B.pre, B.returns, B.notSynchronized, (name_of_methodNamed B.named B.method).1, hK, hG, hfl⟩
  obtain ⟨ls, hg, hl⟩ : ∃ ls : Array Slot, entryFrame m ([.ref b, va_rf x1] : List Value).toArray 6 = F0 m 0 ls [] ∧ lv_has ls 6 [(0, va_rf (some b)), (1, va_rf x1)] := by
    cases x1 <;> exact ⟨_, lg_entry_eq .., lv_entry _ (n := 6) (Nat.le_of_ble_eq_true rfl)⟩
  rw [hg]
  exact kX6_payBack_0 hX hw (jIz.start hH hz0) (lv_sub hl [0, 1] rfl) (by decide) (by decide)
set_option maxHeartbeats 4000000 in
set_option maxRecDepth 100000 in
theorem kX3_coverPools_2 {b : Nat} (hX : jX2 D z A p l s m args meth c yX3_coverPools cX3_coverPools 3 wsX3_coverPools none) {Q : Unit → jM → Prop}  (n : Nat) : ∀ {x1 : Int32} {μ : jM} {H : Heap} {locs : List Loc} {ls : Array Slot} {cells slots : Nat}, wX3_coverPools_2 z b Q n x1 μ → jIz D z A s.heap μ H locs → lv_has ls 3 [(0, va_rf (some b)), (1, .int x1)] → cells + 0 ≤ 0 → slots + 0 ≤ 0 → W p l e rmX3_coverPools s m args below meth c H locs cells slots (MQ below (jRz jfV Q D z A) args s 0 0 A) (F0 m 2 ls []) := by
  induction n with
  | zero =>
    intros
    rename_i hw _ _ _ _
    exact (show False from hw).elim
  | succ n ih =>
    intro x1 μ H locs ls cells slots hw hI hl hcn hsn
    have hw : wX3_coverPools_2_b z b Q (wX3_coverPools_2 z b Q n) x1 μ := hw
    unfold wX3_coverPools_2_b at hw
    obtain ⟨hx, hb, hml, hown, hts, hr, hlocks, hnm, hK, hG, hfl⟩ := id hX
    have hown : s.vm.findClass RX3 = some m.cls := hown
    have hfX0 : ∀ w ∈ wsX00, w.before args s = true := fun w h => hts w (List.mem_cons_of_mem _ (List.mem_append_left _ (List.mem_append_left _ (List.mem_append_left _ (List.mem_append_right _ h)))))
    have hfX3 : ∀ w ∈ wsX30, w.before args s = true := fun w h => hts w (List.mem_cons_of_mem _ (List.mem_append_left _ (List.mem_append_left _ (List.mem_append_left _ (List.mem_append_left _ (List.mem_append_right _ h))))))
    refine lv_iload_n hx hb dX3_coverPools_2 rfl (lv_at hl 1 rfl) ?_
    refine j_aload_n (r := (some b)) hx hb dX3_coverPools_3 rfl (lv_at hl 0 rfl) ?_
    obtain ⟨v1, hv1, hw⟩ := hw
    refine j_getz (C := RX3) (T := TX3) (N := 8) (ci := 6) (r := (some b)) (v := va_rf v1) hx hb hfX3 hown hK hI rfl 1 (by decide) (hts (.fieldLink RX3 18 "CashPools$Desk" "tops" "Ljava/util/ArrayList;") (List.mem_of_getElem? (i := 1) (by decide +kernel))) (fun _ h => h) hv1 dX3_coverPools_4 ?_
    obtain ⟨b4, ⟨hrb4, hfs⟩, hw⟩ := hw
    refine j_goz hI (va_runV (As := []) (rest := [.int x1]) ⟨hx, hb, hml, hown, hts⟩ (kJx4a65c_size_8abf5 l hfl D z b4  μ H.size _) (cwV 0 hts gX3_coverPools_Jx4a65c_size_8abf5 rfl rfl rfl (by decide +kernel) ⟨Nat.le_of_ble_eq_true rfl, Nat.le_of_ble_eq_true rfl⟩) (j_prV2z hK hG hI hw (ci := 2) rfl hfs) rfl rfl hl.1 (by rw [hrb4]; rfl) (lv_room (Nat.le_of_ble_eq_true rfl)) dX3_coverPools_7 ⟨by show _ ≤ 0; omega, by show _ ≤ 0; omega⟩) (fun v2 μ3 H locs hw hI => ?_)
    refine W.eq (g2 := F0 m 10 ls [.int v2, .int x1]) rfl ?_
    refine lv_icmp_ge (tgt := 47) hx hb dX3_coverPools_10 (by decide) (fun hc => ?_) (fun hc => ?_)
    · have hw := hw.1 hc
      exact j_vretz hx hb hr hlocks hI hw (by omega) (by omega) dX3_coverPools_47
    · have hw := hw.2 hc
      refine j_aload_n (r := (some b)) hx hb dX3_coverPools_13 rfl (lv_at hl 0 rfl) ?_
      obtain ⟨v5, hv5, hw⟩ := hw
      refine j_getz (C := RX3) (T := TX3) (N := 8) (ci := 6) (r := (some b)) (v := va_rf v5) hx hb hfX3 hown hK hI rfl 1 (by decide) (hts (.fieldLink RX3 18 "CashPools$Desk" "tops" "Ljava/util/ArrayList;") (List.mem_of_getElem? (i := 1) (by decide +kernel))) (fun _ h => h) hv5 dX3_coverPools_14 ?_
      refine lv_iload_n hx hb dX3_coverPools_17 rfl (lv_at hl 1 rfl) ?_
      obtain ⟨b8, ⟨hrb8, hfs⟩, hw⟩ := hw
      refine j_goz hI (va_runV (As := [.int x1]) (rest := []) ⟨hx, hb, hml, hown, hts⟩ (kJx4a65c_get_915e3 l hfl D z b8 x1 μ3 H.size _) (cwV 1 hts gX3_coverPools_Jx4a65c_get_915e3 rfl rfl rfl (by decide +kernel) ⟨Nat.le_of_ble_eq_true rfl, Nat.le_of_ble_eq_true rfl⟩) (j_prV2z hK hG hI hw (ci := 2) rfl hfs) rfl rfl hl.1 (by rw [hrb8]; rfl) (lv_room (Nat.le_of_ble_eq_true rfl)) dX3_coverPools_18 ⟨by show _ ≤ 0; omega, by show _ ≤ 0; omega⟩) (fun v6 μ7 H locs hw hI => ?_)
      refine W.eq (g2 := F0 m 21 ls [va_rf v6]) rfl ?_
      obtain ⟨h9, hw⟩ := hw
      refine j_castz (C := RX0) (T := TX0) (N := 12) (ci := 3) (r := v6) hx hb hown (hts (.classLink RX3 55 "CashPools$Account") (List.mem_of_getElem? (i := 2) (by decide +kernel))) hK hI rfl h9 dX3_coverPools_21 ?_
      refine j_astore_n (r := v6) (lv' := [(2, va_rf v6), (0, va_rf (some b)), (1, .int x1)]) hx hb dX3_coverPools_24 rfl hl (by decide) rfl (fun ls hl => ?_)
      refine j_aload_n (r := v6) hx hb dX3_coverPools_25 rfl (lv_at hl 0 rfl) ?_
      obtain ⟨v10, hv10, hw⟩ := hw
      refine j_getz (C := RX0) (T := TX0) (N := 12) (ci := 3) (r := v6) (v := va_rf v10) hx hb hfX0 hown hK hI rfl 2 (by decide) (hts (.fieldLink RX3 64 "CashPools$Account" "pool" "LCashPools$Pool;") (List.mem_of_getElem? (i := 3) (by decide +kernel))) (fun _ h => h) hv10 dX3_coverPools_26 ?_
      refine j_aload_n (r := v6) hx hb dX3_coverPools_29 rfl (lv_at hl 0 rfl) ?_
      obtain ⟨b13, ⟨hrb13, hfs⟩, hw⟩ := hw
      refine j_goz hI (va_runV (As := [va_rf v6]) (rest := []) ⟨hx, hb, hml, hown, hts⟩ (kX6_drawMissing l hfl D z b13 v6 μ7 H.size _) (cwV 1 hts gX3_coverPools_X6_drawMissing rfl rfl rfl (by decide +kernel) ⟨Nat.le_of_ble_eq_true rfl, Nat.le_of_ble_eq_true rfl⟩) (j_prV2z hK hG hI hw (ci := 9) rfl hfs) rfl rfl hl.1 (by rw [hrb13]; rfl) (lv_room (Nat.le_of_ble_eq_true rfl)) dX3_coverPools_30 ⟨by show _ ≤ 0; omega, by show _ ≤ 0; omega⟩) (fun u11 μ12 H locs hw hI => ?_)
      refine W.eq (g2 := F0 m 33 ls []) rfl ?_
      refine j_aload_n (r := v6) hx hb dX3_coverPools_33 rfl (lv_at hl 0 rfl) ?_
      obtain ⟨v14, hv14, hw⟩ := hw
      refine j_getz (C := RX0) (T := TX0) (N := 12) (ci := 3) (r := v6) (v := va_rf v14) hx hb hfX0 hown hK hI rfl 2 (by decide) (hts (.fieldLink RX3 64 "CashPools$Account" "pool" "LCashPools$Pool;") (List.mem_of_getElem? (i := 3) (by decide +kernel))) (fun _ h => h) hv14 dX3_coverPools_34 ?_
      refine j_aload_n (r := v6) hx hb dX3_coverPools_37 rfl (lv_at hl 0 rfl) ?_
      obtain ⟨b17, ⟨hrb17, hfs⟩, hw⟩ := hw
      refine j_goz hI (va_runV (As := [va_rf v6]) (rest := []) ⟨hx, hb, hml, hown, hts⟩ (kX6_payBack l hfl D z b17 v6 μ12 H.size _) (cwV 1 hts gX3_coverPools_X6_payBack rfl rfl rfl (by decide +kernel) ⟨Nat.le_of_ble_eq_true rfl, Nat.le_of_ble_eq_true rfl⟩) (j_prV2z hK hG hI hw (ci := 9) rfl hfs) rfl rfl hl.1 (by rw [hrb17]; rfl) (lv_room (Nat.le_of_ble_eq_true rfl)) dX3_coverPools_38 ⟨by show _ ≤ 0; omega, by show _ ≤ 0; omega⟩) (fun u15 μ16 H locs hw hI => ?_)
      refine W.eq (g2 := F0 m 41 ls []) rfl ?_
      obtain ⟨v18, ev18⟩ : ∃ y : Int32, y = x1 + (1 : Int32) := ⟨_, rfl⟩
      have hw := hw v18 ev18
      refine lv_iinc (v := v18) (lv' := [(1, .int v18), (2, va_rf v6), (0, va_rf (some b))]) hx hb dX3_coverPools_41 hl (k := 2) rfl (by rw [ev18]; rfl) (by decide) rfl (fun ls hl => ?_)
      refine lv_goto (tgt := 2) hx hb dX3_coverPools_44 (by decide) ?_
      exact ih hw hI (lv_sub hl [2, 0] rfl) (by omega) (by omega)
set_option maxHeartbeats 4000000 in
set_option maxRecDepth 100000 in
theorem kX3_coverPools_0 {b : Nat} (hX : jX2 D z A p l s m args meth c yX3_coverPools cX3_coverPools 3 wsX3_coverPools none) {Q : Unit → jM → Prop}   {μ : jM} {H : Heap} {locs : List Loc} {ls : Array Slot} {cells slots : Nat} (hw : wX3_coverPools_0 z b Q  μ) (hI : jIz D z A s.heap μ H locs) (hl : lv_has ls 3 [(0, va_rf (some b))]) (hcn : cells + 0 ≤ 0) (hsn : slots + 0 ≤ 0) : W p l e rmX3_coverPools s m args below meth c H locs cells slots (MQ below (jRz jfV Q D z A) args s 0 0 A) (F0 m 0 ls []) := by
  unfold wX3_coverPools_0 at hw
  obtain ⟨hx, hb, hml, hown, hts, hr, hlocks, hnm, hK, hG, hfl⟩ := id hX
  have hown : s.vm.findClass RX3 = some m.cls := hown
  refine lv_iconst (v := (0)) hx hb dX3_coverPools_0 (by decide) ?_
  refine lv_topi (fun v1 ev1 => ?_)
  have hw := hw v1 ev1
  refine lv_istore_n (lv' := [(1, .int v1), (0, va_rf (some b))]) hx hb dX3_coverPools_1 rfl hl (by decide) rfl (fun ls hl => ?_)
  obtain ⟨n2, hw⟩ := hw
  exact kX3_coverPools_2 hX  n2 hw hI (lv_sub hl [1, 0] rfl) (by omega) (by omega)
set_option maxHeartbeats 4000000 in
set_option maxRecDepth 100000 in
theorem kX3_coverPools (l : Launch) (hfl : l.stackTraces = false) (D : jD) (z : Nat × Nat) (b : Nat)  (μ : jM) (sz : Nat) (Q : Unit → jM → Prop) : Met l yX3_coverPools wsX3_coverPools rmX3_coverPools (jPre2z D z μ sz [.ref b] (wX3_coverPools z b  μ Q)) (jRz jfV Q D z (jA z μ sz)) 0 0 (jA z μ sz) := by
  refine Met.ofW (cc := cX3_coverPools) (maxL := 3) (ret := none) (by decide) rfl ?_
  intro p e s m args below meth c s₁ B hml hv
  obtain ⟨rfl, hsz, hH, hz0, hK, hG, hw⟩ := hv
  subst hsz
  have hX : jX2 D z (jA z μ s.heap.size) p l s m _ meth c yX3_coverPools cX3_coverPools 3 wsX3_coverPools none := ⟨B.exec, B.bytes, hml, findClass_of_methodNamed B.named, atoms_spec (ws := wsX3_coverPools) B.pre, B.returns, B.notSynchronized, (name_of_methodNamed B.named B.method).1, hK, hG, hfl⟩
  obtain ⟨ls, hg, hl⟩ : ∃ ls : Array Slot, entryFrame m ([.ref b] : List Value).toArray 3 = F0 m 0 ls [] ∧ lv_has ls 3 [(0, va_rf (some b))] := by
    exact ⟨_, lg_entry_eq .., lv_entry _ (n := 3) (Nat.le_of_ble_eq_true rfl)⟩
  rw [hg]
  exact kX3_coverPools_0 hX hw (jIz.start hH hz0) (lv_sub hl [0] rfl) (by decide) (by decide)
set_option maxHeartbeats 4000000 in
set_option maxRecDepth 100000 in
theorem kX3_measureBanks_36 {b : Nat} (hX : jX2 D z A p l s m args meth c yX3_measureBanks cX3_measureBanks 3 wsX3_measureBanks none) {Q : Unit → jM → Prop}  (n : Nat) : ∀ {x1 : Int32} {μ : jM} {H : Heap} {locs : List Loc} {ls : Array Slot} {cells slots : Nat}, wX3_measureBanks_36 z b Q n x1 μ → jIz D z A s.heap μ H locs → lv_has ls 3 [(0, va_rf (some b)), (1, .int x1)] → cells + 0 ≤ 0 → slots + 0 ≤ 0 → W p l e rmX3_measureBanks s m args below meth c H locs cells slots (MQ below (jRz jfV Q D z A) args s 0 0 A) (F0 m 36 ls []) := by
  induction n with
  | zero =>
    intros
    rename_i hw _ _ _ _
    exact (show False from hw).elim
  | succ n ih =>
    intro x1 μ H locs ls cells slots hw hI hl hcn hsn
    have hw : wX3_measureBanks_36_b z b Q (wX3_measureBanks_36 z b Q n) x1 μ := hw
    unfold wX3_measureBanks_36_b at hw
    obtain ⟨hx, hb, hml, hown, hts, hr, hlocks, hnm, hK, hG, hfl⟩ := id hX
    have hown : s.vm.findClass RX3 = some m.cls := hown
    have hfX0 : ∀ w ∈ wsX00, w.before args s = true := fun w h => hts w (List.mem_cons_of_mem _ (List.mem_append_left _ (List.mem_append_right _ h)))
    have hfX1 : ∀ w ∈ wsX10, w.before args s = true := fun w h => hts w (List.mem_cons_of_mem _ (List.mem_append_left _ (List.mem_append_left _ (List.mem_append_right _ h))))
    have hfX3 : ∀ w ∈ wsX30, w.before args s = true := fun w h => hts w (List.mem_cons_of_mem _ (List.mem_append_left _ (List.mem_append_left _ (List.mem_append_left _ (List.mem_append_right _ h)))))
    refine lv_iload_n hx hb dX3_measureBanks_36 rfl (lv_at hl 1 rfl) ?_
    refine j_aload_n (r := (some b)) hx hb dX3_measureBanks_37 rfl (lv_at hl 0 rfl) ?_
    obtain ⟨v1, hv1, hw⟩ := hw
    refine j_getz (C := RX3) (T := TX3) (N := 8) (ci := 6) (r := (some b)) (v := va_rf v1) hx hb hfX3 hown hK hI rfl 0 (by decide) (hts (.fieldLink RX3 12 "CashPools$Desk" "everyAccount" "Ljava/util/ArrayList;") (List.mem_of_getElem? (i := 4) (by decide +kernel))) (fun _ h => h) hv1 dX3_measureBanks_38 ?_
    obtain ⟨b4, ⟨hrb4, hfs⟩, hw⟩ := hw
    refine j_goz hI (va_runV (As := []) (rest := [.int x1]) ⟨hx, hb, hml, hown, hts⟩ (kJx4a65c_size_8abf5 l hfl D z b4  μ H.size _) (cwV 0 hts gX3_measureBanks_Jx4a65c_size_8abf5 rfl rfl rfl (by decide +kernel) ⟨Nat.le_of_ble_eq_true rfl, Nat.le_of_ble_eq_true rfl⟩) (j_prV2z hK hG hI hw (ci := 2) rfl hfs) rfl rfl hl.1 (by rw [hrb4]; rfl) (lv_room (Nat.le_of_ble_eq_true rfl)) dX3_measureBanks_41 ⟨by show _ ≤ 0; omega, by show _ ≤ 0; omega⟩) (fun v2 μ3 H locs hw hI => ?_)
    refine W.eq (g2 := F0 m 44 ls [.int v2, .int x1]) rfl ?_
    refine lv_icmp_ge (tgt := 85) hx hb dX3_measureBanks_44 (by decide) (fun hc => ?_) (fun hc => ?_)
    · have hw := hw.1 hc
      exact j_vretz hx hb hr hlocks hI hw (by omega) (by omega) dX3_measureBanks_85
    · have hw := hw.2 hc
      refine j_aload_n (r := (some b)) hx hb dX3_measureBanks_47 rfl (lv_at hl 0 rfl) ?_
      obtain ⟨v5, hv5, hw⟩ := hw
      refine j_getz (C := RX3) (T := TX3) (N := 8) (ci := 6) (r := (some b)) (v := va_rf v5) hx hb hfX3 hown hK hI rfl 0 (by decide) (hts (.fieldLink RX3 12 "CashPools$Desk" "everyAccount" "Ljava/util/ArrayList;") (List.mem_of_getElem? (i := 4) (by decide +kernel))) (fun _ h => h) hv5 dX3_measureBanks_48 ?_
      refine lv_iload_n hx hb dX3_measureBanks_51 rfl (lv_at hl 1 rfl) ?_
      obtain ⟨b8, ⟨hrb8, hfs⟩, hw⟩ := hw
      refine j_goz hI (va_runV (As := [.int x1]) (rest := []) ⟨hx, hb, hml, hown, hts⟩ (kJx4a65c_get_915e3 l hfl D z b8 x1 μ3 H.size _) (cwV 1 hts gX3_measureBanks_Jx4a65c_get_915e3 rfl rfl rfl (by decide +kernel) ⟨Nat.le_of_ble_eq_true rfl, Nat.le_of_ble_eq_true rfl⟩) (j_prV2z hK hG hI hw (ci := 2) rfl hfs) rfl rfl hl.1 (by rw [hrb8]; rfl) (lv_room (Nat.le_of_ble_eq_true rfl)) dX3_measureBanks_52 ⟨by show _ ≤ 0; omega, by show _ ≤ 0; omega⟩) (fun v6 μ7 H locs hw hI => ?_)
      refine W.eq (g2 := F0 m 55 ls [va_rf v6]) rfl ?_
      obtain ⟨h9, hw⟩ := hw
      refine j_castz (C := RX0) (T := TX0) (N := 12) (ci := 3) (r := v6) hx hb hown (hts (.classLink RX3 55 "CashPools$Account") (List.mem_of_getElem? (i := 5) (by decide +kernel))) hK hI rfl h9 dX3_measureBanks_55 ?_
      refine j_astore_n (r := v6) (lv' := [(2, va_rf v6), (0, va_rf (some b)), (1, .int x1)]) hx hb dX3_measureBanks_58 rfl hl (by decide) rfl (fun ls hl => ?_)
      refine j_aload_n (r := v6) hx hb dX3_measureBanks_59 rfl (lv_at hl 0 rfl) ?_
      obtain ⟨v10, hv10, hw⟩ := hw
      refine j_getz (C := RX0) (T := TX0) (N := 12) (ci := 3) (r := v6) (v := va_rf v10) hx hb hfX0 hown hK hI rfl 3 (by decide) (hts (.fieldLink RX3 145 "CashPools$Account" "bank" "LCashPools$Bank;") (List.mem_of_getElem? (i := 6) (by decide +kernel))) (fun _ h => h) hv10 dX3_measureBanks_60 ?_
      refine lv_dup hx hb dX3_measureBanks_63 (jrc v10) ?_
      obtain ⟨v11, hv11, hw⟩ := hw
      refine j_getz (C := RX1) (T := TX1) (N := 3) (ci := 4) (r := v10) (v := .long v11) hx hb hfX1 hown hK hI rfl 2 (by decide) (hts (.fieldLink RX3 141 "CashPools$Bank" "exposed" "J") (List.mem_of_getElem? (i := 3) (by decide +kernel))) (fun _ h => h) hv11 dX3_measureBanks_64 ?_
      refine j_aload_n (r := v6) hx hb dX3_measureBanks_67 rfl (lv_at hl 0 rfl) ?_
      obtain ⟨v12, hv12, hw⟩ := hw
      refine j_getz (C := RX0) (T := TX0) (N := 12) (ci := 3) (r := v6) (v := .long v12) hx hb hfX0 hown hK hI rfl 8 (by decide) (hts (.fieldLink RX3 149 "CashPools$Account" "cash" "J") (List.mem_of_getElem? (i := 7) (by decide +kernel))) (fun _ h => h) hv12 dX3_measureBanks_68 ?_
      refine lv_lconst (v := (0)) hx hb dX3_measureBanks_71 (by decide) ?_
      refine va_mmax_long hx hb (by rw [hml]; exact hl.1.symm) hown (hts (.methodLink RX3 152 Lib.MathLoose.max_long.x) (List.mem_of_getElem? (i := 8) (by decide +kernel))) (hts (.static Lib.MathLoose.max_long.x) (List.mem_of_getElem? (i := 9) (by decide +kernel))) (hts (.initialized "java/lang/Math") (List.mem_of_getElem? (i := 10) (by decide +kernel))) (hts (.code Lib.MathLoose.max_long.x Lib.MathLoose.max_long.code 4 (some .long)) (List.mem_of_getElem? (i := 11) (by decide +kernel))) (Nat.le_of_ble_eq_true rfl) (by simp only [List.map, List.sum_cons, List.sum_nil, jrc, jci, jcl, jcr, jcn]; exact Nat.le_of_ble_eq_true rfl) (by show _ ≤ 0; omega) (by show _ ≤ 0; omega) dX3_measureBanks_72 ?_
      refine lv_ladd hx hb dX3_measureBanks_75 ?_
      obtain ⟨μ13, hμ13, hw⟩ := hw
      refine j_putz (C := RX1) (T := TX1) (N := 3) (ci := 4) (r := v10) (v := .long (v11 + (if (0 : Int64) < v12 then v12 else (0 : Int64)))) hx hb hfX1 tyX1 tyX1_ok nmX1 hown hK hI rfl 2 (by decide) (hts (.fieldLink RX3 141 "CashPools$Bank" "exposed" "J") (List.mem_of_getElem? (i := 3) (by decide +kernel))) (fun _ h => h) rfl (tyX1_ok 2 (by decide)) rfl rfl hμ13 dX3_measureBanks_76 (fun H locs hI => ?_)
      obtain ⟨v14, ev14⟩ : ∃ y : Int32, y = x1 + (1 : Int32) := ⟨_, rfl⟩
      have hw := hw v14 ev14
      refine lv_iinc (v := v14) (lv' := [(1, .int v14), (2, va_rf v6), (0, va_rf (some b))]) hx hb dX3_measureBanks_79 hl (k := 2) rfl (by rw [ev14]; rfl) (by decide) rfl (fun ls hl => ?_)
      refine lv_goto (tgt := 36) hx hb dX3_measureBanks_82 (by decide) ?_
      exact ih hw hI (lv_sub hl [2, 0] rfl) (by omega) (by omega)
set_option maxHeartbeats 4000000 in
set_option maxRecDepth 100000 in
theorem kX3_measureBanks_2 {b : Nat} (hX : jX2 D z A p l s m args meth c yX3_measureBanks cX3_measureBanks 3 wsX3_measureBanks none) {Q : Unit → jM → Prop}  (n : Nat) : ∀ {x1 : Int32} {μ : jM} {H : Heap} {locs : List Loc} {ls : Array Slot} {cells slots : Nat}, wX3_measureBanks_2 z b Q n x1 μ → jIz D z A s.heap μ H locs → lv_has ls 3 [(0, va_rf (some b)), (1, .int x1)] → cells + 0 ≤ 0 → slots + 0 ≤ 0 → W p l e rmX3_measureBanks s m args below meth c H locs cells slots (MQ below (jRz jfV Q D z A) args s 0 0 A) (F0 m 2 ls []) := by
  induction n with
  | zero =>
    intros
    rename_i hw _ _ _ _
    exact (show False from hw).elim
  | succ n ih =>
    intro x1 μ H locs ls cells slots hw hI hl hcn hsn
    have hw : wX3_measureBanks_2_b z b Q (wX3_measureBanks_2 z b Q n) x1 μ := hw
    unfold wX3_measureBanks_2_b at hw
    obtain ⟨hx, hb, hml, hown, hts, hr, hlocks, hnm, hK, hG, hfl⟩ := id hX
    have hown : s.vm.findClass RX3 = some m.cls := hown
    have hfX1 : ∀ w ∈ wsX10, w.before args s = true := fun w h => hts w (List.mem_cons_of_mem _ (List.mem_append_left _ (List.mem_append_left _ (List.mem_append_right _ h))))
    have hfX3 : ∀ w ∈ wsX30, w.before args s = true := fun w h => hts w (List.mem_cons_of_mem _ (List.mem_append_left _ (List.mem_append_left _ (List.mem_append_left _ (List.mem_append_right _ h)))))
    refine lv_iload_n hx hb dX3_measureBanks_2 rfl (lv_at hl 1 rfl) ?_
    refine j_aload_n (r := (some b)) hx hb dX3_measureBanks_3 rfl (lv_at hl 0 rfl) ?_
    obtain ⟨v1, hv1, hw⟩ := hw
    refine j_getz (C := RX3) (T := TX3) (N := 8) (ci := 6) (r := (some b)) (v := va_rf v1) hx hb hfX3 hown hK hI rfl 4 (by decide) (hts (.fieldLink RX3 27 "CashPools$Desk" "banks" "Ljava/util/ArrayList;") (List.mem_of_getElem? (i := 1) (by decide +kernel))) (fun _ h => h) hv1 dX3_measureBanks_4 ?_
    obtain ⟨b4, ⟨hrb4, hfs⟩, hw⟩ := hw
    refine j_goz hI (va_runV (As := []) (rest := [.int x1]) ⟨hx, hb, hml, hown, hts⟩ (kJx4a65c_size_8abf5 l hfl D z b4  μ H.size _) (cwV 0 hts gX3_measureBanks_Jx4a65c_size_8abf5 rfl rfl rfl (by decide +kernel) ⟨Nat.le_of_ble_eq_true rfl, Nat.le_of_ble_eq_true rfl⟩) (j_prV2z hK hG hI hw (ci := 2) rfl hfs) rfl rfl hl.1 (by rw [hrb4]; rfl) (lv_room (Nat.le_of_ble_eq_true rfl)) dX3_measureBanks_7 ⟨by show _ ≤ 0; omega, by show _ ≤ 0; omega⟩) (fun v2 μ3 H locs hw hI => ?_)
    refine W.eq (g2 := F0 m 10 ls [.int v2, .int x1]) rfl ?_
    refine lv_icmp_ge (tgt := 34) hx hb dX3_measureBanks_10 (by decide) (fun hc => ?_) (fun hc => ?_)
    · have hw := hw.1 hc
      refine lv_iconst (v := (0)) hx hb dX3_measureBanks_34 (by decide) ?_
      refine lv_topi (fun v5 ev5 => ?_)
      have hw := hw v5 ev5
      refine lv_istore_n (lv' := [(1, .int v5), (0, va_rf (some b))]) hx hb dX3_measureBanks_35 rfl hl (by decide) rfl (fun ls hl => ?_)
      obtain ⟨n6, hw⟩ := hw
      exact kX3_measureBanks_36 hX  n6 hw hI (lv_sub hl [1, 0] rfl) (by omega) (by omega)
    · have hw := hw.2 hc
      refine j_aload_n (r := (some b)) hx hb dX3_measureBanks_13 rfl (lv_at hl 0 rfl) ?_
      obtain ⟨v7, hv7, hw⟩ := hw
      refine j_getz (C := RX3) (T := TX3) (N := 8) (ci := 6) (r := (some b)) (v := va_rf v7) hx hb hfX3 hown hK hI rfl 4 (by decide) (hts (.fieldLink RX3 27 "CashPools$Desk" "banks" "Ljava/util/ArrayList;") (List.mem_of_getElem? (i := 1) (by decide +kernel))) (fun _ h => h) hv7 dX3_measureBanks_14 ?_
      refine lv_iload_n hx hb dX3_measureBanks_17 rfl (lv_at hl 1 rfl) ?_
      obtain ⟨b10, ⟨hrb10, hfs⟩, hw⟩ := hw
      refine j_goz hI (va_runV (As := [.int x1]) (rest := []) ⟨hx, hb, hml, hown, hts⟩ (kJx4a65c_get_915e3 l hfl D z b10 x1 μ3 H.size _) (cwV 1 hts gX3_measureBanks_Jx4a65c_get_915e3 rfl rfl rfl (by decide +kernel) ⟨Nat.le_of_ble_eq_true rfl, Nat.le_of_ble_eq_true rfl⟩) (j_prV2z hK hG hI hw (ci := 2) rfl hfs) rfl rfl hl.1 (by rw [hrb10]; rfl) (lv_room (Nat.le_of_ble_eq_true rfl)) dX3_measureBanks_18 ⟨by show _ ≤ 0; omega, by show _ ≤ 0; omega⟩) (fun v8 μ9 H locs hw hI => ?_)
      refine W.eq (g2 := F0 m 21 ls [va_rf v8]) rfl ?_
      obtain ⟨h11, hw⟩ := hw
      refine j_castz (C := RX1) (T := TX1) (N := 3) (ci := 4) (r := v8) hx hb hown (hts (.classLink RX3 37 "CashPools$Bank") (List.mem_of_getElem? (i := 2) (by decide +kernel))) hK hI rfl h11 dX3_measureBanks_21 ?_
      refine lv_lconst (v := (0)) hx hb dX3_measureBanks_24 (by decide) ?_
      obtain ⟨μ12, hμ12, hw⟩ := hw
      refine j_putz (C := RX1) (T := TX1) (N := 3) (ci := 4) (r := v8) (v := .long (0 : Int64)) hx hb hfX1 tyX1 tyX1_ok nmX1 hown hK hI rfl 2 (by decide) (hts (.fieldLink RX3 141 "CashPools$Bank" "exposed" "J") (List.mem_of_getElem? (i := 3) (by decide +kernel))) (fun _ h => h) rfl (tyX1_ok 2 (by decide)) rfl rfl hμ12 dX3_measureBanks_25 (fun H locs hI => ?_)
      obtain ⟨v13, ev13⟩ : ∃ y : Int32, y = x1 + (1 : Int32) := ⟨_, rfl⟩
      have hw := hw v13 ev13
      refine lv_iinc (v := v13) (lv' := [(1, .int v13), (0, va_rf (some b))]) hx hb dX3_measureBanks_28 hl (k := 1) rfl (by rw [ev13]; rfl) (by decide) rfl (fun ls hl => ?_)
      refine lv_goto (tgt := 2) hx hb dX3_measureBanks_31 (by decide) ?_
      exact ih hw hI (lv_sub hl [1, 0] rfl) (by omega) (by omega)
set_option maxHeartbeats 4000000 in
set_option maxRecDepth 100000 in
theorem kX3_measureBanks_0 {b : Nat} (hX : jX2 D z A p l s m args meth c yX3_measureBanks cX3_measureBanks 3 wsX3_measureBanks none) {Q : Unit → jM → Prop}   {μ : jM} {H : Heap} {locs : List Loc} {ls : Array Slot} {cells slots : Nat} (hw : wX3_measureBanks_0 z b Q  μ) (hI : jIz D z A s.heap μ H locs) (hl : lv_has ls 3 [(0, va_rf (some b))]) (hcn : cells + 0 ≤ 0) (hsn : slots + 0 ≤ 0) : W p l e rmX3_measureBanks s m args below meth c H locs cells slots (MQ below (jRz jfV Q D z A) args s 0 0 A) (F0 m 0 ls []) := by
  unfold wX3_measureBanks_0 at hw
  obtain ⟨hx, hb, hml, hown, hts, hr, hlocks, hnm, hK, hG, hfl⟩ := id hX
  have hown : s.vm.findClass RX3 = some m.cls := hown
  refine lv_iconst (v := (0)) hx hb dX3_measureBanks_0 (by decide) ?_
  refine lv_topi (fun v1 ev1 => ?_)
  have hw := hw v1 ev1
  refine lv_istore_n (lv' := [(1, .int v1), (0, va_rf (some b))]) hx hb dX3_measureBanks_1 rfl hl (by decide) rfl (fun ls hl => ?_)
  obtain ⟨n2, hw⟩ := hw
  exact kX3_measureBanks_2 hX  n2 hw hI (lv_sub hl [1, 0] rfl) (by omega) (by omega)
set_option maxHeartbeats 4000000 in
set_option maxRecDepth 100000 in
theorem kX3_measureBanks (l : Launch) (hfl : l.stackTraces = false) (D : jD) (z : Nat × Nat) (b : Nat)  (μ : jM) (sz : Nat) (Q : Unit → jM → Prop) : Met l yX3_measureBanks wsX3_measureBanks rmX3_measureBanks (jPre2z D z μ sz [.ref b] (wX3_measureBanks z b  μ Q)) (jRz jfV Q D z (jA z μ sz)) 0 0 (jA z μ sz) := by
  refine Met.ofW (cc := cX3_measureBanks) (maxL := 3) (ret := none) (by decide) rfl ?_
  intro p e s m args below meth c s₁ B hml hv
  obtain ⟨rfl, hsz, hH, hz0, hK, hG, hw⟩ := hv
  subst hsz
  have hX : jX2 D z (jA z μ s.heap.size) p l s m _ meth c yX3_measureBanks cX3_measureBanks 3 wsX3_measureBanks none := ⟨B.exec, B.bytes, hml, findClass_of_methodNamed B.named, atoms_spec (ws := wsX3_measureBanks) B.pre, B.returns, B.notSynchronized, (name_of_methodNamed B.named B.method).1, hK, hG, hfl⟩
  obtain ⟨ls, hg, hl⟩ : ∃ ls : Array Slot, entryFrame m ([.ref b] : List Value).toArray 3 = F0 m 0 ls [] ∧ lv_has ls 3 [(0, va_rf (some b))] := by
    exact ⟨_, lg_entry_eq .., lv_entry _ (n := 3) (Nat.le_of_ble_eq_true rfl)⟩
  rw [hg]
  exact kX3_measureBanks_0 hX hw (jIz.start hH hz0) (lv_sub hl [0] rfl) (by decide) (by decide)
end
