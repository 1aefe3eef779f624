section
variable {p : Program} {l : Launch} {e : Env} {s : State} {m : MethodId} {args : Array Value} {below : List Frame} {meth : Method} {c : Code} {D : jD} {z : Nat × Nat} {A : Nat → Prop}
set_option maxHeartbeats 4000000 in
set_option maxRecDepth 100000 in
theorem kX10_addLine_60 {b : Nat} (hX : jX2 D z A p l s m args meth c yX10_addLine cX10_addLine 4 wsX10_addLine (some .int)) {Q : Int32 → jM → Prop}  {x1 : Int32} {x2 : Int32} {x3 : Int32} {t0 : Option Nat} {t1 : Int32} {μ : jM} {H : Heap} {locs : List Loc} {ls : Array Slot} {cells slots : Nat} (hw : wX10_addLine_60 z b Q x1 x2 x3 t0 t1 μ) (hI : jIz D z A s.heap μ H locs) (hl : lv_has ls 4 [(0, va_rf (some b)), (1, .int x1), (2, .int x2), (3, .int x3)]) (hcn : cells + 0 ≤ 0) (hsn : slots + 0 ≤ 0) : W p l e rmX10_addLine s m args below meth c H locs cells slots (MQ below (jRz jfI Q D z A) args s 0 0 A) (F0 m 60 ls [.int t1, va_rf t0]) := by
  unfold wX10_addLine_60 at hw
  obtain ⟨hx, hb, hml, hown, hts, hr, hlocks, hnm, hK, hG, hfl⟩ := id hX
  have hown : s.vm.findClass RX10 = some m.cls := hown
  have hfX10 : ∀ w ∈ wsX100, w.before args s = true := fun w h => hts w (List.mem_cons_of_mem _ (List.mem_append_right _ h))
  obtain ⟨b3, ⟨hrb3, hfs⟩, hw⟩ := hw
  refine j_goz hI (va_runV (As := [.int t1]) (rest := []) ⟨hx, hb, hml, hown, hts⟩ (kX10_can l hfl D z b3 t1 μ H.size _) (cwV 1 hts gX10_addLine_X10_can rfl rfl rfl (by decide +kernel) ⟨Nat.le_of_ble_eq_true rfl, Nat.le_of_ble_eq_true rfl⟩) (j_prV2z hK hG hI hw (ci := 12) rfl hfs) rfl rfl hl.1 (by rw [hrb3]; rfl) (lv_room (Nat.le_of_ble_eq_true rfl)) dX10_addLine_60 ⟨by show _ ≤ 0; omega, by show _ ≤ 0; omega⟩) (fun v1 μ2 H locs hw hI => ?_)
  refine W.eq (g2 := F0 m 63 ls [.int v1]) rfl ?_
  refine lv_if_ne (tgt := 68) hx hb dX10_addLine_63 (by decide) (fun hc => ?_) (fun hc => ?_)
  · have hw := hw.1 hc
    refine j_aload_n (r := (some b)) hx hb dX10_addLine_68 rfl (lv_at hl 0 rfl) ?_
    obtain ⟨v4, hv4, hw⟩ := hw
    refine j_getz (C := RX10) (T := TX10) (N := 25) (ci := 12) (r := (some b)) (v := va_rf v4) hx hb hfX10 hown hK hI rfl 13 (by decide) (hts (.fieldLink RX10 41 "CashPoolsModel" "linePool" "[I") (List.mem_of_getElem? (i := 3) (by decide +kernel))) (fun _ h => h) hv4 dX10_addLine_69 ?_
    refine j_aload_n (r := (some b)) hx hb dX10_addLine_72 rfl (lv_at hl 0 rfl) ?_
    obtain ⟨v5, hv5, hw⟩ := hw
    refine j_getz (C := RX10) (T := TX10) (N := 25) (ci := 12) (r := (some b)) (v := .int v5) hx hb hfX10 hown hK hI rfl 1 (by decide) (hts (.fieldLink RX10 106 "CashPoolsModel" "lines" "I") (List.mem_of_getElem? (i := 2) (by decide +kernel))) (fun _ h => h) hv5 dX10_addLine_73 ?_
    refine lv_iload_n hx hb dX10_addLine_76 rfl (lv_at hl 1 rfl) ?_
    obtain ⟨μ6, hμ6, hw⟩ := hw
    refine j_iastz (r := v4) hx hb hK hI hμ6 dX10_addLine_77 (fun H locs hI => ?_)
    refine j_aload_n (r := (some b)) hx hb dX10_addLine_78 rfl (lv_at hl 0 rfl) ?_
    obtain ⟨v7, hv7, hw⟩ := hw
    refine j_getz (C := RX10) (T := TX10) (N := 25) (ci := 12) (r := (some b)) (v := va_rf v7) hx hb hfX10 hown hK hI rfl 14 (by decide) (hts (.fieldLink RX10 44 "CashPoolsModel" "lineLimit" "[I") (List.mem_of_getElem? (i := 4) (by decide +kernel))) (fun _ h => h) hv7 dX10_addLine_79 ?_
    refine j_aload_n (r := (some b)) hx hb dX10_addLine_82 rfl (lv_at hl 0 rfl) ?_
    obtain ⟨v8, hv8, hw⟩ := hw
    refine j_getz (C := RX10) (T := TX10) (N := 25) (ci := 12) (r := (some b)) (v := .int v8) hx hb hfX10 hown hK hI rfl 1 (by decide) (hts (.fieldLink RX10 106 "CashPoolsModel" "lines" "I") (List.mem_of_getElem? (i := 2) (by decide +kernel))) (fun _ h => h) hv8 dX10_addLine_83 ?_
    refine lv_iload_n hx hb dX10_addLine_86 rfl (lv_at hl 2 rfl) ?_
    obtain ⟨μ9, hμ9, hw⟩ := hw
    refine j_iastz (r := v7) hx hb hK hI hμ9 dX10_addLine_87 (fun H locs hI => ?_)
    refine j_aload_n (r := (some b)) hx hb dX10_addLine_88 rfl (lv_at hl 0 rfl) ?_
    obtain ⟨v10, hv10, hw⟩ := hw
    refine j_getz (C := RX10) (T := TX10) (N := 25) (ci := 12) (r := (some b)) (v := va_rf v10) hx hb hfX10 hown hK hI rfl 15 (by decide) (hts (.fieldLink RX10 47 "CashPoolsModel" "lineRate" "[I") (List.mem_of_getElem? (i := 5) (by decide +kernel))) (fun _ h => h) hv10 dX10_addLine_89 ?_
    refine j_aload_n (r := (some b)) hx hb dX10_addLine_92 rfl (lv_at hl 0 rfl) ?_
    obtain ⟨v11, hv11, hw⟩ := hw
    refine j_getz (C := RX10) (T := TX10) (N := 25) (ci := 12) (r := (some b)) (v := .int v11) hx hb hfX10 hown hK hI rfl 1 (by decide) (hts (.fieldLink RX10 106 "CashPoolsModel" "lines" "I") (List.mem_of_getElem? (i := 2) (by decide +kernel))) (fun _ h => h) hv11 dX10_addLine_93 ?_
    refine lv_iload_n hx hb dX10_addLine_96 rfl (lv_at hl 3 rfl) ?_
    obtain ⟨μ12, hμ12, hw⟩ := hw
    refine j_iastz (r := v10) hx hb hK hI hμ12 dX10_addLine_97 (fun H locs hI => ?_)
    refine j_aload_n (r := (some b)) hx hb dX10_addLine_98 rfl (lv_at hl 0 rfl) ?_
    refine lv_dup hx hb dX10_addLine_99 rfl ?_
    obtain ⟨v13, hv13, hw⟩ := hw
    refine j_getz (C := RX10) (T := TX10) (N := 25) (ci := 12) (r := (some b)) (v := .int v13) hx hb hfX10 hown hK hI rfl 1 (by decide) (hts (.fieldLink RX10 106 "CashPoolsModel" "lines" "I") (List.mem_of_getElem? (i := 2) (by decide +kernel))) (fun _ h => h) hv13 dX10_addLine_100 ?_
    refine lv_iconst (v := (1)) hx hb dX10_addLine_103 (by decide) ?_
    refine lv_iadd hx hb dX10_addLine_104 ?_
    obtain ⟨μ14, hμ14, hw⟩ := hw
    refine j_putz (C := RX10) (T := TX10) (N := 25) (ci := 12) (r := (some b)) (v := .int (v13 + (1 : Int32))) hx hb hfX10 tyX10 tyX10_ok nmX10 hown hK hI rfl 1 (by decide) (hts (.fieldLink RX10 106 "CashPoolsModel" "lines" "I") (List.mem_of_getElem? (i := 2) (by decide +kernel))) (fun _ h => h) rfl (tyX10_ok 1 (by decide)) rfl rfl hμ14 dX10_addLine_105 (fun H locs hI => ?_)
    refine j_aload_n (r := (some b)) hx hb dX10_addLine_108 rfl (lv_at hl 0 rfl) ?_
    obtain ⟨v15, hv15, hw⟩ := hw
    refine j_getz (C := RX10) (T := TX10) (N := 25) (ci := 12) (r := (some b)) (v := .int v15) hx hb hfX10 hown hK hI rfl 1 (by decide) (hts (.fieldLink RX10 106 "CashPoolsModel" "lines" "I") (List.mem_of_getElem? (i := 2) (by decide +kernel))) (fun _ h => h) hv15 dX10_addLine_109 ?_
    refine lv_iconst (v := (1)) hx hb dX10_addLine_112 (by decide) ?_
    refine lv_isub hx hb dX10_addLine_113 ?_
    exact j_iretz hx hb hr hlocks hI hw (by omega) (by omega) dX10_addLine_114
  · have hw := hw.2 hc
    refine lv_iconst (v := (0)) hx hb dX10_addLine_66 (by decide) ?_
    exact j_iretz hx hb hr hlocks hI hw (by omega) (by omega) dX10_addLine_67
set_option maxHeartbeats 4000000 in
set_option maxRecDepth 100000 in
theorem kX10_addLine_34 {b : Nat} (hX : jX2 D z A p l s m args meth c yX10_addLine cX10_addLine 4 wsX10_addLine (some .int)) {Q : Int32 → jM → Prop}  {x1 : Int32} {x2 : Int32} {x3 : Int32} {t0 : Option Nat} {μ : jM} {H : Heap} {locs : List Loc} {ls : Array Slot} {cells slots : Nat} (hw : wX10_addLine_34 z b Q x1 x2 x3 t0 μ) (hI : jIz D z A s.heap μ H locs) (hl : lv_has ls 4 [(0, va_rf (some b)), (1, .int x1), (2, .int x2), (3, .int x3)]) (hcn : cells + 0 ≤ 0) (hsn : slots + 0 ≤ 0) : W p l e rmX10_addLine s m args below meth c H locs cells slots (MQ below (jRz jfI Q D z A) args s 0 0 A) (F0 m 34 ls [va_rf t0]) := by
  unfold wX10_addLine_34 at hw
  obtain ⟨hx, hb, hml, hown, hts, hr, hlocks, hnm, hK, hG, hfl⟩ := id hX
  have hown : s.vm.findClass RX10 = some m.cls := hown
  refine lv_iconst (v := (2)) hx hb dX10_addLine_34 (by decide) ?_
  refine lv_goto (tgt := 60) hx hb dX10_addLine_35 (by decide) ?_
  exact kX10_addLine_60 hX  hw hI (lv_sub hl [0, 1, 2, 3] rfl) (by omega) (by omega)
set_option maxHeartbeats 4000000 in
set_option maxRecDepth 100000 in
theorem kX10_addLine_55 {b : Nat} (hX : jX2 D z A p l s m args meth c yX10_addLine cX10_addLine 4 wsX10_addLine (some .int)) {Q : Int32 → jM → Prop}  {x1 : Int32} {x2 : Int32} {x3 : Int32} {t0 : Option Nat} {μ : jM} {H : Heap} {locs : List Loc} {ls : Array Slot} {cells slots : Nat} (hw : wX10_addLine_55 z b Q x1 x2 x3 t0 μ) (hI : jIz D z A s.heap μ H locs) (hl : lv_has ls 4 [(0, va_rf (some b)), (1, .int x1), (2, .int x2), (3, .int x3)]) (hcn : cells + 0 ≤ 0) (hsn : slots + 0 ≤ 0) : W p l e rmX10_addLine s m args below meth c H locs cells slots (MQ below (jRz jfI Q D z A) args s 0 0 A) (F0 m 55 ls [va_rf t0]) := by
  unfold wX10_addLine_55 at hw
  obtain ⟨hx, hb, hml, hown, hts, hr, hlocks, hnm, hK, hG, hfl⟩ := id hX
  have hown : s.vm.findClass RX10 = some m.cls := hown
  refine lv_iconst (v := (3)) hx hb dX10_addLine_55 (by decide) ?_
  refine lv_goto (tgt := 60) hx hb dX10_addLine_56 (by decide) ?_
  exact kX10_addLine_60 hX  hw hI (lv_sub hl [0, 1, 2, 3] rfl) (by omega) (by omega)
set_option maxHeartbeats 4000000 in
set_option maxRecDepth 100000 in
theorem kX10_addLine_0 {b : Nat} (hX : jX2 D z A p l s m args meth c yX10_addLine cX10_addLine 4 wsX10_addLine (some .int)) {Q : Int32 → jM → Prop}  {x1 : Int32} {x2 : Int32} {x3 : Int32} {μ : jM} {H : Heap} {locs : List Loc} {ls : Array Slot} {cells slots : Nat} (hw : wX10_addLine_0 z b Q x1 x2 x3 μ) (hI : jIz D z A s.heap μ H locs) (hl : lv_has ls 4 [(0, va_rf (some b)), (1, .int x1), (2, .int x2), (3, .int x3)]) (hcn : cells + 0 ≤ 0) (hsn : slots + 0 ≤ 0) : W p l e rmX10_addLine s m args below meth c H locs cells slots (MQ below (jRz jfI Q D z A) args s 0 0 A) (F0 m 0 ls []) := by
  unfold wX10_addLine_0 at hw
  obtain ⟨hx, hb, hml, hown, hts, hr, hlocks, hnm, hK, hG, hfl⟩ := id hX
  have hown : s.vm.findClass RX10 = some m.cls := hown
  have hfX10 : ∀ w ∈ wsX100, w.before args s = true := fun w h => hts w (List.mem_cons_of_mem _ (List.mem_append_right _ h))
  refine j_aload_n (r := (some b)) hx hb dX10_addLine_0 rfl (lv_at hl 0 rfl) ?_
  refine j_aload_n (r := (some b)) hx hb dX10_addLine_1 rfl (lv_at hl 0 rfl) ?_
  refine lv_iload_n hx hb dX10_addLine_2 rfl (lv_at hl 1 rfl) ?_
  obtain ⟨hfs, hw⟩ := hw
  refine j_goz hI (va_runV (As := [.int x1]) (rest := [va_rf (some b)]) ⟨hx, hb, hml, hown, hts⟩ (kX10_isAccount l hfl D z b x1 μ H.size _) (cwV 1 hts gX10_addLine_X10_isAccount rfl rfl rfl (by decide +kernel) ⟨Nat.le_of_ble_eq_true rfl, Nat.le_of_ble_eq_true rfl⟩) (j_prV2z hK hG hI hw (ci := 12) rfl hfs) rfl rfl hl.1 rfl (lv_room (Nat.le_of_ble_eq_true rfl)) dX10_addLine_3 ⟨by show _ ≤ 0; omega, by show _ ≤ 0; omega⟩) (fun v1 μ2 H locs hw hI => ?_)
  refine W.eq (g2 := F0 m 6 ls [.int v1, va_rf (some b)]) rfl ?_
  refine lv_if_ne (tgt := 13) hx hb dX10_addLine_6 (by decide) (fun hc => ?_) (fun hc => ?_)
  · have hw := hw.1 hc
    refine lv_iload_n hx hb dX10_addLine_13 rfl (lv_at hl 2 rfl) ?_
    refine lv_iconst (v := (1)) hx hb dX10_addLine_14 (by decide) ?_
    refine lv_ldc (v := (10000000)) hx hb hown (hts (.constant RX10 105 (10000000)) (List.mem_of_getElem? (i := 1) (by decide +kernel))) dX10_addLine_15 ?_
    refine j_goz hI (va_runS (As := [.int x2, .int (1 : Int32), .int (10000000 : Int32)]) (rest := [va_rf (some b)]) ⟨hx, hb, hml, hown, hts⟩ (kX10_isIn l hfl D z x2 (1 : Int32) (10000000 : Int32) μ2 H.size _) (va_cwS 3 hts gX10_addLine_X10_isIn rfl rfl rfl (by decide +kernel) ⟨Nat.le_of_ble_eq_true rfl, Nat.le_of_ble_eq_true rfl⟩) (j_prS2z hK hG hI hw) rfl rfl hl.1 rfl (lv_room (Nat.le_of_ble_eq_true rfl)) dX10_addLine_17 ⟨by show _ ≤ 0; omega, by show _ ≤ 0; omega⟩) (fun v3 μ4 H locs hw hI => ?_)
    refine W.eq (g2 := F0 m 20 ls [.int v3, va_rf (some b)]) rfl ?_
    refine lv_if_eq (tgt := 34) hx hb dX10_addLine_20 (by decide) (fun hc => ?_) (fun hc => ?_)
    · have hw := hw.1 hc
      exact kX10_addLine_34 hX  hw hI (lv_sub hl [0, 1, 2, 3] rfl) (by omega) (by omega)
    · have hw := hw.2 hc
      refine lv_iload_n hx hb dX10_addLine_23 rfl (lv_at hl 3 rfl) ?_
      refine lv_iconst (v := (0)) hx hb dX10_addLine_24 (by decide) ?_
      refine lv_sipush (v := (1000)) hx hb dX10_addLine_25 (by decide) ?_
      refine j_goz hI (va_runS (As := [.int x3, .int (0 : Int32), .int (1000 : Int32)]) (rest := [va_rf (some b)]) ⟨hx, hb, hml, hown, hts⟩ (kX10_isIn l hfl D z x3 (0 : Int32) (1000 : Int32) μ4 H.size _) (va_cwS 3 hts gX10_addLine_X10_isIn rfl rfl rfl (by decide +kernel) ⟨Nat.le_of_ble_eq_true rfl, Nat.le_of_ble_eq_true rfl⟩) (j_prS2z hK hG hI hw) rfl rfl hl.1 rfl (lv_room (Nat.le_of_ble_eq_true rfl)) dX10_addLine_28 ⟨by show _ ≤ 0; omega, by show _ ≤ 0; omega⟩) (fun v5 μ6 H locs hw hI => ?_)
      refine W.eq (g2 := F0 m 31 ls [.int v5, va_rf (some b)]) rfl ?_
      refine lv_if_ne (tgt := 38) hx hb dX10_addLine_31 (by decide) (fun hc => ?_) (fun hc => ?_)
      · have hw := hw.1 hc
        refine j_aload_n (r := (some b)) hx hb dX10_addLine_38 rfl (lv_at hl 0 rfl) ?_
        refine lv_iload_n hx hb dX10_addLine_39 rfl (lv_at hl 1 rfl) ?_
        obtain ⟨hfs, hw⟩ := hw
        refine j_goz hI (va_runV (As := [.int x1]) (rest := [va_rf (some b)]) ⟨hx, hb, hml, hown, hts⟩ (kX10_isTop l hfl D z b x1 μ6 H.size _) (cwV 1 hts gX10_addLine_X10_isTop rfl rfl rfl (by decide +kernel) ⟨Nat.le_of_ble_eq_true rfl, Nat.le_of_ble_eq_true rfl⟩) (j_prV2z hK hG hI hw (ci := 12) rfl hfs) rfl rfl hl.1 rfl (lv_room (Nat.le_of_ble_eq_true rfl)) dX10_addLine_40 ⟨by show _ ≤ 0; omega, by show _ ≤ 0; omega⟩) (fun v7 μ8 H locs hw hI => ?_)
        refine W.eq (g2 := F0 m 43 ls [.int v7, va_rf (some b)]) rfl ?_
        refine lv_if_eq (tgt := 55) hx hb dX10_addLine_43 (by decide) (fun hc => ?_) (fun hc => ?_)
        · have hw := hw.1 hc
          exact kX10_addLine_55 hX  hw hI (lv_sub hl [0, 1, 2, 3] rfl) (by omega) (by omega)
        · have hw := hw.2 hc
          refine j_aload_n (r := (some b)) hx hb dX10_addLine_46 rfl (lv_at hl 0 rfl) ?_
          obtain ⟨v9, hv9, hw⟩ := hw
          refine j_getz (C := RX10) (T := TX10) (N := 25) (ci := 12) (r := (some b)) (v := .int v9) hx hb hfX10 hown hK hI rfl 1 (by decide) (hts (.fieldLink RX10 106 "CashPoolsModel" "lines" "I") (List.mem_of_getElem? (i := 2) (by decide +kernel))) (fun _ h => h) hv9 dX10_addLine_47 ?_
          refine lv_bipush (v := (6)) hx hb dX10_addLine_50 (by decide) ?_
          refine lv_icmp_ne (tgt := 59) hx hb dX10_addLine_52 (by decide) (fun hc => ?_) (fun hc => ?_)
          · have hw := hw.1 hc
            refine lv_iconst (v := (0)) hx hb dX10_addLine_59 (by decide) ?_
            exact kX10_addLine_60 hX  hw hI (lv_sub hl [0, 1, 2, 3] rfl) (by omega) (by omega)
          · have hw := hw.2 hc
            exact kX10_addLine_55 hX  hw hI (lv_sub hl [0, 1, 2, 3] rfl) (by omega) (by omega)
      · have hw := hw.2 hc
        exact kX10_addLine_34 hX  hw hI (lv_sub hl [0, 1, 2, 3] rfl) (by omega) (by omega)
  · have hw := hw.2 hc
    refine lv_iconst (v := (1)) hx hb dX10_addLine_9 (by decide) ?_
    refine lv_goto (tgt := 60) hx hb dX10_addLine_10 (by decide) ?_
    exact kX10_addLine_60 hX  hw hI (lv_sub hl [0, 1, 2, 3] rfl) (by omega) (by omega)
set_option maxHeartbeats 4000000 in
set_option maxRecDepth 100000 in
theorem kX10_addLine (l : Launch) (hfl : l.stackTraces = false) (D : jD) (z : Nat × Nat) (b : Nat) (x1 : Int32) (x2 : Int32) (x3 : Int32) (μ : jM) (sz : Nat) (Q : Int32 → jM → Prop) : Met l yX10_addLine wsX10_addLine rmX10_addLine (jPre2z D z μ sz [.ref b, .int x1, .int x2, .int x3] (wX10_addLine z b x1 x2 x3 μ Q)) (jRz jfI Q D z (jA z μ sz)) 0 0 (jA z μ sz) := by
  refine Met.ofW (cc := cX10_addLine) (maxL := 4) (ret := (some .int)) (by decide) rfl ?_
  intro p e s m args below meth c s₁ B hml hv
  obtain ⟨rfl, hsz, hH, hz0, hK, hG, hw⟩ := hv
  subst hsz
  have hX : jX2 D z (jA z μ s.heap.size) p l s m _ meth c yX10_addLine cX10_addLine 4 wsX10_addLine (some .int) := ⟨B.exec, B.bytes, hml, findClass_of_methodNamed B.named, atoms_spec (ws := wsX10_addLine) B.pre, B.returns, B.notSynchronized, (name_of_methodNamed B.named B.method).1, hK, hG, hfl⟩
  obtain ⟨ls, hg, hl⟩ : ∃ ls : Array Slot, entryFrame m ([.ref b, .int x1, .int x2, .int x3] : List Value).toArray 4 = F0 m 0 ls [] ∧ lv_has ls 4 [(0, va_rf (some b)), (1, .int x1), (2, .int x2), (3, .int x3)] := by
    exact ⟨_, lg_entry_eq .., lv_entry _ (n := 4) (Nat.le_of_ble_eq_true rfl)⟩
  rw [hg]
  exact kX10_addLine_0 hX hw (jIz.start hH hz0) (lv_sub hl [0, 1, 2, 3] rfl) (by decide) (by decide)
set_option maxHeartbeats 4000000 in
set_option maxRecDepth 100000 in
theorem kX10_setBankLimit_25 {b : Nat} (hX : jX2 D z A p l s m args meth c yX10_setBankLimit cX10_setBankLimit 4 wsX10_setBankLimit (some .int)) {Q : Int32 → jM → Prop}  {x1 : Int32} {x2 : Int32} {t0 : Option Nat} {t1 : Int32} {μ : jM} {H : Heap} {locs : List Loc} {ls : Array Slot} {cells slots : Nat} (hw : wX10_setBankLimit_25 z b Q x1 x2 t0 t1 μ) (hI : jIz D z A s.heap μ H locs) (hl : lv_has ls 4 [(0, va_rf (some b)), (1, .int x1), (2, .int x2)]) (hcn : cells + 0 ≤ 0) (hsn : slots + 0 ≤ 0) : W p l e rmX10_setBankLimit s m args below meth c H locs cells slots (MQ below (jRz jfI Q D z A) args s 0 0 A) (F0 m 25 ls [.int t1, va_rf t0]) := by
  unfold wX10_setBankLimit_25 at hw
  obtain ⟨hx, hb, hml, hown, hts, hr, hlocks, hnm, hK, hG, hfl⟩ := id hX
  have hown : s.vm.findClass RX10 = some m.cls := hown
  have hfX10 : ∀ w ∈ wsX100, w.before args s = true := fun w h => hts w (List.mem_cons_of_mem _ (List.mem_append_right _ h))
  obtain ⟨b3, ⟨hrb3, hfs⟩, hw⟩ := hw
  refine j_goz hI (va_runV (As := [.int t1]) (rest := []) ⟨hx, hb, hml, hown, hts⟩ (kX10_can l hfl D z b3 t1 μ H.size _) (cwV 1 hts gX10_setBankLimit_X10_can rfl rfl rfl (by decide +kernel) ⟨Nat.le_of_ble_eq_true rfl, Nat.le_of_ble_eq_true rfl⟩) (j_prV2z hK hG hI hw (ci := 12) rfl hfs) rfl rfl hl.1 (by rw [hrb3]; rfl) (lv_room (Nat.le_of_ble_eq_true rfl)) dX10_setBankLimit_25 ⟨by show _ ≤ 0; omega, by show _ ≤ 0; omega⟩) (fun v1 μ2 H locs hw hI => ?_)
  refine W.eq (g2 := F0 m 28 ls [.int v1]) rfl ?_
  refine lv_if_ne (tgt := 33) hx hb dX10_setBankLimit_28 (by decide) (fun hc => ?_) (fun hc => ?_)
  · have hw := hw.1 hc
    refine j_aload_n (r := (some b)) hx hb dX10_setBankLimit_33 rfl (lv_at hl 0 rfl) ?_
    obtain ⟨v4, hv4, hw⟩ := hw
    refine j_getz (C := RX10) (T := TX10) (N := 25) (ci := 12) (r := (some b)) (v := va_rf v4) hx hb hfX10 hown hK hI rfl 16 (by decide) (hts (.fieldLink RX10 50 "CashPoolsModel" "bankLimit" "[I") (List.mem_of_getElem? (i := 2) (by decide +kernel))) (fun _ h => h) hv4 dX10_setBankLimit_34 ?_
    refine lv_iload_n hx hb dX10_setBankLimit_37 rfl (lv_at hl 1 rfl) ?_
    obtain ⟨v5, hv5, hw⟩ := hw
    refine j_ialdz (r := v4) hx hb hK hI hv5 dX10_setBankLimit_38 ?_
    refine lv_istore_n (lv' := [(3, .int v5), (0, va_rf (some b)), (1, .int x1), (2, .int x2)]) hx hb dX10_setBankLimit_39 rfl hl (by decide) rfl (fun ls hl => ?_)
    refine j_aload_n (r := (some b)) hx hb dX10_setBankLimit_40 rfl (lv_at hl 1 rfl) ?_
    obtain ⟨v6, hv6, hw⟩ := hw
    refine j_getz (C := RX10) (T := TX10) (N := 25) (ci := 12) (r := (some b)) (v := va_rf v6) hx hb hfX10 hown hK hI rfl 16 (by decide) (hts (.fieldLink RX10 50 "CashPoolsModel" "bankLimit" "[I") (List.mem_of_getElem? (i := 2) (by decide +kernel))) (fun _ h => h) hv6 dX10_setBankLimit_41 ?_
    refine lv_iload_n hx hb dX10_setBankLimit_44 rfl (lv_at hl 2 rfl) ?_
    refine lv_iload_n hx hb dX10_setBankLimit_45 rfl (lv_at hl 3 rfl) ?_
    obtain ⟨μ7, hμ7, hw⟩ := hw
    refine j_iastz (r := v6) hx hb hK hI hμ7 dX10_setBankLimit_46 (fun H locs hI => ?_)
    refine lv_iload_n hx hb dX10_setBankLimit_47 rfl (lv_at hl 0 rfl) ?_
    exact j_iretz hx hb hr hlocks hI hw (by omega) (by omega) dX10_setBankLimit_48
  · have hw := hw.2 hc
    refine lv_iconst (v := (0)) hx hb dX10_setBankLimit_31 (by decide) ?_
    exact j_iretz hx hb hr hlocks hI hw (by omega) (by omega) dX10_setBankLimit_32
set_option maxHeartbeats 4000000 in
set_option maxRecDepth 100000 in
theorem kX10_setBankLimit_24 {b : Nat} (hX : jX2 D z A p l s m args meth c yX10_setBankLimit cX10_setBankLimit 4 wsX10_setBankLimit (some .int)) {Q : Int32 → jM → Prop}  {x1 : Int32} {x2 : Int32} {t0 : Option Nat} {μ : jM} {H : Heap} {locs : List Loc} {ls : Array Slot} {cells slots : Nat} (hw : wX10_setBankLimit_24 z b Q x1 x2 t0 μ) (hI : jIz D z A s.heap μ H locs) (hl : lv_has ls 4 [(0, va_rf (some b)), (1, .int x1), (2, .int x2)]) (hcn : cells + 0 ≤ 0) (hsn : slots + 0 ≤ 0) : W p l e rmX10_setBankLimit s m args below meth c H locs cells slots (MQ below (jRz jfI Q D z A) args s 0 0 A) (F0 m 24 ls [va_rf t0]) := by
  unfold wX10_setBankLimit_24 at hw
  obtain ⟨hx, hb, hml, hown, hts, hr, hlocks, hnm, hK, hG, hfl⟩ := id hX
  have hown : s.vm.findClass RX10 = some m.cls := hown
  refine lv_iconst (v := (1)) hx hb dX10_setBankLimit_24 (by decide) ?_
  exact kX10_setBankLimit_25 hX  hw hI (lv_sub hl [0, 1, 2] rfl) (by omega) (by omega)
set_option maxHeartbeats 4000000 in
set_option maxRecDepth 100000 in
theorem kX10_setBankLimit_0 {b : Nat} (hX : jX2 D z A p l s m args meth c yX10_setBankLimit cX10_setBankLimit 4 wsX10_setBankLimit (some .int)) {Q : Int32 → jM → Prop}  {x1 : Int32} {x2 : Int32} {μ : jM} {H : Heap} {locs : List Loc} {ls : Array Slot} {cells slots : Nat} (hw : wX10_setBankLimit_0 z b Q x1 x2 μ) (hI : jIz D z A s.heap μ H locs) (hl : lv_has ls 4 [(0, va_rf (some b)), (1, .int x1), (2, .int x2)]) (hcn : cells + 0 ≤ 0) (hsn : slots + 0 ≤ 0) : W p l e rmX10_setBankLimit s m args below meth c H locs cells slots (MQ below (jRz jfI Q D z A) args s 0 0 A) (F0 m 0 ls []) := by
  unfold wX10_setBankLimit_0 at hw
  obtain ⟨hx, hb, hml, hown, hts, hr, hlocks, hnm, hK, hG, hfl⟩ := id hX
  have hown : s.vm.findClass RX10 = some m.cls := hown
  refine j_aload_n (r := (some b)) hx hb dX10_setBankLimit_0 rfl (lv_at hl 0 rfl) ?_
  refine lv_iload_n hx hb dX10_setBankLimit_1 rfl (lv_at hl 1 rfl) ?_
  refine lv_iconst (v := (0)) hx hb dX10_setBankLimit_2 (by decide) ?_
  refine lv_iconst (v := (3)) hx hb dX10_setBankLimit_3 (by decide) ?_
  refine j_goz hI (va_runS (As := [.int x1, .int (0 : Int32), .int (3 : Int32)]) (rest := [va_rf (some b)]) ⟨hx, hb, hml, hown, hts⟩ (kX10_isIn l hfl D z x1 (0 : Int32) (3 : Int32) μ H.size _) (va_cwS 3 hts gX10_setBankLimit_X10_isIn rfl rfl rfl (by decide +kernel) ⟨Nat.le_of_ble_eq_true rfl, Nat.le_of_ble_eq_true rfl⟩) (j_prS2z hK hG hI hw) rfl rfl hl.1 rfl (lv_room (Nat.le_of_ble_eq_true rfl)) dX10_setBankLimit_4 ⟨by show _ ≤ 0; omega, by show _ ≤ 0; omega⟩) (fun v1 μ2 H locs hw hI => ?_)
  refine W.eq (g2 := F0 m 7 ls [.int v1, va_rf (some b)]) rfl ?_
  refine lv_if_eq (tgt := 24) hx hb dX10_setBankLimit_7 (by decide) (fun hc => ?_) (fun hc => ?_)
  · have hw := hw.1 hc
    exact kX10_setBankLimit_24 hX  hw hI (lv_sub hl [0, 1, 2] rfl) (by omega) (by omega)
  · have hw := hw.2 hc
    refine lv_iload_n hx hb dX10_setBankLimit_10 rfl (lv_at hl 2 rfl) ?_
    refine lv_iconst (v := (-1)) hx hb dX10_setBankLimit_11 (by decide) ?_
    refine lv_ldc (v := (1000000000)) hx hb hown (hts (.constant RX10 109 (1000000000)) (List.mem_of_getElem? (i := 1) (by decide +kernel))) dX10_setBankLimit_12 ?_
    refine j_goz hI (va_runS (As := [.int x2, .int (-1 : Int32), .int (1000000000 : Int32)]) (rest := [va_rf (some b)]) ⟨hx, hb, hml, hown, hts⟩ (kX10_isIn l hfl D z x2 (-1 : Int32) (1000000000 : Int32) μ2 H.size _) (va_cwS 3 hts gX10_setBankLimit_X10_isIn rfl rfl rfl (by decide +kernel) ⟨Nat.le_of_ble_eq_true rfl, Nat.le_of_ble_eq_true rfl⟩) (j_prS2z hK hG hI hw) rfl rfl hl.1 rfl (lv_room (Nat.le_of_ble_eq_true rfl)) dX10_setBankLimit_14 ⟨by show _ ≤ 0; omega, by show _ ≤ 0; omega⟩) (fun v3 μ4 H locs hw hI => ?_)
    refine W.eq (g2 := F0 m 17 ls [.int v3, va_rf (some b)]) rfl ?_
    refine lv_if_eq (tgt := 24) hx hb dX10_setBankLimit_17 (by decide) (fun hc => ?_) (fun hc => ?_)
    · have hw := hw.1 hc
      exact kX10_setBankLimit_24 hX  hw hI (lv_sub hl [0, 1, 2] rfl) (by omega) (by omega)
    · have hw := hw.2 hc
      refine lv_iconst (v := (0)) hx hb dX10_setBankLimit_20 (by decide) ?_
      refine lv_goto (tgt := 25) hx hb dX10_setBankLimit_21 (by decide) ?_
      exact kX10_setBankLimit_25 hX  hw hI (lv_sub hl [0, 1, 2] rfl) (by omega) (by omega)
set_option maxHeartbeats 4000000 in
set_option maxRecDepth 100000 in
theorem kX10_setBankLimit (l : Launch) (hfl : l.stackTraces = false) (D : jD) (z : Nat × Nat) (b : Nat) (x1 : Int32) (x2 : Int32) (μ : jM) (sz : Nat) (Q : Int32 → jM → Prop) : Met l yX10_setBankLimit wsX10_setBankLimit rmX10_setBankLimit (jPre2z D z μ sz [.ref b, .int x1, .int x2] (wX10_setBankLimit z b x1 x2 μ Q)) (jRz jfI Q D z (jA z μ sz)) 0 0 (jA z μ sz) := by
  refine Met.ofW (cc := cX10_setBankLimit) (maxL := 4) (ret := (some .int)) (by decide) rfl ?_
  intro p e s m args below meth c s₁ B hml hv
  obtain ⟨rfl, hsz, hH, hz0, hK, hG, hw⟩ := hv
  subst hsz
  have hX : jX2 D z (jA z μ s.heap.size) p l s m _ meth c yX10_setBankLimit cX10_setBankLimit 4 wsX10_setBankLimit (some .int) := ⟨B.exec, B.bytes, hml, findClass_of_methodNamed B.named, atoms_spec (ws := wsX10_setBankLimit) B.pre, B.returns, B.notSynchronized, (name_of_methodNamed B.named B.method).1, hK, hG, hfl⟩
  obtain ⟨ls, hg, hl⟩ : ∃ ls : Array Slot, entryFrame m ([.ref b, .int x1, .int x2] : List Value).toArray 4 = F0 m 0 ls [] ∧ lv_has ls 4 [(0, va_rf (some b)), (1, .int x1), (2, .int x2)] := by
    exact ⟨_, lg_entry_eq .., lv_entry _ (n := 4) (Nat.le_of_ble_eq_true rfl)⟩
  rw [hg]
  exact kX10_setBankLimit_0 hX hw (jIz.start hH hz0) (lv_sub hl [0, 1, 2] rfl) (by decide) (by decide)
set_option maxHeartbeats 4000000 in
set_option maxRecDepth 100000 in
theorem kX10_isSettlement_0 {b : Nat} (hX : jX2 D z A p l s m args meth c yX10_isSettlement cX10_isSettlement 2 wsX10_isSettlement (some .boolean)) {Q : Int32 → jM → Prop}  {x1 : Int32} {μ : jM} {H : Heap} {locs : List Loc} {ls : Array Slot} {cells slots : Nat} (hw : wX10_isSettlement_0 z b Q x1 μ) (hI : jIz D z A s.heap μ H locs) (hl : lv_has ls 2 [(0, va_rf (some b)), (1, .int x1)]) (hcn : cells + 0 ≤ 0) (hsn : slots + 0 ≤ 0) : W p l e rmX10_isSettlement s m args below meth c H locs cells slots (MQ below (jRz jfI Q D z A) args s 0 0 A) (F0 m 0 ls []) := by
  unfold wX10_isSettlement_0 at hw
  obtain ⟨hx, hb, hml, hown, hts, hr, hlocks, hnm, hK, hG, hfl⟩ := id hX
  have hown : s.vm.findClass RX10 = some m.cls := hown
  have hfX10 : ∀ w ∈ wsX100, w.before args s = true := fun w h => hts w (List.mem_cons_of_mem _ (List.mem_append_right _ h))
  refine lv_iload_n hx hb dX10_isSettlement_0 rfl (lv_at hl 1 rfl) ?_
  refine lv_bipush (v := (7)) hx hb dX10_isSettlement_1 (by decide) ?_
  refine lv_irem hx hb dX10_isSettlement_3 (by decide) ?_
  refine lv_iconst (v := (5)) hx hb dX10_isSettlement_4 (by decide) ?_
  refine lv_icmp_ge (tgt := 28) hx hb dX10_isSettlement_5 (by decide) (fun hc => ?_) (fun hc => ?_)
  · have hw := hw.1 hc
    refine lv_iconst (v := (0)) hx hb dX10_isSettlement_28 (by decide) ?_
    exact j_zretz hx hb hr rfl hlocks hI hw (by omega) (by omega) dX10_isSettlement_29
  · have hw := hw.2 hc
    refine lv_iload_n hx hb dX10_isSettlement_8 rfl (lv_at hl 1 rfl) ?_
    refine lv_sipush (v := (450)) hx hb dX10_isSettlement_9 (by decide) ?_
    refine lv_icmp_gt (tgt := 24) hx hb dX10_isSettlement_12 (by decide) (fun hc => ?_) (fun hc => ?_)
    · have hw := hw.1 hc
      refine lv_iconst (v := (1)) hx hb dX10_isSettlement_24 (by decide) ?_
      refine lv_goto (tgt := 29) hx hb dX10_isSettlement_25 (by decide) ?_
      exact j_zretz hx hb hr rfl hlocks hI hw (by omega) (by omega) dX10_isSettlement_29
    · have hw := hw.2 hc
      refine j_aload_n (r := (some b)) hx hb dX10_isSettlement_15 rfl (lv_at hl 0 rfl) ?_
      obtain ⟨v1, hv1, hw⟩ := hw
      refine j_getz (C := RX10) (T := TX10) (N := 25) (ci := 12) (r := (some b)) (v := va_rf v1) hx hb hfX10 hown hK hI rfl 22 (by decide) (hts (.fieldLink RX10 68 "CashPoolsModel" "isHoliday" "[Z") (List.mem_of_getElem? (i := 1) (by decide +kernel))) (fun _ h => h) hv1 dX10_isSettlement_16 ?_
      refine lv_iload_n hx hb dX10_isSettlement_19 rfl (lv_at hl 1 rfl) ?_
      obtain ⟨v2, hv2, hw⟩ := hw
      refine j_zaldz (r := v1) hx hb hK hI hv2 dX10_isSettlement_20 ?_
      refine lv_if_ne (tgt := 28) hx hb dX10_isSettlement_21 (by decide) (fun hc => ?_) (fun hc => ?_)
      · have hw := hw.1 hc
        refine lv_iconst (v := (0)) hx hb dX10_isSettlement_28 (by decide) ?_
        exact j_zretz hx hb hr rfl hlocks hI hw (by omega) (by omega) dX10_isSettlement_29
      · have hw := hw.2 hc
        refine lv_iconst (v := (1)) hx hb dX10_isSettlement_24 (by decide) ?_
        refine lv_goto (tgt := 29) hx hb dX10_isSettlement_25 (by decide) ?_
        exact j_zretz hx hb hr rfl hlocks hI hw (by omega) (by omega) dX10_isSettlement_29
set_option maxHeartbeats 4000000 in
set_option maxRecDepth 100000 in
theorem kX10_isSettlement (l : Launch) (hfl : l.stackTraces = false) (D : jD) (z : Nat × Nat) (b : Nat) (x1 : Int32) (μ : jM) (sz : Nat) (Q : Int32 → jM → Prop) : Met l yX10_isSettlement wsX10_isSettlement rmX10_isSettlement (jPre2z D z μ sz [.ref b, .int x1] (wX10_isSettlement z b x1 μ Q)) (jRz jfI Q D z (jA z μ sz)) 0 0 (jA z μ sz) := by
  refine Met.ofW (cc := cX10_isSettlement) (maxL := 2) (ret := (some .boolean)) (by decide) rfl ?_
  intro p e s m args below meth c s₁ B hml hv
  obtain ⟨rfl, hsz, hH, hz0, hK, hG, hw⟩ := hv
  subst hsz
  have hX : jX2 D z (jA z μ s.heap.size) p l s m _ meth c yX10_isSettlement cX10_isSettlement 2 wsX10_isSettlement (some .boolean) := ⟨B.exec, B.bytes, hml, findClass_of_methodNamed B.named, atoms_spec (ws := wsX10_isSettlement) B.pre, B.returns, B.notSynchronized, (name_of_methodNamed B.named B.method).1, hK, hG, hfl⟩
  obtain ⟨ls, hg, hl⟩ : ∃ ls : Array Slot, entryFrame m ([.ref b, .int x1] : List Value).toArray 2 = F0 m 0 ls [] ∧ lv_has ls 2 [(0, va_rf (some b)), (1, .int x1)] := by
    exact ⟨_, lg_entry_eq .., lv_entry _ (n := 2) (Nat.le_of_ble_eq_true rfl)⟩
  rw [hg]
  exact kX10_isSettlement_0 hX hw (jIz.start hH hz0) (lv_sub hl [0, 1] rfl) (by decide) (by decide)
set_option maxHeartbeats 4000000 in
set_option maxRecDepth 100000 in
theorem kX10_surplus_42 {b : Nat} (hX : jX2 D z A p l s m args meth c yX10_surplus cX10_surplus 5 wsX10_surplus (some .long)) {Q : Int64 → jM → Prop}  {x2 : Int64} {x4 : Int32} {μ : jM} {H : Heap} {locs : List Loc} {ls : Array Slot} {cells slots : Nat} (hw : wX10_surplus_42 z b Q x2 x4 μ) (hI : jIz D z A s.heap μ H locs) (hl : lv_has ls 5 [(0, va_rf (some b)), (2, .long x2), (4, .int x4)]) (hcn : cells + 0 ≤ 0) (hsn : slots + 0 ≤ 0) : W p l e rmX10_surplus s m args below meth c H locs cells slots (MQ below (jRz jfJ Q D z A) args s 0 0 A) (F0 m 42 ls []) := by
  unfold wX10_surplus_42 at hw
  obtain ⟨hx, hb, hml, hown, hts, hr, hlocks, hnm, hK, hG, hfl⟩ := id hX
  have hown : s.vm.findClass RX10 = some m.cls := hown
  refine lv_iload hx hb dX10_surplus_42 (lv_at hl 2 rfl) ?_
  refine lv_iconst (v := (3)) hx hb dX10_surplus_44 (by decide) ?_
  refine lv_icmp_ne (tgt := 58) hx hb dX10_surplus_45 (by decide) (fun hc => ?_) (fun hc => ?_)
  · have hw := hw.1 hc
    refine lv_lload_n hx hb dX10_surplus_58 rfl (lv_at hl 1 rfl) ?_
    exact j_lretz hx hb hr hlocks hI hw (by omega) (by omega) dX10_surplus_59
  · have hw := hw.2 hc
    refine lv_lload_n hx hb dX10_surplus_48 rfl (lv_at hl 1 rfl) ?_
    refine lv_lconst (v := (0)) hx hb dX10_surplus_49 (by decide) ?_
    refine j_lcmp_le (tgt := 58) hx hb dX10_surplus_50 dX10_surplus_51 (by decide) (fun hc => ?_) (fun hc => ?_)
    · have hw := hw.1 hc
      refine lv_lload_n hx hb dX10_surplus_58 rfl (lv_at hl 1 rfl) ?_
      exact j_lretz hx hb hr hlocks hI hw (by omega) (by omega) dX10_surplus_59
    · have hw := hw.2 hc
      refine lv_lconst (v := (0)) hx hb dX10_surplus_54 (by decide) ?_
      refine lv_goto (tgt := 59) hx hb dX10_surplus_55 (by decide) ?_
      exact j_lretz hx hb hr hlocks hI hw (by omega) (by omega) dX10_surplus_59
set_option maxHeartbeats 4000000 in
set_option maxRecDepth 100000 in
theorem kX10_surplus_0 {b : Nat} (hX : jX2 D z A p l s m args meth c yX10_surplus cX10_surplus 5 wsX10_surplus (some .long)) {Q : Int64 → jM → Prop}  {x1 : Int32} {μ : jM} {H : Heap} {locs : List Loc} {ls : Array Slot} {cells slots : Nat} (hw : wX10_surplus_0 z b Q x1 μ) (hI : jIz D z A s.heap μ H locs) (hl : lv_has ls 5 [(0, va_rf (some b)), (1, .int x1)]) (hcn : cells + 0 ≤ 0) (hsn : slots + 0 ≤ 0) : W p l e rmX10_surplus s m args below meth c H locs cells slots (MQ below (jRz jfJ Q D z A) args s 0 0 A) (F0 m 0 ls []) := by
  unfold wX10_surplus_0 at hw
  obtain ⟨hx, hb, hml, hown, hts, hr, hlocks, hnm, hK, hG, hfl⟩ := id hX
  have hown : s.vm.findClass RX10 = some m.cls := hown
  have hfX10 : ∀ w ∈ wsX100, w.before args s = true := fun w h => hts w (List.mem_cons_of_mem _ (List.mem_append_right _ h))
  refine j_aload_n (r := (some b)) hx hb dX10_surplus_0 rfl (lv_at hl 0 rfl) ?_
  obtain ⟨v1, hv1, hw⟩ := hw
  refine j_getz (C := RX10) (T := TX10) (N := 25) (ci := 12) (r := (some b)) (v := va_rf v1) hx hb hfX10 hown hK hI rfl 3 (by decide) (hts (.fieldLink RX10 7 "CashPoolsModel" "z" "[J") (List.mem_of_getElem? (i := 1) (by decide +kernel))) (fun _ h => h) hv1 dX10_surplus_1 ?_
  refine lv_iconst (v := (0)) hx hb dX10_surplus_4 (by decide) ?_
  refine lv_iload_n hx hb dX10_surplus_5 rfl (lv_at hl 1 rfl) ?_
  refine lv_iadd hx hb dX10_surplus_6 ?_
  obtain ⟨v2, hv2, hw⟩ := hw
  refine j_laldz (r := v1) hx hb hK hI hv2 dX10_surplus_7 ?_
  refine j_aload_n (r := (some b)) hx hb dX10_surplus_8 rfl (lv_at hl 0 rfl) ?_
  obtain ⟨v3, hv3, hw⟩ := hw
  refine j_getz (C := RX10) (T := TX10) (N := 25) (ci := 12) (r := (some b)) (v := va_rf v3) hx hb hfX10 hown hK hI rfl 9 (by decide) (hts (.fieldLink RX10 29 "CashPoolsModel" "target" "[I") (List.mem_of_getElem? (i := 2) (by decide +kernel))) (fun _ h => h) hv3 dX10_surplus_9 ?_
  refine lv_iload_n hx hb dX10_surplus_12 rfl (lv_at hl 1 rfl) ?_
  obtain ⟨v4, hv4, hw⟩ := hw
  refine j_ialdz (r := v3) hx hb hK hI hv4 dX10_surplus_13 ?_
  refine lv_i2l hx hb dX10_surplus_14 rfl ?_
  refine lv_lsub hx hb dX10_surplus_15 ?_
  refine lv_topl (fun v5 ev5 => ?_)
  have hw := hw v5 ev5
  refine lv_lstore_n (lv' := [(2, .long v5), (0, va_rf (some b)), (1, .int x1)]) hx hb dX10_surplus_16 rfl hl (by decide) rfl (fun ls hl => ?_)
  refine j_aload_n (r := (some b)) hx hb dX10_surplus_17 rfl (lv_at hl 1 rfl) ?_
  obtain ⟨v6, hv6, hw⟩ := hw
  refine j_getz (C := RX10) (T := TX10) (N := 25) (ci := 12) (r := (some b)) (v := va_rf v6) hx hb hfX10 hown hK hI rfl 8 (by decide) (hts (.fieldLink RX10 26 "CashPoolsModel" "rule" "[I") (List.mem_of_getElem? (i := 3) (by decide +kernel))) (fun _ h => h) hv6 dX10_surplus_18 ?_
  refine lv_iload_n hx hb dX10_surplus_21 rfl (lv_at hl 2 rfl) ?_
  obtain ⟨v7, hv7, hw⟩ := hw
  refine j_ialdz (r := v6) hx hb hK hI hv7 dX10_surplus_22 ?_
  refine lv_istore (lv' := [(4, .int v7), (2, .long v5), (0, va_rf (some b)), (1, .int x1)]) hx hb dX10_surplus_23 hl (by decide) rfl (fun ls hl => ?_)
  refine lv_iload hx hb dX10_surplus_25 (lv_at hl 0 rfl) ?_
  refine lv_if_eq (tgt := 54) hx hb dX10_surplus_27 (by decide) (fun hc => ?_) (fun hc => ?_)
  · have hw := hw.1 hc
    refine lv_lconst (v := (0)) hx hb dX10_surplus_54 (by decide) ?_
    refine lv_goto (tgt := 59) hx hb dX10_surplus_55 (by decide) ?_
    exact j_lretz hx hb hr hlocks hI hw (by omega) (by omega) dX10_surplus_59
  · have hw := hw.2 hc
    refine lv_iload hx hb dX10_surplus_30 (lv_at hl 0 rfl) ?_
    refine lv_iconst (v := (2)) hx hb dX10_surplus_32 (by decide) ?_
    refine lv_icmp_ne (tgt := 42) hx hb dX10_surplus_33 (by decide) (fun hc => ?_) (fun hc => ?_)
    · have hw := hw.1 hc
      exact kX10_surplus_42 hX  hw hI (lv_sub hl [2, 1, 0] rfl) (by omega) (by omega)
    · have hw := hw.2 hc
      refine lv_lload_n hx hb dX10_surplus_36 rfl (lv_at hl 1 rfl) ?_
      refine lv_lconst (v := (0)) hx hb dX10_surplus_37 (by decide) ?_
      refine j_lcmp_lt (tgt := 54) hx hb dX10_surplus_38 dX10_surplus_39 (by decide) (fun hc => ?_) (fun hc => ?_)
      · have hw := hw.1 hc
        refine lv_lconst (v := (0)) hx hb dX10_surplus_54 (by decide) ?_
        refine lv_goto (tgt := 59) hx hb dX10_surplus_55 (by decide) ?_
        exact j_lretz hx hb hr hlocks hI hw (by omega) (by omega) dX10_surplus_59
      · have hw := hw.2 hc
        exact kX10_surplus_42 hX  hw hI (lv_sub hl [2, 1, 0] rfl) (by omega) (by omega)
set_option maxHeartbeats 4000000 in
set_option maxRecDepth 100000 in
theorem kX10_surplus (l : Launch) (hfl : l.stackTraces = false) (D : jD) (z : Nat × Nat) (b : Nat) (x1 : Int32) (μ : jM) (sz : Nat) (Q : Int64 → jM → Prop) : Met l yX10_surplus wsX10_surplus rmX10_surplus (jPre2z D z μ sz [.ref b, .int x1] (wX10_surplus z b x1 μ Q)) (jRz jfJ Q D z (jA z μ sz)) 0 0 (jA z μ sz) := by
  refine Met.ofW (cc := cX10_surplus) (maxL := 5) (ret := (some .long)) (by decide) rfl ?_
  intro p e s m args below meth c s₁ B hml hv
  obtain ⟨rfl, hsz, hH, hz0, hK, hG, hw⟩ := hv
  subst hsz
  have hX : jX2 D z (jA z μ s.heap.size) p l s m _ meth c yX10_surplus cX10_surplus 5 wsX10_surplus (some .long) := ⟨B.exec, B.bytes, hml, findClass_of_methodNamed B.named, atoms_spec (ws := wsX10_surplus) B.pre, B.returns, B.notSynchronized, (name_of_methodNamed B.named B.method).1, hK, hG, hfl⟩
  obtain ⟨ls, hg, hl⟩ : ∃ ls : Array Slot, entryFrame m ([.ref b, .int x1] : List Value).toArray 5 = F0 m 0 ls [] ∧ lv_has ls 5 [(0, va_rf (some b)), (1, .int x1)] := by
    exact ⟨_, lg_entry_eq .., lv_entry _ (n := 5) (Nat.le_of_ble_eq_true rfl)⟩
  rw [hg]
  exact kX10_surplus_0 hX hw (jIz.start hH hz0) (lv_sub hl [0, 1] rfl) (by decide) (by decide)
set_option maxHeartbeats 4000000 in
set_option maxRecDepth 100000 in
theorem kX10_moves_0 {b : Nat} (hX : jX2 D z A p l s m args meth c yX10_moves cX10_moves 5 wsX10_moves none) {Q : Unit → jM → Prop}  {x1 : Int32} {x2 : Int32} {x3 : Int64} {μ : jM} {H : Heap} {locs : List Loc} {ls : Array Slot} {cells slots : Nat} (hw : wX10_moves_0 z b Q x1 x2 x3 μ) (hI : jIz D z A s.heap μ H locs) (hl : lv_has ls 5 [(0, va_rf (some b)), (1, .int x1), (2, .int x2), (3, .long x3)]) (hcn : cells + 0 ≤ 0) (hsn : slots + 0 ≤ 0) : W p l e rmX10_moves s m args below meth c H locs cells slots (MQ below (jRz jfV Q D z A) args s 0 0 A) (F0 m 0 ls []) := by
  unfold wX10_moves_0 at hw
  obtain ⟨hx, hb, hml, hown, hts, hr, hlocks, hnm, hK, hG, hfl⟩ := id hX
  have hown : s.vm.findClass RX10 = some m.cls := hown
  have hfX10 : ∀ w ∈ wsX100, w.before args s = true := fun w h => hts w (List.mem_cons_of_mem _ (List.mem_append_right _ h))
  refine j_aload_n (r := (some b)) hx hb dX10_moves_0 rfl (lv_at hl 0 rfl) ?_
  obtain ⟨v1, hv1, hw⟩ := hw
  refine j_getz (C := RX10) (T := TX10) (N := 25) (ci := 12) (r := (some b)) (v := va_rf v1) hx hb hfX10 hown hK hI rfl 3 (by decide) (hts (.fieldLink RX10 7 "CashPoolsModel" "z" "[J") (List.mem_of_getElem? (i := 1) (by decide +kernel))) (fun _ h => h) hv1 dX10_moves_1 ?_
  refine lv_iconst (v := (0)) hx hb dX10_moves_4 (by decide) ?_
  refine lv_iload_n hx hb dX10_moves_5 rfl (lv_at hl 1 rfl) ?_
  refine lv_iadd hx hb dX10_moves_6 ?_
  refine lv_dup2_11 hx hb dX10_moves_7 rfl (jrc v1) ?_
  obtain ⟨v2, hv2, hw⟩ := hw
  refine j_laldz (r := v1) hx hb hK hI hv2 dX10_moves_8 ?_
  refine lv_lload_n hx hb dX10_moves_9 rfl (lv_at hl 3 rfl) ?_
  refine lv_lsub hx hb dX10_moves_10 ?_
  obtain ⟨μ3, hμ3, hw⟩ := hw
  refine j_lastz (r := v1) hx hb hK hI hμ3 dX10_moves_11 (fun H locs hI => ?_)
  refine j_aload_n (r := (some b)) hx hb dX10_moves_12 rfl (lv_at hl 0 rfl) ?_
  obtain ⟨v4, hv4, hw⟩ := hw
  refine j_getz (C := RX10) (T := TX10) (N := 25) (ci := 12) (r := (some b)) (v := va_rf v4) hx hb hfX10 hown hK hI rfl 3 (by decide) (hts (.fieldLink RX10 7 "CashPoolsModel" "z" "[J") (List.mem_of_getElem? (i := 1) (by decide +kernel))) (fun _ h => h) hv4 dX10_moves_13 ?_
  refine lv_iconst (v := (0)) hx hb dX10_moves_16 (by decide) ?_
  refine lv_iload_n hx hb dX10_moves_17 rfl (lv_at hl 2 rfl) ?_
  refine lv_iadd hx hb dX10_moves_18 ?_
  refine lv_dup2_11 hx hb dX10_moves_19 rfl (jrc v4) ?_
  obtain ⟨v5, hv5, hw⟩ := hw
  refine j_laldz (r := v4) hx hb hK hI hv5 dX10_moves_20 ?_
  refine lv_lload_n hx hb dX10_moves_21 rfl (lv_at hl 3 rfl) ?_
  refine lv_ladd hx hb dX10_moves_22 ?_
  obtain ⟨μ6, hμ6, hw⟩ := hw
  refine j_lastz (r := v4) hx hb hK hI hμ6 dX10_moves_23 (fun H locs hI => ?_)
  exact j_vretz hx hb hr hlocks hI hw (by omega) (by omega) dX10_moves_24
set_option maxHeartbeats 4000000 in
set_option maxRecDepth 100000 in
theorem kX10_moves (l : Launch) (hfl : l.stackTraces = false) (D : jD) (z : Nat × Nat) (b : Nat) (x1 : Int32) (x2 : Int32) (x3 : Int64) (μ : jM) (sz : Nat) (Q : Unit → jM → Prop) : Met l yX10_moves wsX10_moves rmX10_moves (jPre2z D z μ sz [.ref b, .int x1, .int x2, .long x3] (wX10_moves z b x1 x2 x3 μ Q)) (jRz jfV Q D z (jA z μ sz)) 0 0 (jA z μ sz) := by
  refine Met.ofW (cc := cX10_moves) (maxL := 5) (ret := none) (by decide) rfl ?_
  intro p e s m args below meth c s₁ B hml hv
  obtain ⟨rfl, hsz, hH, hz0, hK, hG, hw⟩ := hv
  subst hsz
  have hX : jX2 D z (jA z μ s.heap.size) p l s m _ meth c yX10_moves cX10_moves 5 wsX10_moves none := ⟨B.exec, B.bytes, hml, findClass_of_methodNamed B.named, atoms_spec (ws := wsX10_moves) B.pre, B.returns, B.notSynchronized, (name_of_methodNamed B.named B.method).1, hK, hG, hfl⟩
  obtain ⟨ls, hg, hl⟩ : ∃ ls : Array Slot, entryFrame m ([.ref b, .int x1, .int x2, .long x3] : List Value).toArray 5 = F0 m 0 ls [] ∧ lv_has ls 5 [(0, va_rf (some b)), (1, .int x1), (2, .int x2), (3, .long x3)] := by
    exact ⟨_, lg_entry_eq .., lv_entry _ (n := 5) (Nat.le_of_ble_eq_true rfl)⟩
  rw [hg]
  exact kX10_moves_0 hX hw (jIz.start hH hz0) (lv_sub hl [0, 1, 2, 3] rfl) (by decide) (by decide)
set_option maxHeartbeats 4000000 in
set_option maxRecDepth 100000 in
theorem kX10_sweep_146 {b : Nat} (hX : jX2 D z A p l s m args meth c yX10_sweep cX10_sweep 6 wsX10_sweep none) {Q : Unit → jM → Prop} {K53 : Int32 → jM → Prop} (hK53 : ∀ {x1 : Int32} {μ : jM} {H : Heap} {locs : List Loc} {ls : Array Slot} {cells slots : Nat}, K53 x1 μ → jIz D z A s.heap μ H locs → lv_has ls 6 [(0, va_rf (some b)), (1, .int x1)] → cells + 0 ≤ 0 → slots + 0 ≤ 0 → W p l e rmX10_sweep s m args below meth c H locs cells slots (MQ below (jRz jfV Q D z A) args s 0 0 A) (F0 m 53 ls [])) {x1 : Int32} {t0 : Option Nat} {t1 : Int32} {t2 : Int32} {t3 : Int64} {μ : jM} {H : Heap} {locs : List Loc} {ls : Array Slot} {cells slots : Nat} (hw : wX10_sweep_146 z b K53 Q x1 t0 t1 t2 t3 μ) (hI : jIz D z A s.heap μ H locs) (hl : lv_has ls 6 [(0, va_rf (some b)), (1, .int x1)]) (hcn : cells + 0 ≤ 0) (hsn : slots + 0 ≤ 0) : W p l e rmX10_sweep s m args below meth c H locs cells slots (MQ below (jRz jfV Q D z A) args s 0 0 A) (F0 m 146 ls [.long t3, .int t2, .int t1, va_rf t0]) := by
  unfold wX10_sweep_146 at hw
  obtain ⟨hx, hb, hml, hown, hts, hr, hlocks, hnm, hK, hG, hfl⟩ := id hX
  have hown : s.vm.findClass RX10 = some m.cls := hown
  obtain ⟨b3, ⟨hrb3, hfs⟩, hw⟩ := hw
  refine j_goz hI (va_runV (As := [.int t1, .int t2, .long t3]) (rest := []) ⟨hx, hb, hml, hown, hts⟩ (kX10_moves l hfl D z b3 t1 t2 t3 μ H.size _) (cwV 3 hts gX10_sweep_X10_moves rfl rfl rfl (by decide +kernel) ⟨Nat.le_of_ble_eq_true rfl, Nat.le_of_ble_eq_true rfl⟩) (j_prV2z hK hG hI hw (ci := 12) rfl hfs) rfl rfl hl.1 (by rw [hrb3]; rfl) (lv_room (Nat.le_of_ble_eq_true rfl)) dX10_sweep_146 ⟨by show _ ≤ 0; omega, by show _ ≤ 0; omega⟩) (fun u1 μ2 H locs hw hI => ?_)
  refine W.eq (g2 := F0 m 149 ls []) rfl ?_
  obtain ⟨v4, ev4⟩ : ∃ y : Int32, y = x1 + (1 : Int32) := ⟨_, rfl⟩
  have hw := hw v4 ev4
  refine lv_iinc (v := v4) (lv' := [(1, .int v4), (0, va_rf (some b))]) hx hb dX10_sweep_149 hl (k := 1) rfl (by rw [ev4]; rfl) (by decide) rfl (fun ls hl => ?_)
  refine lv_goto (tgt := 53) hx hb dX10_sweep_152 (by decide) ?_
  exact hK53 hw hI (lv_sub hl [1, 0] rfl) (by omega) (by omega)
set_option maxHeartbeats 4000000 in
set_option maxRecDepth 100000 in
theorem kX10_sweep_53 {b : Nat} (hX : jX2 D z A p l s m args meth c yX10_sweep cX10_sweep 6 wsX10_sweep none) {Q : Unit → jM → Prop}  (n : Nat) : ∀ {x1 : Int32} {μ : jM} {H : Heap} {locs : List Loc} {ls : Array Slot} {cells slots : Nat}, wX10_sweep_53 z b Q n x1 μ → jIz D z A s.heap μ H locs → lv_has ls 6 [(0, va_rf (some b)), (1, .int x1)] → cells + 0 ≤ 0 → slots + 0 ≤ 0 → W p l e rmX10_sweep s m args below meth c H locs cells slots (MQ below (jRz jfV Q D z A) args s 0 0 A) (F0 m 53 ls []) := by
  induction n with
  | zero =>
    intros
    rename_i hw _ _ _ _
    exact (show False from hw).elim
  | succ n ih =>
    intro x1 μ H locs ls cells slots hw hI hl hcn hsn
    have hw : wX10_sweep_53_b z b Q (wX10_sweep_53 z b Q n) x1 μ := hw
    unfold wX10_sweep_53_b at hw
    obtain ⟨hx, hb, hml, hown, hts, hr, hlocks, hnm, hK, hG, hfl⟩ := id hX
    have hown : s.vm.findClass RX10 = some m.cls := hown
    have hfX10 : ∀ w ∈ wsX100, w.before args s = true := fun w h => hts w (List.mem_cons_of_mem _ (List.mem_append_right _ h))
    refine lv_iload_n hx hb dX10_sweep_53 rfl (lv_at hl 1 rfl) ?_
    refine j_aload_n (r := (some b)) hx hb dX10_sweep_54 rfl (lv_at hl 0 rfl) ?_
    obtain ⟨v1, hv1, hw⟩ := hw
    refine j_getz (C := RX10) (T := TX10) (N := 25) (ci := 12) (r := (some b)) (v := .int v1) hx hb hfX10 hown hK hI rfl 0 (by decide) (hts (.fieldLink RX10 79 "CashPoolsModel" "accounts" "I") (List.mem_of_getElem? (i := 1) (by decide +kernel))) (fun _ h => h) hv1 dX10_sweep_55 ?_
    refine lv_icmp_ge (tgt := 155) hx hb dX10_sweep_58 (by decide) (fun hc => ?_) (fun hc => ?_)
    · have hw := hw.1 hc
      exact j_vretz hx hb hr hlocks hI hw (by omega) (by omega) dX10_sweep_155
    · have hw := hw.2 hc
      refine j_aload_n (r := (some b)) hx hb dX10_sweep_61 rfl (lv_at hl 0 rfl) ?_
      refine lv_iload_n hx hb dX10_sweep_62 rfl (lv_at hl 1 rfl) ?_
      obtain ⟨hfs, hw⟩ := hw
      refine j_goz hI (va_runV (As := [.int x1]) (rest := []) ⟨hx, hb, hml, hown, hts⟩ (kX10_isTop l hfl D z b x1 μ H.size _) (cwV 1 hts gX10_sweep_X10_isTop rfl rfl rfl (by decide +kernel) ⟨Nat.le_of_ble_eq_true rfl, Nat.le_of_ble_eq_true rfl⟩) (j_prV2z hK hG hI hw (ci := 12) rfl hfs) rfl rfl hl.1 rfl (lv_room (Nat.le_of_ble_eq_true rfl)) dX10_sweep_63 ⟨by show _ ≤ 0; omega, by show _ ≤ 0; omega⟩) (fun v2 μ3 H locs hw hI => ?_)
      refine W.eq (g2 := F0 m 66 ls [.int v2]) rfl ?_
      refine lv_if_ne (tgt := 149) hx hb dX10_sweep_66 (by decide) (fun hc => ?_) (fun hc => ?_)
      · have hw := hw.1 hc
        obtain ⟨v4, ev4⟩ : ∃ y : Int32, y = x1 + (1 : Int32) := ⟨_, rfl⟩
        have hw := hw v4 ev4
        refine lv_iinc (v := v4) (lv' := [(1, .int v4), (0, va_rf (some b))]) hx hb dX10_sweep_149 hl (k := 1) rfl (by rw [ev4]; rfl) (by decide) rfl (fun ls hl => ?_)
        refine lv_goto (tgt := 53) hx hb dX10_sweep_152 (by decide) ?_
        exact ih hw hI (lv_sub hl [1, 0] rfl) (by omega) (by omega)
      · have hw := hw.2 hc
        refine j_aload_n (r := (some b)) hx hb dX10_sweep_69 rfl (lv_at hl 0 rfl) ?_
        refine lv_iload_n hx hb dX10_sweep_70 rfl (lv_at hl 1 rfl) ?_
        obtain ⟨hfs, hw⟩ := hw
        refine j_goz hI (va_runV (As := [.int x1]) (rest := []) ⟨hx, hb, hml, hown, hts⟩ (kX10_surplus l hfl D z b x1 μ3 H.size _) (cwV 1 hts gX10_sweep_X10_surplus rfl rfl rfl (by decide +kernel) ⟨Nat.le_of_ble_eq_true rfl, Nat.le_of_ble_eq_true rfl⟩) (j_prV2z hK hG hI hw (ci := 12) rfl hfs) rfl rfl hl.1 rfl (lv_room (Nat.le_of_ble_eq_true rfl)) dX10_sweep_71 ⟨by show _ ≤ 0; omega, by show _ ≤ 0; omega⟩) (fun v5 μ6 H locs hw hI => ?_)
        refine W.eq (g2 := F0 m 74 ls [.long v5]) rfl ?_
        refine lv_lconst (v := (0)) hx hb dX10_sweep_74 (by decide) ?_
        refine j_lcmp_ge (tgt := 149) hx hb dX10_sweep_75 dX10_sweep_76 (by decide) (fun hc => ?_) (fun hc => ?_)
        · have hw := hw.1 hc
          obtain ⟨v7, ev7⟩ : ∃ y : Int32, y = x1 + (1 : Int32) := ⟨_, rfl⟩
          have hw := hw v7 ev7
          refine lv_iinc (v := v7) (lv' := [(1, .int v7), (0, va_rf (some b))]) hx hb dX10_sweep_149 hl (k := 1) rfl (by rw [ev7]; rfl) (by decide) rfl (fun ls hl => ?_)
          refine lv_goto (tgt := 53) hx hb dX10_sweep_152 (by decide) ?_
          exact ih hw hI (lv_sub hl [1, 0] rfl) (by omega) (by omega)
        · have hw := hw.2 hc
          refine j_aload_n (r := (some b)) hx hb dX10_sweep_79 rfl (lv_at hl 0 rfl) ?_
          refine lv_iload_n hx hb dX10_sweep_80 rfl (lv_at hl 1 rfl) ?_
          obtain ⟨hfs, hw⟩ := hw
          refine j_goz hI (va_runV (As := [.int x1]) (rest := []) ⟨hx, hb, hml, hown, hts⟩ (kX10_surplus l hfl D z b x1 μ6 H.size _) (cwV 1 hts gX10_sweep_X10_surplus rfl rfl rfl (by decide +kernel) ⟨Nat.le_of_ble_eq_true rfl, Nat.le_of_ble_eq_true rfl⟩) (j_prV2z hK hG hI hw (ci := 12) rfl hfs) rfl rfl hl.1 rfl (lv_room (Nat.le_of_ble_eq_true rfl)) dX10_sweep_81 ⟨by show _ ≤ 0; omega, by show _ ≤ 0; omega⟩) (fun v8 μ9 H locs hw hI => ?_)
          refine W.eq (g2 := F0 m 84 ls [.long v8]) rfl ?_
          refine lv_lneg hx hb dX10_sweep_84 ?_
          refine lv_topl (fun v10 ev10 => ?_)
          have hw := hw v10 ev10
          refine lv_lstore_n (lv' := [(2, .long v10), (0, va_rf (some b)), (1, .int x1)]) hx hb dX10_sweep_85 rfl hl (by decide) rfl (fun ls hl => ?_)
          refine j_aload_n (r := (some b)) hx hb dX10_sweep_86 rfl (lv_at hl 1 rfl) ?_
          obtain ⟨v11, hv11, hw⟩ := hw
          refine j_getz (C := RX10) (T := TX10) (N := 25) (ci := 12) (r := (some b)) (v := va_rf v11) hx hb hfX10 hown hK hI rfl 3 (by decide) (hts (.fieldLink RX10 7 "CashPoolsModel" "z" "[J") (List.mem_of_getElem? (i := 3) (by decide +kernel))) (fun _ h => h) hv11 dX10_sweep_87 ?_
          refine lv_iconst (v := (0)) hx hb dX10_sweep_90 (by decide) ?_
          refine j_aload_n (r := (some b)) hx hb dX10_sweep_91 rfl (lv_at hl 1 rfl) ?_
          obtain ⟨v12, hv12, hw⟩ := hw
          refine j_getz (C := RX10) (T := TX10) (N := 25) (ci := 12) (r := (some b)) (v := va_rf v12) hx hb hfX10 hown hK hI rfl 5 (by decide) (hts (.fieldLink RX10 16 "CashPoolsModel" "parent" "[I") (List.mem_of_getElem? (i := 2) (by decide +kernel))) (fun _ h => h) hv12 dX10_sweep_92 ?_
          refine lv_iload_n hx hb dX10_sweep_95 rfl (lv_at hl 2 rfl) ?_
          obtain ⟨v13, hv13, hw⟩ := hw
          refine j_ialdz (r := v12) hx hb hK hI hv13 dX10_sweep_96 ?_
          refine lv_iadd hx hb dX10_sweep_97 ?_
          obtain ⟨v14, hv14, hw⟩ := hw
          refine j_laldz (r := v11) hx hb hK hI hv14 dX10_sweep_98 ?_
          refine j_aload_n (r := (some b)) hx hb dX10_sweep_99 rfl (lv_at hl 1 rfl) ?_
          obtain ⟨v15, hv15, hw⟩ := hw
          refine j_getz (C := RX10) (T := TX10) (N := 25) (ci := 12) (r := (some b)) (v := va_rf v15) hx hb hfX10 hown hK hI rfl 10 (by decide) (hts (.fieldLink RX10 32 "CashPoolsModel" "floor" "[I") (List.mem_of_getElem? (i := 4) (by decide +kernel))) (fun _ h => h) hv15 dX10_sweep_100 ?_
          refine j_aload_n (r := (some b)) hx hb dX10_sweep_103 rfl (lv_at hl 1 rfl) ?_
          obtain ⟨v16, hv16, hw⟩ := hw
          refine j_getz (C := RX10) (T := TX10) (N := 25) (ci := 12) (r := (some b)) (v := va_rf v16) hx hb hfX10 hown hK hI rfl 5 (by decide) (hts (.fieldLink RX10 16 "CashPoolsModel" "parent" "[I") (List.mem_of_getElem? (i := 2) (by decide +kernel))) (fun _ h => h) hv16 dX10_sweep_104 ?_
          refine lv_iload_n hx hb dX10_sweep_107 rfl (lv_at hl 2 rfl) ?_
          obtain ⟨v17, hv17, hw⟩ := hw
          refine j_ialdz (r := v16) hx hb hK hI hv17 dX10_sweep_108 ?_
          obtain ⟨v18, hv18, hw⟩ := hw
          refine j_ialdz (r := v15) hx hb hK hI hv18 dX10_sweep_109 ?_
          refine lv_i2l hx hb dX10_sweep_110 rfl ?_
          refine lv_lsub hx hb dX10_sweep_111 ?_
          refine lv_topl (fun v19 ev19 => ?_)
          have hw := hw v19 ev19
          refine lv_lstore (lv' := [(4, .long v19), (2, .long v10), (0, va_rf (some b)), (1, .int x1)]) hx hb dX10_sweep_112 hl (by decide) rfl (fun ls hl => ?_)
          refine j_aload_n (r := (some b)) hx hb dX10_sweep_114 rfl (lv_at hl 2 rfl) ?_
          refine j_aload_n (r := (some b)) hx hb dX10_sweep_115 rfl (lv_at hl 2 rfl) ?_
          obtain ⟨v20, hv20, hw⟩ := hw
          refine j_getz (C := RX10) (T := TX10) (N := 25) (ci := 12) (r := (some b)) (v := va_rf v20) hx hb hfX10 hown hK hI rfl 5 (by decide) (hts (.fieldLink RX10 16 "CashPoolsModel" "parent" "[I") (List.mem_of_getElem? (i := 2) (by decide +kernel))) (fun _ h => h) hv20 dX10_sweep_116 ?_
          refine lv_iload_n hx hb dX10_sweep_119 rfl (lv_at hl 3 rfl) ?_
          obtain ⟨v21, hv21, hw⟩ := hw
          refine j_ialdz (r := v20) hx hb hK hI hv21 dX10_sweep_120 ?_
          refine lv_iload_n hx hb dX10_sweep_121 rfl (lv_at hl 3 rfl) ?_
          refine lv_lload hx hb dX10_sweep_122 (lv_at hl 0 rfl) ?_
          refine lv_lconst (v := (0)) hx hb dX10_sweep_124 (by decide) ?_
          refine j_lcmp_gt (tgt := 133) hx hb dX10_sweep_125 dX10_sweep_126 (by decide) (fun hc => ?_) (fun hc => ?_)
          · have hw := hw.1 hc
            refine lv_lload hx hb dX10_sweep_133 (lv_at hl 0 rfl) ?_
            refine lv_lload_n hx hb dX10_sweep_135 rfl (lv_at hl 1 rfl) ?_
            refine j_lcmp_ge (tgt := 145) hx hb dX10_sweep_136 dX10_sweep_137 (by decide) (fun hc => ?_) (fun hc => ?_)
            · have hw := hw.1 hc
              refine lv_lload_n hx hb dX10_sweep_145 rfl (lv_at hl 1 rfl) ?_
              exact kX10_sweep_146 hX ih hw hI (lv_sub hl [2, 3] rfl) (by omega) (by omega)
            · have hw := hw.2 hc
              refine lv_lload hx hb dX10_sweep_140 (lv_at hl 0 rfl) ?_
              refine lv_goto (tgt := 146) hx hb dX10_sweep_142 (by decide) ?_
              exact kX10_sweep_146 hX ih hw hI (lv_sub hl [2, 3] rfl) (by omega) (by omega)
          · have hw := hw.2 hc
            refine lv_lconst (v := (0)) hx hb dX10_sweep_129 (by decide) ?_
            refine lv_goto (tgt := 146) hx hb dX10_sweep_130 (by decide) ?_
            exact kX10_sweep_146 hX ih hw hI (lv_sub hl [2, 3] rfl) (by omega) (by omega)
set_option maxHeartbeats 4000000 in
set_option maxRecDepth 100000 in
theorem kX10_sweep_7 {b : Nat} (hX : jX2 D z A p l s m args meth c yX10_sweep cX10_sweep 6 wsX10_sweep none) {Q : Unit → jM → Prop}  (n : Nat) : ∀ {x1 : Int32} {μ : jM} {H : Heap} {locs : List Loc} {ls : Array Slot} {cells slots : Nat}, wX10_sweep_7 z b Q n x1 μ → jIz D z A s.heap μ H locs → lv_has ls 6 [(0, va_rf (some b)), (1, .int x1)] → cells + 0 ≤ 0 → slots + 0 ≤ 0 → W p l e rmX10_sweep s m args below meth c H locs cells slots (MQ below (jRz jfV Q D z A) args s 0 0 A) (F0 m 7 ls []) := by
  induction n with
  | zero =>
    intros
    rename_i hw _ _ _ _
    exact (show False from hw).elim
  | succ n ih =>
    intro x1 μ H locs ls cells slots hw hI hl hcn hsn
    have hw : wX10_sweep_7_b z b Q (wX10_sweep_7 z b Q n) x1 μ := hw
    unfold wX10_sweep_7_b at hw
    obtain ⟨hx, hb, hml, hown, hts, hr, hlocks, hnm, hK, hG, hfl⟩ := id hX
    have hown : s.vm.findClass RX10 = some m.cls := hown
    have hfX10 : ∀ w ∈ wsX100, w.before args s = true := fun w h => hts w (List.mem_cons_of_mem _ (List.mem_append_right _ h))
    refine lv_iload_n hx hb dX10_sweep_7 rfl (lv_at hl 1 rfl) ?_
    refine lv_if_lt (tgt := 51) hx hb dX10_sweep_8 (by decide) (fun hc => ?_) (fun hc => ?_)
    · have hw := hw.1 hc
      refine lv_iconst (v := (0)) hx hb dX10_sweep_51 (by decide) ?_
      refine lv_topi (fun v1 ev1 => ?_)
      have hw := hw v1 ev1
      refine lv_istore_n (lv' := [(1, .int v1), (0, va_rf (some b))]) hx hb dX10_sweep_52 rfl hl (by decide) rfl (fun ls hl => ?_)
      obtain ⟨n2, hw⟩ := hw
      exact kX10_sweep_53 hX  n2 hw hI (lv_sub hl [1, 0] rfl) (by omega) (by omega)
    · have hw := hw.2 hc
      refine j_aload_n (r := (some b)) hx hb dX10_sweep_11 rfl (lv_at hl 0 rfl) ?_
      refine lv_iload_n hx hb dX10_sweep_12 rfl (lv_at hl 1 rfl) ?_
      obtain ⟨hfs, hw⟩ := hw
      refine j_goz hI (va_runV (As := [.int x1]) (rest := []) ⟨hx, hb, hml, hown, hts⟩ (kX10_isTop l hfl D z b x1 μ H.size _) (cwV 1 hts gX10_sweep_X10_isTop rfl rfl rfl (by decide +kernel) ⟨Nat.le_of_ble_eq_true rfl, Nat.le_of_ble_eq_true rfl⟩) (j_prV2z hK hG hI hw (ci := 12) rfl hfs) rfl rfl hl.1 rfl (lv_room (Nat.le_of_ble_eq_true rfl)) dX10_sweep_13 ⟨by show _ ≤ 0; omega, by show _ ≤ 0; omega⟩) (fun v3 μ4 H locs hw hI => ?_)
      refine W.eq (g2 := F0 m 16 ls [.int v3]) rfl ?_
      refine lv_if_ne (tgt := 45) hx hb dX10_sweep_16 (by decide) (fun hc => ?_) (fun hc => ?_)
      · have hw := hw.1 hc
        obtain ⟨v5, ev5⟩ : ∃ y : Int32, y = x1 + (-1 : Int32) := ⟨_, rfl⟩
        have hw := hw v5 ev5
        refine lv_iinc (v := v5) (lv' := [(1, .int v5), (0, va_rf (some b))]) hx hb dX10_sweep_45 hl (k := 1) rfl (by rw [ev5]; rfl) (by decide) rfl (fun ls hl => ?_)
        refine lv_goto (tgt := 7) hx hb dX10_sweep_48 (by decide) ?_
        exact ih hw hI (lv_sub hl [1, 0] rfl) (by omega) (by omega)
      · have hw := hw.2 hc
        refine j_aload_n (r := (some b)) hx hb dX10_sweep_19 rfl (lv_at hl 0 rfl) ?_
        refine lv_iload_n hx hb dX10_sweep_20 rfl (lv_at hl 1 rfl) ?_
        obtain ⟨hfs, hw⟩ := hw
        refine j_goz hI (va_runV (As := [.int x1]) (rest := []) ⟨hx, hb, hml, hown, hts⟩ (kX10_surplus l hfl D z b x1 μ4 H.size _) (cwV 1 hts gX10_sweep_X10_surplus rfl rfl rfl (by decide +kernel) ⟨Nat.le_of_ble_eq_true rfl, Nat.le_of_ble_eq_true rfl⟩) (j_prV2z hK hG hI hw (ci := 12) rfl hfs) rfl rfl hl.1 rfl (lv_room (Nat.le_of_ble_eq_true rfl)) dX10_sweep_21 ⟨by show _ ≤ 0; omega, by show _ ≤ 0; omega⟩) (fun v6 μ7 H locs hw hI => ?_)
        refine W.eq (g2 := F0 m 24 ls [.long v6]) rfl ?_
        refine lv_lconst (v := (0)) hx hb dX10_sweep_24 (by decide) ?_
        refine j_lcmp_le (tgt := 45) hx hb dX10_sweep_25 dX10_sweep_26 (by decide) (fun hc => ?_) (fun hc => ?_)
        · have hw := hw.1 hc
          obtain ⟨v8, ev8⟩ : ∃ y : Int32, y = x1 + (-1 : Int32) := ⟨_, rfl⟩
          have hw := hw v8 ev8
          refine lv_iinc (v := v8) (lv' := [(1, .int v8), (0, va_rf (some b))]) hx hb dX10_sweep_45 hl (k := 1) rfl (by rw [ev8]; rfl) (by decide) rfl (fun ls hl => ?_)
          refine lv_goto (tgt := 7) hx hb dX10_sweep_48 (by decide) ?_
          exact ih hw hI (lv_sub hl [1, 0] rfl) (by omega) (by omega)
        · have hw := hw.2 hc
          refine j_aload_n (r := (some b)) hx hb dX10_sweep_29 rfl (lv_at hl 0 rfl) ?_
          refine lv_iload_n hx hb dX10_sweep_30 rfl (lv_at hl 1 rfl) ?_
          refine j_aload_n (r := (some b)) hx hb dX10_sweep_31 rfl (lv_at hl 0 rfl) ?_
          obtain ⟨v9, hv9, hw⟩ := hw
          refine j_getz (C := RX10) (T := TX10) (N := 25) (ci := 12) (r := (some b)) (v := va_rf v9) hx hb hfX10 hown hK hI rfl 5 (by decide) (hts (.fieldLink RX10 16 "CashPoolsModel" "parent" "[I") (List.mem_of_getElem? (i := 2) (by decide +kernel))) (fun _ h => h) hv9 dX10_sweep_32 ?_
          refine lv_iload_n hx hb dX10_sweep_35 rfl (lv_at hl 1 rfl) ?_
          obtain ⟨v10, hv10, hw⟩ := hw
          refine j_ialdz (r := v9) hx hb hK hI hv10 dX10_sweep_36 ?_
          refine j_aload_n (r := (some b)) hx hb dX10_sweep_37 rfl (lv_at hl 0 rfl) ?_
          refine lv_iload_n hx hb dX10_sweep_38 rfl (lv_at hl 1 rfl) ?_
          obtain ⟨hfs, hw⟩ := hw
          refine j_goz hI (va_runV (As := [.int x1]) (rest := [.int v10, .int x1, va_rf (some b)]) ⟨hx, hb, hml, hown, hts⟩ (kX10_surplus l hfl D z b x1 μ7 H.size _) (cwV 1 hts gX10_sweep_X10_surplus rfl rfl rfl (by decide +kernel) ⟨Nat.le_of_ble_eq_true rfl, Nat.le_of_ble_eq_true rfl⟩) (j_prV2z hK hG hI hw (ci := 12) rfl hfs) rfl rfl hl.1 rfl (lv_room (Nat.le_of_ble_eq_true rfl)) dX10_sweep_39 ⟨by show _ ≤ 0; omega, by show _ ≤ 0; omega⟩) (fun v11 μ12 H locs hw hI => ?_)
          refine W.eq (g2 := F0 m 42 ls [.long v11, .int v10, .int x1, va_rf (some b)]) rfl ?_
          obtain ⟨hfs, hw⟩ := hw
          refine j_goz hI (va_runV (As := [.int x1, .int v10, .long v11]) (rest := []) ⟨hx, hb, hml, hown, hts⟩ (kX10_moves l hfl D z b x1 v10 v11 μ12 H.size _) (cwV 3 hts gX10_sweep_X10_moves rfl rfl rfl (by decide +kernel) ⟨Nat.le_of_ble_eq_true rfl, Nat.le_of_ble_eq_true rfl⟩) (j_prV2z hK hG hI hw (ci := 12) rfl hfs) rfl rfl hl.1 rfl (lv_room (Nat.le_of_ble_eq_true rfl)) dX10_sweep_42 ⟨by show _ ≤ 0; omega, by show _ ≤ 0; omega⟩) (fun u13 μ14 H locs hw hI => ?_)
          refine W.eq (g2 := F0 m 45 ls []) rfl ?_
          obtain ⟨v15, ev15⟩ : ∃ y : Int32, y = x1 + (-1 : Int32) := ⟨_, rfl⟩
          have hw := hw v15 ev15
          refine lv_iinc (v := v15) (lv' := [(1, .int v15), (0, va_rf (some b))]) hx hb dX10_sweep_45 hl (k := 1) rfl (by rw [ev15]; rfl) (by decide) rfl (fun ls hl => ?_)
          refine lv_goto (tgt := 7) hx hb dX10_sweep_48 (by decide) ?_
          exact ih hw hI (lv_sub hl [1, 0] rfl) (by omega) (by omega)
set_option maxHeartbeats 4000000 in
set_option maxRecDepth 100000 in
theorem kX10_sweep_0 {b : Nat} (hX : jX2 D z A p l s m args meth c yX10_sweep cX10_sweep 6 wsX10_sweep none) {Q : Unit → jM → Prop}   {μ : jM} {H : Heap} {locs : List Loc} {ls : Array Slot} {cells slots : Nat} (hw : wX10_sweep_0 z b Q  μ) (hI : jIz D z A s.heap μ H locs) (hl : lv_has ls 6 [(0, va_rf (some b))]) (hcn : cells + 0 ≤ 0) (hsn : slots + 0 ≤ 0) : W p l e rmX10_sweep s m args below meth c H locs cells slots (MQ below (jRz jfV Q D z A) args s 0 0 A) (F0 m 0 ls []) := by
  unfold wX10_sweep_0 at hw
  obtain ⟨hx, hb, hml, hown, hts, hr, hlocks, hnm, hK, hG, hfl⟩ := id hX
  have hown : s.vm.findClass RX10 = some m.cls := hown
  have hfX10 : ∀ w ∈ wsX100, w.before args s = true := fun w h => hts w (List.mem_cons_of_mem _ (List.mem_append_right _ h))
  refine j_aload_n (r := (some b)) hx hb dX10_sweep_0 rfl (lv_at hl 0 rfl) ?_
  obtain ⟨v1, hv1, hw⟩ := hw
  refine j_getz (C := RX10) (T := TX10) (N := 25) (ci := 12) (r := (some b)) (v := .int v1) hx hb hfX10 hown hK hI rfl 0 (by decide) (hts (.fieldLink RX10 79 "CashPoolsModel" "accounts" "I") (List.mem_of_getElem? (i := 1) (by decide +kernel))) (fun _ h => h) hv1 dX10_sweep_1 ?_
  refine lv_iconst (v := (1)) hx hb dX10_sweep_4 (by decide) ?_
  refine lv_isub hx hb dX10_sweep_5 ?_
  refine lv_topi (fun v2 ev2 => ?_)
  have hw := hw v2 ev2
  refine lv_istore_n (lv' := [(1, .int v2), (0, va_rf (some b))]) hx hb dX10_sweep_6 rfl hl (by decide) rfl (fun ls hl => ?_)
  obtain ⟨n3, hw⟩ := hw
  exact kX10_sweep_7 hX  n3 hw hI (lv_sub hl [1, 0] rfl) (by omega) (by omega)
set_option maxHeartbeats 4000000 in
set_option maxRecDepth 100000 in
theorem kX10_sweep (l : Launch) (hfl : l.stackTraces = false) (D : jD) (z : Nat × Nat) (b : Nat)  (μ : jM) (sz : Nat) (Q : Unit → jM → Prop) : Met l yX10_sweep wsX10_sweep rmX10_sweep (jPre2z D z μ sz [.ref b] (wX10_sweep z b  μ Q)) (jRz jfV Q D z (jA z μ sz)) 0 0 (jA z μ sz) := by
  refine Met.ofW (cc := cX10_sweep) (maxL := 6) (ret := none) (by decide) rfl ?_
  intro p e s m args below meth c s₁ B hml hv
  obtain ⟨rfl, hsz, hH, hz0, hK, hG, hw⟩ := hv
  subst hsz
  have hX : jX2 D z (jA z μ s.heap.size) p l s m _ meth c yX10_sweep cX10_sweep 6 wsX10_sweep none := ⟨B.exec, B.bytes, hml, findClass_of_methodNamed B.named, atoms_spec (ws := wsX10_sweep) B.pre, B.returns, B.notSynchronized, (name_of_methodNamed B.named B.method).1, hK, hG, hfl⟩
  obtain ⟨ls, hg, hl⟩ : ∃ ls : Array Slot, entryFrame m ([.ref b] : List Value).toArray 6 = F0 m 0 ls [] ∧ lv_has ls 6 [(0, va_rf (some b))] := by
    exact ⟨_, lg_entry_eq .., lv_entry _ (n := 6) (Nat.le_of_ble_eq_true rfl)⟩
  rw [hg]
  exact kX10_sweep_0 hX hw (jIz.start hH hz0) (lv_sub hl [0] rfl) (by decide) (by decide)
set_option maxHeartbeats 4000000 in
set_option maxRecDepth 100000 in
theorem kX10_nextLine_74 {b : Nat} (hX : jX2 D z A p l s m args meth c yX10_nextLine cX10_nextLine 6 wsX10_nextLine (some .int)) {Q : Int32 → jM → Prop} {K5 : Int32 → Int32 → Int32 → Int32 → jM → Prop} (hK5 : ∀ {x1 : Int32} {x2 : Int32} {x3 : Int32} {x4 : Int32} {μ : jM} {H : Heap} {locs : List Loc} {ls : Array Slot} {cells slots : Nat}, K5 x1 x2 x3 x4 μ → jIz D z A s.heap μ H locs → lv_has ls 6 [(0, va_rf (some b)), (1, .int x1), (2, .int x2), (3, .int x3), (4, .int x4)] → cells + 0 ≤ 0 → slots + 0 ≤ 0 → W p l e rmX10_nextLine s m args below meth c H locs cells slots (MQ below (jRz jfI Q D z A) args s 0 0 A) (F0 m 5 ls [])) {x1 : Int32} {x2 : Int32} {x3 : Int32} {x4 : Int32} {t0 : Int32} {μ : jM} {H : Heap} {locs : List Loc} {ls : Array Slot} {cells slots : Nat} (hw : wX10_nextLine_74 z b K5 Q x1 x2 x3 x4 t0 μ) (hI : jIz D z A s.heap μ H locs) (hl : lv_has ls 6 [(0, va_rf (some b)), (1, .int x1), (2, .int x2), (3, .int x3), (4, .int x4)]) (hcn : cells + 0 ≤ 0) (hsn : slots + 0 ≤ 0) : W p l e rmX10_nextLine s m args below meth c H locs cells slots (MQ below (jRz jfI Q D z A) args s 0 0 A) (F0 m 74 ls [.int t0]) := by
  unfold wX10_nextLine_74 at hw
  obtain ⟨hx, hb, hml, hown, hts, hr, hlocks, hnm, hK, hG, hfl⟩ := id hX
  have hown : s.vm.findClass RX10 = some m.cls := hown
  have hfX10 : ∀ w ∈ wsX100, w.before args s = true := fun w h => hts w (List.mem_cons_of_mem _ (List.mem_append_right _ h))
  refine lv_istore (lv' := [(5, .int t0), (0, va_rf (some b)), (1, .int x1), (2, .int x2), (3, .int x3), (4, .int x4)]) hx hb dX10_nextLine_74 hl (by decide) rfl (fun ls hl => ?_)
  refine lv_iload hx hb dX10_nextLine_76 (lv_at hl 0 rfl) ?_
  refine lv_if_eq (tgt := 128) hx hb dX10_nextLine_78 (by decide) (fun hc => ?_) (fun hc => ?_)
  · have hw := hw.1 hc
    obtain ⟨v1, ev1⟩ : ∃ y : Int32, y = x4 + (1 : Int32) := ⟨_, rfl⟩
    have hw := hw v1 ev1
    refine lv_iinc (v := v1) (lv' := [(4, .int v1), (5, .int t0), (0, va_rf (some b)), (1, .int x1), (2, .int x2), (3, .int x3)]) hx hb dX10_nextLine_128 hl (k := 5) rfl (by rw [ev1]; rfl) (by decide) rfl (fun ls hl => ?_)
    refine lv_goto (tgt := 5) hx hb dX10_nextLine_131 (by decide) ?_
    exact hK5 hw hI (lv_sub hl [2, 3, 4, 5, 0] rfl) (by omega) (by omega)
  · have hw := hw.2 hc
    refine lv_iload_n hx hb dX10_nextLine_81 rfl (lv_at hl 4 rfl) ?_
    refine lv_iconst (v := (-1)) hx hb dX10_nextLine_82 (by decide) ?_
    refine lv_icmp_eq (tgt := 125) hx hb dX10_nextLine_83 (by decide) (fun hc => ?_) (fun hc => ?_)
    · have hw := hw.1 hc
      refine lv_iload hx hb dX10_nextLine_125 (lv_at hl 5 rfl) ?_
      refine lv_istore_n (lv' := [(3, .int x4), (5, .int t0), (0, va_rf (some b)), (1, .int x1), (2, .int x2), (4, .int x4)]) hx hb dX10_nextLine_127 rfl hl (by decide) rfl (fun ls hl => ?_)
      obtain ⟨v2, ev2⟩ : ∃ y : Int32, y = x4 + (1 : Int32) := ⟨_, rfl⟩
      have hw := hw v2 ev2
      refine lv_iinc (v := v2) (lv' := [(4, .int v2), (3, .int x4), (5, .int t0), (0, va_rf (some b)), (1, .int x1), (2, .int x2)]) hx hb dX10_nextLine_128 hl (k := 5) rfl (by rw [ev2]; rfl) (by decide) rfl (fun ls hl => ?_)
      refine lv_goto (tgt := 5) hx hb dX10_nextLine_131 (by decide) ?_
      exact hK5 hw hI (lv_sub hl [3, 4, 5, 1, 0] rfl) (by omega) (by omega)
    · have hw := hw.2 hc
      refine lv_iload_n hx hb dX10_nextLine_86 rfl (lv_at hl 3 rfl) ?_
      refine lv_if_eq (tgt := 109) hx hb dX10_nextLine_87 (by decide) (fun hc => ?_) (fun hc => ?_)
      · have hw := hw.1 hc
        refine j_aload_n (r := (some b)) hx hb dX10_nextLine_109 rfl (lv_at hl 1 rfl) ?_
        obtain ⟨v3, hv3, hw⟩ := hw
        refine j_getz (C := RX10) (T := TX10) (N := 25) (ci := 12) (r := (some b)) (v := va_rf v3) hx hb hfX10 hown hK hI rfl 15 (by decide) (hts (.fieldLink RX10 47 "CashPoolsModel" "lineRate" "[I") (List.mem_of_getElem? (i := 5) (by decide +kernel))) (fun _ h => h) hv3 dX10_nextLine_110 ?_
        refine lv_iload hx hb dX10_nextLine_113 (lv_at hl 5 rfl) ?_
        obtain ⟨v4, hv4, hw⟩ := hw
        refine j_ialdz (r := v3) hx hb hK hI hv4 dX10_nextLine_115 ?_
        refine j_aload_n (r := (some b)) hx hb dX10_nextLine_116 rfl (lv_at hl 1 rfl) ?_
        obtain ⟨v5, hv5, hw⟩ := hw
        refine j_getz (C := RX10) (T := TX10) (N := 25) (ci := 12) (r := (some b)) (v := va_rf v5) hx hb hfX10 hown hK hI rfl 15 (by decide) (hts (.fieldLink RX10 47 "CashPoolsModel" "lineRate" "[I") (List.mem_of_getElem? (i := 5) (by decide +kernel))) (fun _ h => h) hv5 dX10_nextLine_117 ?_
        refine lv_iload_n hx hb dX10_nextLine_120 rfl (lv_at hl 4 rfl) ?_
        obtain ⟨v6, hv6, hw⟩ := hw
        refine j_ialdz (r := v5) hx hb hK hI hv6 dX10_nextLine_121 ?_
        refine lv_icmp_lt (tgt := 128) hx hb dX10_nextLine_122 (by decide) (fun hc => ?_) (fun hc => ?_)
        · have hw := hw.1 hc
          obtain ⟨v7, ev7⟩ : ∃ y : Int32, y = x4 + (1 : Int32) := ⟨_, rfl⟩
          have hw := hw v7 ev7
          refine lv_iinc (v := v7) (lv' := [(4, .int v7), (5, .int t0), (0, va_rf (some b)), (1, .int x1), (2, .int x2), (3, .int x3)]) hx hb dX10_nextLine_128 hl (k := 5) rfl (by rw [ev7]; rfl) (by decide) rfl (fun ls hl => ?_)
          refine lv_goto (tgt := 5) hx hb dX10_nextLine_131 (by decide) ?_
          exact hK5 hw hI (lv_sub hl [2, 3, 4, 5, 0] rfl) (by omega) (by omega)
        · have hw := hw.2 hc
          refine lv_iload hx hb dX10_nextLine_125 (lv_at hl 5 rfl) ?_
          refine lv_istore_n (lv' := [(3, .int x4), (5, .int t0), (0, va_rf (some b)), (1, .int x1), (2, .int x2), (4, .int x4)]) hx hb dX10_nextLine_127 rfl hl (by decide) rfl (fun ls hl => ?_)
          obtain ⟨v8, ev8⟩ : ∃ y : Int32, y = x4 + (1 : Int32) := ⟨_, rfl⟩
          have hw := hw v8 ev8
          refine lv_iinc (v := v8) (lv' := [(4, .int v8), (3, .int x4), (5, .int t0), (0, va_rf (some b)), (1, .int x1), (2, .int x2)]) hx hb dX10_nextLine_128 hl (k := 5) rfl (by rw [ev8]; rfl) (by decide) rfl (fun ls hl => ?_)
          refine lv_goto (tgt := 5) hx hb dX10_nextLine_131 (by decide) ?_
          exact hK5 hw hI (lv_sub hl [3, 4, 5, 1, 0] rfl) (by omega) (by omega)
      · have hw := hw.2 hc
        refine j_aload_n (r := (some b)) hx hb dX10_nextLine_90 rfl (lv_at hl 1 rfl) ?_
        obtain ⟨v9, hv9, hw⟩ := hw
        refine j_getz (C := RX10) (T := TX10) (N := 25) (ci := 12) (r := (some b)) (v := va_rf v9) hx hb hfX10 hown hK hI rfl 15 (by decide) (hts (.fieldLink RX10 47 "CashPoolsModel" "lineRate" "[I") (List.mem_of_getElem? (i := 5) (by decide +kernel))) (fun _ h => h) hv9 dX10_nextLine_91 ?_
        refine lv_iload hx hb dX10_nextLine_94 (lv_at hl 5 rfl) ?_
        obtain ⟨v10, hv10, hw⟩ := hw
        refine j_ialdz (r := v9) hx hb hK hI hv10 dX10_nextLine_96 ?_
        refine j_aload_n (r := (some b)) hx hb dX10_nextLine_97 rfl (lv_at hl 1 rfl) ?_
        obtain ⟨v11, hv11, hw⟩ := hw
        refine j_getz (C := RX10) (T := TX10) (N := 25) (ci := 12) (r := (some b)) (v := va_rf v11) hx hb hfX10 hown hK hI rfl 15 (by decide) (hts (.fieldLink RX10 47 "CashPoolsModel" "lineRate" "[I") (List.mem_of_getElem? (i := 5) (by decide +kernel))) (fun _ h => h) hv11 dX10_nextLine_98 ?_
        refine lv_iload_n hx hb dX10_nextLine_101 rfl (lv_at hl 4 rfl) ?_
        obtain ⟨v12, hv12, hw⟩ := hw
        refine j_ialdz (r := v11) hx hb hK hI hv12 dX10_nextLine_102 ?_
        refine lv_icmp_ge (tgt := 128) hx hb dX10_nextLine_103 (by decide) (fun hc => ?_) (fun hc => ?_)
        · have hw := hw.1 hc
          obtain ⟨v13, ev13⟩ : ∃ y : Int32, y = x4 + (1 : Int32) := ⟨_, rfl⟩
          have hw := hw v13 ev13
          refine lv_iinc (v := v13) (lv' := [(4, .int v13), (5, .int t0), (0, va_rf (some b)), (1, .int x1), (2, .int x2), (3, .int x3)]) hx hb dX10_nextLine_128 hl (k := 5) rfl (by rw [ev13]; rfl) (by decide) rfl (fun ls hl => ?_)
          refine lv_goto (tgt := 5) hx hb dX10_nextLine_131 (by decide) ?_
          exact hK5 hw hI (lv_sub hl [2, 3, 4, 5, 0] rfl) (by omega) (by omega)
        · have hw := hw.2 hc
          refine lv_goto (tgt := 125) hx hb dX10_nextLine_106 (by decide) ?_
          refine lv_iload hx hb dX10_nextLine_125 (lv_at hl 5 rfl) ?_
          refine lv_istore_n (lv' := [(3, .int x4), (5, .int t0), (0, va_rf (some b)), (1, .int x1), (2, .int x2), (4, .int x4)]) hx hb dX10_nextLine_127 rfl hl (by decide) rfl (fun ls hl => ?_)
          obtain ⟨v14, ev14⟩ : ∃ y : Int32, y = x4 + (1 : Int32) := ⟨_, rfl⟩
          have hw := hw v14 ev14
          refine lv_iinc (v := v14) (lv' := [(4, .int v14), (3, .int x4), (5, .int t0), (0, va_rf (some b)), (1, .int x1), (2, .int x2)]) hx hb dX10_nextLine_128 hl (k := 5) rfl (by rw [ev14]; rfl) (by decide) rfl (fun ls hl => ?_)
          refine lv_goto (tgt := 5) hx hb dX10_nextLine_131 (by decide) ?_
          exact hK5 hw hI (lv_sub hl [3, 4, 5, 1, 0] rfl) (by omega) (by omega)
set_option maxHeartbeats 4000000 in
set_option maxRecDepth 100000 in
theorem kX10_nextLine_69 {b : Nat} (hX : jX2 D z A p l s m args meth c yX10_nextLine cX10_nextLine 6 wsX10_nextLine (some .int)) {Q : Int32 → jM → Prop} {K5 : Int32 → Int32 → Int32 → Int32 → jM → Prop} (hK5 : ∀ {x1 : Int32} {x2 : Int32} {x3 : Int32} {x4 : Int32} {μ : jM} {H : Heap} {locs : List Loc} {ls : Array Slot} {cells slots : Nat}, K5 x1 x2 x3 x4 μ → jIz D z A s.heap μ H locs → lv_has ls 6 [(0, va_rf (some b)), (1, .int x1), (2, .int x2), (3, .int x3), (4, .int x4)] → cells + 0 ≤ 0 → slots + 0 ≤ 0 → W p l e rmX10_nextLine s m args below meth c H locs cells slots (MQ below (jRz jfI Q D z A) args s 0 0 A) (F0 m 5 ls [])) {x1 : Int32} {x2 : Int32} {x3 : Int32} {x4 : Int32} {μ : jM} {H : Heap} {locs : List Loc} {ls : Array Slot} {cells slots : Nat} (hw : wX10_nextLine_69 z b K5 Q x1 x2 x3 x4 μ) (hI : jIz D z A s.heap μ H locs) (hl : lv_has ls 6 [(0, va_rf (some b)), (1, .int x1), (2, .int x2), (3, .int x3), (4, .int x4)]) (hcn : cells + 0 ≤ 0) (hsn : slots + 0 ≤ 0) : W p l e rmX10_nextLine s m args below meth c H locs cells slots (MQ below (jRz jfI Q D z A) args s 0 0 A) (F0 m 69 ls []) := by
  unfold wX10_nextLine_69 at hw
  obtain ⟨hx, hb, hml, hown, hts, hr, hlocks, hnm, hK, hG, hfl⟩ := id hX
  have hown : s.vm.findClass RX10 = some m.cls := hown
  refine lv_iconst (v := (1)) hx hb dX10_nextLine_69 (by decide) ?_
  refine lv_goto (tgt := 74) hx hb dX10_nextLine_70 (by decide) ?_
  exact kX10_nextLine_74 hX hK5 hw hI (lv_sub hl [0, 1, 2, 3, 4] rfl) (by omega) (by omega)
set_option maxHeartbeats 4000000 in
set_option maxRecDepth 100000 in
theorem kX10_nextLine_73 {b : Nat} (hX : jX2 D z A p l s m args meth c yX10_nextLine cX10_nextLine 6 wsX10_nextLine (some .int)) {Q : Int32 → jM → Prop} {K5 : Int32 → Int32 → Int32 → Int32 → jM → Prop} (hK5 : ∀ {x1 : Int32} {x2 : Int32} {x3 : Int32} {x4 : Int32} {μ : jM} {H : Heap} {locs : List Loc} {ls : Array Slot} {cells slots : Nat}, K5 x1 x2 x3 x4 μ → jIz D z A s.heap μ H locs → lv_has ls 6 [(0, va_rf (some b)), (1, .int x1), (2, .int x2), (3, .int x3), (4, .int x4)] → cells + 0 ≤ 0 → slots + 0 ≤ 0 → W p l e rmX10_nextLine s m args below meth c H locs cells slots (MQ below (jRz jfI Q D z A) args s 0 0 A) (F0 m 5 ls [])) {x1 : Int32} {x2 : Int32} {x3 : Int32} {x4 : Int32} {μ : jM} {H : Heap} {locs : List Loc} {ls : Array Slot} {cells slots : Nat} (hw : wX10_nextLine_73 z b K5 Q x1 x2 x3 x4 μ) (hI : jIz D z A s.heap μ H locs) (hl : lv_has ls 6 [(0, va_rf (some b)), (1, .int x1), (2, .int x2), (3, .int x3), (4, .int x4)]) (hcn : cells + 0 ≤ 0) (hsn : slots + 0 ≤ 0) : W p l e rmX10_nextLine s m args below meth c H locs cells slots (MQ below (jRz jfI Q D z A) args s 0 0 A) (F0 m 73 ls []) := by
  unfold wX10_nextLine_73 at hw
  obtain ⟨hx, hb, hml, hown, hts, hr, hlocks, hnm, hK, hG, hfl⟩ := id hX
  have hown : s.vm.findClass RX10 = some m.cls := hown
  refine lv_iconst (v := (0)) hx hb dX10_nextLine_73 (by decide) ?_
  exact kX10_nextLine_74 hX hK5 hw hI (lv_sub hl [0, 1, 2, 3, 4] rfl) (by omega) (by omega)
set_option maxHeartbeats 4000000 in
set_option maxRecDepth 100000 in
theorem kX10_nextLine_5 {b : Nat} (hX : jX2 D z A p l s m args meth c yX10_nextLine cX10_nextLine 6 wsX10_nextLine (some .int)) {Q : Int32 → jM → Prop}  (n : Nat) : ∀ {x1 : Int32} {x2 : Int32} {x3 : Int32} {x4 : Int32} {μ : jM} {H : Heap} {locs : List Loc} {ls : Array Slot} {cells slots : Nat}, wX10_nextLine_5 z b Q n x1 x2 x3 x4 μ → jIz D z A s.heap μ H locs → lv_has ls 6 [(0, va_rf (some b)), (1, .int x1), (2, .int x2), (3, .int x3), (4, .int x4)] → cells + 0 ≤ 0 → slots + 0 ≤ 0 → W p l e rmX10_nextLine s m args below meth c H locs cells slots (MQ below (jRz jfI Q D z A) args s 0 0 A) (F0 m 5 ls []) := by
  induction n with
  | zero =>
    intros
    rename_i hw _ _ _ _
    exact (show False from hw).elim
  | succ n ih =>
    intro x1 x2 x3 x4 μ H locs ls cells slots hw hI hl hcn hsn
    have hw : wX10_nextLine_5_b z b Q (wX10_nextLine_5 z b Q n) x1 x2 x3 x4 μ := hw
    unfold wX10_nextLine_5_b at hw
    obtain ⟨hx, hb, hml, hown, hts, hr, hlocks, hnm, hK, hG, hfl⟩ := id hX
    have hown : s.vm.findClass RX10 = some m.cls := hown
    have hfX10 : ∀ w ∈ wsX100, w.before args s = true := fun w h => hts w (List.mem_cons_of_mem _ (List.mem_append_right _ h))
    refine lv_iload hx hb dX10_nextLine_5 (lv_at hl 4 rfl) ?_
    refine j_aload_n (r := (some b)) hx hb dX10_nextLine_7 rfl (lv_at hl 0 rfl) ?_
    obtain ⟨v1, hv1, hw⟩ := hw
    refine j_getz (C := RX10) (T := TX10) (N := 25) (ci := 12) (r := (some b)) (v := .int v1) hx hb hfX10 hown hK hI rfl 1 (by decide) (hts (.fieldLink RX10 106 "CashPoolsModel" "lines" "I") (List.mem_of_getElem? (i := 1) (by decide +kernel))) (fun _ h => h) hv1 dX10_nextLine_8 ?_
    refine lv_icmp_ge (tgt := 134) hx hb dX10_nextLine_11 (by decide) (fun hc => ?_) (fun hc => ?_)
    · have hw := hw.1 hc
      refine lv_iload_n hx hb dX10_nextLine_134 rfl (lv_at hl 3 rfl) ?_
      exact j_iretz hx hb hr hlocks hI hw (by omega) (by omega) dX10_nextLine_135
    · have hw := hw.2 hc
      refine j_aload_n (r := (some b)) hx hb dX10_nextLine_14 rfl (lv_at hl 0 rfl) ?_
      obtain ⟨v2, hv2, hw⟩ := hw
      refine j_getz (C := RX10) (T := TX10) (N := 25) (ci := 12) (r := (some b)) (v := va_rf v2) hx hb hfX10 hown hK hI rfl 13 (by decide) (hts (.fieldLink RX10 41 "CashPoolsModel" "linePool" "[I") (List.mem_of_getElem? (i := 2) (by decide +kernel))) (fun _ h => h) hv2 dX10_nextLine_15 ?_
      refine lv_iload hx hb dX10_nextLine_18 (lv_at hl 4 rfl) ?_
      obtain ⟨v3, hv3, hw⟩ := hw
      refine j_ialdz (r := v2) hx hb hK hI hv3 dX10_nextLine_20 ?_
      refine lv_iload_n hx hb dX10_nextLine_21 rfl (lv_at hl 1 rfl) ?_
      refine lv_icmp_ne (tgt := 73) hx hb dX10_nextLine_22 (by decide) (fun hc => ?_) (fun hc => ?_)
      · have hw := hw.1 hc
        exact kX10_nextLine_73 hX ih hw hI (lv_sub hl [0, 1, 2, 3, 4] rfl) (by omega) (by omega)
      · have hw := hw.2 hc
        refine lv_iload_n hx hb dX10_nextLine_25 rfl (lv_at hl 2 rfl) ?_
        refine lv_if_eq (tgt := 54) hx hb dX10_nextLine_26 (by decide) (fun hc => ?_) (fun hc => ?_)
        · have hw := hw.1 hc
          refine j_aload_n (r := (some b)) hx hb dX10_nextLine_54 rfl (lv_at hl 0 rfl) ?_
          obtain ⟨v4, hv4, hw⟩ := hw
          refine j_getz (C := RX10) (T := TX10) (N := 25) (ci := 12) (r := (some b)) (v := va_rf v4) hx hb hfX10 hown hK hI rfl 3 (by decide) (hts (.fieldLink RX10 7 "CashPoolsModel" "z" "[J") (List.mem_of_getElem? (i := 3) (by decide +kernel))) (fun _ h => h) hv4 dX10_nextLine_55 ?_
          refine lv_bipush (v := (70)) hx hb dX10_nextLine_58 (by decide) ?_
          refine lv_iload hx hb dX10_nextLine_60 (lv_at hl 4 rfl) ?_
          refine lv_iadd hx hb dX10_nextLine_62 ?_
          obtain ⟨v5, hv5, hw⟩ := hw
          refine j_laldz (r := v4) hx hb hK hI hv5 dX10_nextLine_63 ?_
          refine lv_lconst (v := (0)) hx hb dX10_nextLine_64 (by decide) ?_
          refine j_lcmp_le (tgt := 73) hx hb dX10_nextLine_65 dX10_nextLine_66 (by decide) (fun hc => ?_) (fun hc => ?_)
          · have hw := hw.1 hc
            exact kX10_nextLine_73 hX ih hw hI (lv_sub hl [0, 1, 2, 3, 4] rfl) (by omega) (by omega)
          · have hw := hw.2 hc
            exact kX10_nextLine_69 hX ih hw hI (lv_sub hl [0, 1, 2, 3, 4] rfl) (by omega) (by omega)
        · have hw := hw.2 hc
          refine j_aload_n (r := (some b)) hx hb dX10_nextLine_29 rfl (lv_at hl 0 rfl) ?_
          obtain ⟨v6, hv6, hw⟩ := hw
          refine j_getz (C := RX10) (T := TX10) (N := 25) (ci := 12) (r := (some b)) (v := va_rf v6) hx hb hfX10 hown hK hI rfl 3 (by decide) (hts (.fieldLink RX10 7 "CashPoolsModel" "z" "[J") (List.mem_of_getElem? (i := 3) (by decide +kernel))) (fun _ h => h) hv6 dX10_nextLine_30 ?_
          refine lv_bipush (v := (70)) hx hb dX10_nextLine_33 (by decide) ?_
          refine lv_iload hx hb dX10_nextLine_35 (lv_at hl 4 rfl) ?_
          refine lv_iadd hx hb dX10_nextLine_37 ?_
          obtain ⟨v7, hv7, hw⟩ := hw
          refine j_laldz (r := v6) hx hb hK hI hv7 dX10_nextLine_38 ?_
          refine j_aload_n (r := (some b)) hx hb dX10_nextLine_39 rfl (lv_at hl 0 rfl) ?_
          obtain ⟨v8, hv8, hw⟩ := hw
          refine j_getz (C := RX10) (T := TX10) (N := 25) (ci := 12) (r := (some b)) (v := va_rf v8) hx hb hfX10 hown hK hI rfl 14 (by decide) (hts (.fieldLink RX10 44 "CashPoolsModel" "lineLimit" "[I") (List.mem_of_getElem? (i := 4) (by decide +kernel))) (fun _ h => h) hv8 dX10_nextLine_40 ?_
          refine lv_iload hx hb dX10_nextLine_43 (lv_at hl 4 rfl) ?_
          obtain ⟨v9, hv9, hw⟩ := hw
          refine j_ialdz (r := v8) hx hb hK hI hv9 dX10_nextLine_45 ?_
          refine lv_i2l hx hb dX10_nextLine_46 rfl ?_
          refine j_lcmp_ge (tgt := 73) hx hb dX10_nextLine_47 dX10_nextLine_48 (by decide) (fun hc => ?_) (fun hc => ?_)
          · have hw := hw.1 hc
            exact kX10_nextLine_73 hX ih hw hI (lv_sub hl [0, 1, 2, 3, 4] rfl) (by omega) (by omega)
          · have hw := hw.2 hc
            refine lv_goto (tgt := 69) hx hb dX10_nextLine_51 (by decide) ?_
            exact kX10_nextLine_69 hX ih hw hI (lv_sub hl [0, 1, 2, 3, 4] rfl) (by omega) (by omega)
set_option maxHeartbeats 4000000 in
set_option maxRecDepth 100000 in
theorem kX10_nextLine_0 {b : Nat} (hX : jX2 D z A p l s m args meth c yX10_nextLine cX10_nextLine 6 wsX10_nextLine (some .int)) {Q : Int32 → jM → Prop}  {x1 : Int32} {x2 : Int32} {μ : jM} {H : Heap} {locs : List Loc} {ls : Array Slot} {cells slots : Nat} (hw : wX10_nextLine_0 z b Q x1 x2 μ) (hI : jIz D z A s.heap μ H locs) (hl : lv_has ls 6 [(0, va_rf (some b)), (1, .int x1), (2, .int x2)]) (hcn : cells + 0 ≤ 0) (hsn : slots + 0 ≤ 0) : W p l e rmX10_nextLine s m args below meth c H locs cells slots (MQ below (jRz jfI Q D z A) args s 0 0 A) (F0 m 0 ls []) := by
  unfold wX10_nextLine_0 at hw
  obtain ⟨hx, hb, hml, hown, hts, hr, hlocks, hnm, hK, hG, hfl⟩ := id hX
  have hown : s.vm.findClass RX10 = some m.cls := hown
  refine lv_iconst (v := (-1)) hx hb dX10_nextLine_0 (by decide) ?_
  refine lv_topi (fun v1 ev1 => ?_)
  have hw := hw v1 ev1
  refine lv_istore_n (lv' := [(3, .int v1), (0, va_rf (some b)), (1, .int x1), (2, .int x2)]) hx hb dX10_nextLine_1 rfl hl (by decide) rfl (fun ls hl => ?_)
  refine lv_iconst (v := (0)) hx hb dX10_nextLine_2 (by decide) ?_
  refine lv_topi (fun v2 ev2 => ?_)
  have hw := hw v2 ev2
  refine lv_istore (lv' := [(4, .int v2), (3, .int v1), (0, va_rf (some b)), (1, .int x1), (2, .int x2)]) hx hb dX10_nextLine_3 hl (by decide) rfl (fun ls hl => ?_)
  obtain ⟨n3, hw⟩ := hw
  exact kX10_nextLine_5 hX  n3 hw hI (lv_sub hl [2, 3, 4, 1, 0] rfl) (by omega) (by omega)
set_option maxHeartbeats 4000000 in
set_option maxRecDepth 100000 in
theorem kX10_nextLine (l : Launch) (hfl : l.stackTraces = false) (D : jD) (z : Nat × Nat) (b : Nat) (x1 : Int32) (x2 : Int32) (μ : jM) (sz : Nat) (Q : Int32 → jM → Prop) : Met l yX10_nextLine wsX10_nextLine rmX10_nextLine (jPre2z D z μ sz [.ref b, .int x1, .int x2] (wX10_nextLine z b x1 x2 μ Q)) (jRz jfI Q D z (jA z μ sz)) 0 0 (jA z μ sz) := by
  refine Met.ofW (cc := cX10_nextLine) (maxL := 6) (ret := (some .int)) (by decide) rfl ?_
  intro p e s m args below meth c s₁ B hml hv
  obtain ⟨rfl, hsz, hH, hz0, hK, hG, hw⟩ := hv
  subst hsz
  have hX : jX2 D z (jA z μ s.heap.size) p l s m _ meth c yX10_nextLine cX10_nextLine 6 wsX10_nextLine (some .int) := ⟨B.exec, B.bytes, hml, findClass_of_methodNamed B.named, atoms_spec (ws := wsX10_nextLine) B.pre, B.returns, B.notSynchronized, (name_of_methodNamed B.named B.method).1, hK, hG, hfl⟩
  obtain ⟨ls, hg, hl⟩ : ∃ ls : Array Slot, entryFrame m ([.ref b, .int x1, .int x2] : List Value).toArray 6 = F0 m 0 ls [] ∧ lv_has ls 6 [(0, va_rf (some b)), (1, .int x1), (2, .int x2)] := by
    exact ⟨_, lg_entry_eq .., lv_entry _ (n := 6) (Nat.le_of_ble_eq_true rfl)⟩
  rw [hg]
  exact kX10_nextLine_0 hX hw (jIz.start hH hz0) (lv_sub hl [0, 1, 2] rfl) (by decide) (by decide)
end
