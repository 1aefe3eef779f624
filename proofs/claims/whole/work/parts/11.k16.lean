section
variable {p : Program} {l : Launch} {e : Env} {s : State} {m : MethodId} {args : Array Value} {below : List Frame} {meth : Method} {c : Code} {D : jD} {z : Nat × Nat} {A : Nat → Prop}
set_option maxHeartbeats 4000000 in
set_option maxRecDepth 100000 in
theorem kX10_schedule_96 {b : Nat} (hX : jX2 D z A p l s m args meth c yX10_schedule cX10_schedule 7 wsX10_schedule (some .int)) {Q : Int32 → jM → Prop}  {x1 : Int32} {x2 : Int32} {x3 : Int32} {x4 : Int32} {x5 : Int32} {t0 : Option Nat} {t1 : Int32} {μ : jM} {H : Heap} {locs : List Loc} {ls : Array Slot} {cells slots : Nat} (hw : wX10_schedule_96 z b Q x1 x2 x3 x4 x5 t0 t1 μ) (hI : jIz D z A s.heap μ H locs) (hl : lv_has ls 7 [(0, va_rf (some b)), (1, .int x1), (2, .int x2), (3, .int x3), (4, .int x4), (5, .int x5)]) (hcn : cells + 0 ≤ 0) (hsn : slots + 0 ≤ 0) : W p l e rmX10_schedule s m args below meth c H locs cells slots (MQ below (jRz jfI Q D z A) args s 0 0 A) (F0 m 96 ls [.int t1, va_rf t0]) := by
  unfold wX10_schedule_96 at hw
  obtain ⟨hx, hb, hml, hown, hts, hr, hlocks, hnm, hK, hG, hfl⟩ := id hX
  have hown : s.vm.findClass RX10 = some m.cls := hown
  have hfX10 : ∀ w ∈ wsX100, w.before args s = true := fun w h => hts w (List.mem_cons_of_mem _ (List.mem_append_right _ h))
  obtain ⟨b3, ⟨hrb3, hfs⟩, hw⟩ := hw
  refine j_goz hI (va_runV (As := [.int t1]) (rest := []) ⟨hx, hb, hml, hown, hts⟩ (kX10_can l hfl D z b3 t1 μ H.size _) (cwV 1 hts gX10_schedule_X10_can rfl rfl rfl (by decide +kernel) ⟨Nat.le_of_ble_eq_true rfl, Nat.le_of_ble_eq_true rfl⟩) (j_prV2z hK hG hI hw (ci := 12) rfl hfs) rfl rfl hl.1 (by rw [hrb3]; rfl) (lv_room (Nat.le_of_ble_eq_true rfl)) dX10_schedule_96 ⟨by show _ ≤ 0; omega, by show _ ≤ 0; omega⟩) (fun v1 μ2 H locs hw hI => ?_)
  refine W.eq (g2 := F0 m 99 ls [.int v1]) rfl ?_
  refine lv_if_ne (tgt := 104) hx hb dX10_schedule_99 (by decide) (fun hc => ?_) (fun hc => ?_)
  · have hw := hw.1 hc
    refine j_aload_n (r := (some b)) hx hb dX10_schedule_104 rfl (lv_at hl 0 rfl) ?_
    obtain ⟨v4, hv4, hw⟩ := hw
    refine j_getz (C := RX10) (T := TX10) (N := 25) (ci := 12) (r := (some b)) (v := va_rf v4) hx hb hfX10 hown hK hI rfl 17 (by decide) (hts (.fieldLink RX10 53 "CashPoolsModel" "flowAccount" "[I") (List.mem_of_getElem? (i := 3) (by decide +kernel))) (fun _ h => h) hv4 dX10_schedule_105 ?_
    refine j_aload_n (r := (some b)) hx hb dX10_schedule_108 rfl (lv_at hl 0 rfl) ?_
    obtain ⟨v5, hv5, hw⟩ := hw
    refine j_getz (C := RX10) (T := TX10) (N := 25) (ci := 12) (r := (some b)) (v := .int v5) hx hb hfX10 hown hK hI rfl 2 (by decide) (hts (.fieldLink RX10 164 "CashPoolsModel" "flows" "I") (List.mem_of_getElem? (i := 2) (by decide +kernel))) (fun _ h => h) hv5 dX10_schedule_109 ?_
    refine lv_iload_n hx hb dX10_schedule_112 rfl (lv_at hl 1 rfl) ?_
    obtain ⟨μ6, hμ6, hw⟩ := hw
    refine j_iastz (r := v4) hx hb hK hI hμ6 dX10_schedule_113 (fun H locs hI => ?_)
    refine j_aload_n (r := (some b)) hx hb dX10_schedule_114 rfl (lv_at hl 0 rfl) ?_
    obtain ⟨v7, hv7, hw⟩ := hw
    refine j_getz (C := RX10) (T := TX10) (N := 25) (ci := 12) (r := (some b)) (v := va_rf v7) hx hb hfX10 hown hK hI rfl 18 (by decide) (hts (.fieldLink RX10 56 "CashPoolsModel" "flowAmount" "[I") (List.mem_of_getElem? (i := 4) (by decide +kernel))) (fun _ h => h) hv7 dX10_schedule_115 ?_
    refine j_aload_n (r := (some b)) hx hb dX10_schedule_118 rfl (lv_at hl 0 rfl) ?_
    obtain ⟨v8, hv8, hw⟩ := hw
    refine j_getz (C := RX10) (T := TX10) (N := 25) (ci := 12) (r := (some b)) (v := .int v8) hx hb hfX10 hown hK hI rfl 2 (by decide) (hts (.fieldLink RX10 164 "CashPoolsModel" "flows" "I") (List.mem_of_getElem? (i := 2) (by decide +kernel))) (fun _ h => h) hv8 dX10_schedule_119 ?_
    refine lv_iload_n hx hb dX10_schedule_122 rfl (lv_at hl 2 rfl) ?_
    obtain ⟨μ9, hμ9, hw⟩ := hw
    refine j_iastz (r := v7) hx hb hK hI hμ9 dX10_schedule_123 (fun H locs hI => ?_)
    refine j_aload_n (r := (some b)) hx hb dX10_schedule_124 rfl (lv_at hl 0 rfl) ?_
    obtain ⟨v10, hv10, hw⟩ := hw
    refine j_getz (C := RX10) (T := TX10) (N := 25) (ci := 12) (r := (some b)) (v := va_rf v10) hx hb hfX10 hown hK hI rfl 19 (by decide) (hts (.fieldLink RX10 59 "CashPoolsModel" "flowFirst" "[I") (List.mem_of_getElem? (i := 5) (by decide +kernel))) (fun _ h => h) hv10 dX10_schedule_125 ?_
    refine j_aload_n (r := (some b)) hx hb dX10_schedule_128 rfl (lv_at hl 0 rfl) ?_
    obtain ⟨v11, hv11, hw⟩ := hw
    refine j_getz (C := RX10) (T := TX10) (N := 25) (ci := 12) (r := (some b)) (v := .int v11) hx hb hfX10 hown hK hI rfl 2 (by decide) (hts (.fieldLink RX10 164 "CashPoolsModel" "flows" "I") (List.mem_of_getElem? (i := 2) (by decide +kernel))) (fun _ h => h) hv11 dX10_schedule_129 ?_
    refine lv_iload_n hx hb dX10_schedule_132 rfl (lv_at hl 3 rfl) ?_
    obtain ⟨μ12, hμ12, hw⟩ := hw
    refine j_iastz (r := v10) hx hb hK hI hμ12 dX10_schedule_133 (fun H locs hI => ?_)
    refine j_aload_n (r := (some b)) hx hb dX10_schedule_134 rfl (lv_at hl 0 rfl) ?_
    obtain ⟨v13, hv13, hw⟩ := hw
    refine j_getz (C := RX10) (T := TX10) (N := 25) (ci := 12) (r := (some b)) (v := va_rf v13) hx hb hfX10 hown hK hI rfl 20 (by decide) (hts (.fieldLink RX10 62 "CashPoolsModel" "flowStep" "[I") (List.mem_of_getElem? (i := 6) (by decide +kernel))) (fun _ h => h) hv13 dX10_schedule_135 ?_
    refine j_aload_n (r := (some b)) hx hb dX10_schedule_138 rfl (lv_at hl 0 rfl) ?_
    obtain ⟨v14, hv14, hw⟩ := hw
    refine j_getz (C := RX10) (T := TX10) (N := 25) (ci := 12) (r := (some b)) (v := .int v14) hx hb hfX10 hown hK hI rfl 2 (by decide) (hts (.fieldLink RX10 164 "CashPoolsModel" "flows" "I") (List.mem_of_getElem? (i := 2) (by decide +kernel))) (fun _ h => h) hv14 dX10_schedule_139 ?_
    refine lv_iload hx hb dX10_schedule_142 (lv_at hl 4 rfl) ?_
    obtain ⟨μ15, hμ15, hw⟩ := hw
    refine j_iastz (r := v13) hx hb hK hI hμ15 dX10_schedule_144 (fun H locs hI => ?_)
    refine j_aload_n (r := (some b)) hx hb dX10_schedule_145 rfl (lv_at hl 0 rfl) ?_
    obtain ⟨v16, hv16, hw⟩ := hw
    refine j_getz (C := RX10) (T := TX10) (N := 25) (ci := 12) (r := (some b)) (v := va_rf v16) hx hb hfX10 hown hK hI rfl 21 (by decide) (hts (.fieldLink RX10 65 "CashPoolsModel" "flowTimes" "[I") (List.mem_of_getElem? (i := 7) (by decide +kernel))) (fun _ h => h) hv16 dX10_schedule_146 ?_
    refine j_aload_n (r := (some b)) hx hb dX10_schedule_149 rfl (lv_at hl 0 rfl) ?_
    obtain ⟨v17, hv17, hw⟩ := hw
    refine j_getz (C := RX10) (T := TX10) (N := 25) (ci := 12) (r := (some b)) (v := .int v17) hx hb hfX10 hown hK hI rfl 2 (by decide) (hts (.fieldLink RX10 164 "CashPoolsModel" "flows" "I") (List.mem_of_getElem? (i := 2) (by decide +kernel))) (fun _ h => h) hv17 dX10_schedule_150 ?_
    refine lv_iload hx hb dX10_schedule_153 (lv_at hl 5 rfl) ?_
    obtain ⟨μ18, hμ18, hw⟩ := hw
    refine j_iastz (r := v16) hx hb hK hI hμ18 dX10_schedule_155 (fun H locs hI => ?_)
    refine j_aload_n (r := (some b)) hx hb dX10_schedule_156 rfl (lv_at hl 0 rfl) ?_
    refine lv_dup hx hb dX10_schedule_157 rfl ?_
    obtain ⟨v19, hv19, hw⟩ := hw
    refine j_getz (C := RX10) (T := TX10) (N := 25) (ci := 12) (r := (some b)) (v := .int v19) hx hb hfX10 hown hK hI rfl 2 (by decide) (hts (.fieldLink RX10 164 "CashPoolsModel" "flows" "I") (List.mem_of_getElem? (i := 2) (by decide +kernel))) (fun _ h => h) hv19 dX10_schedule_158 ?_
    refine lv_iconst (v := (1)) hx hb dX10_schedule_161 (by decide) ?_
    refine lv_iadd hx hb dX10_schedule_162 ?_
    obtain ⟨μ20, hμ20, hw⟩ := hw
    refine j_putz (C := RX10) (T := TX10) (N := 25) (ci := 12) (r := (some b)) (v := .int (v19 + (1 : Int32))) hx hb hfX10 tyX10 tyX10_ok nmX10 hown hK hI rfl 2 (by decide) (hts (.fieldLink RX10 164 "CashPoolsModel" "flows" "I") (List.mem_of_getElem? (i := 2) (by decide +kernel))) (fun _ h => h) rfl (tyX10_ok 2 (by decide)) rfl rfl hμ20 dX10_schedule_163 (fun H locs hI => ?_)
    refine j_aload_n (r := (some b)) hx hb dX10_schedule_166 rfl (lv_at hl 0 rfl) ?_
    obtain ⟨v21, hv21, hw⟩ := hw
    refine j_getz (C := RX10) (T := TX10) (N := 25) (ci := 12) (r := (some b)) (v := .int v21) hx hb hfX10 hown hK hI rfl 2 (by decide) (hts (.fieldLink RX10 164 "CashPoolsModel" "flows" "I") (List.mem_of_getElem? (i := 2) (by decide +kernel))) (fun _ h => h) hv21 dX10_schedule_167 ?_
    refine lv_iconst (v := (1)) hx hb dX10_schedule_170 (by decide) ?_
    refine lv_isub hx hb dX10_schedule_171 ?_
    exact j_iretz hx hb hr hlocks hI hw (by omega) (by omega) dX10_schedule_172
  · have hw := hw.2 hc
    refine lv_iconst (v := (0)) hx hb dX10_schedule_102 (by decide) ?_
    exact j_iretz hx hb hr hlocks hI hw (by omega) (by omega) dX10_schedule_103
set_option maxHeartbeats 4000000 in
set_option maxRecDepth 100000 in
theorem kX10_schedule_58 {b : Nat} (hX : jX2 D z A p l s m args meth c yX10_schedule cX10_schedule 7 wsX10_schedule (some .int)) {Q : Int32 → jM → Prop}  {x1 : Int32} {x2 : Int32} {x3 : Int32} {x4 : Int32} {x5 : Int32} {t0 : Int32} {μ : jM} {H : Heap} {locs : List Loc} {ls : Array Slot} {cells slots : Nat} (hw : wX10_schedule_58 z b Q x1 x2 x3 x4 x5 t0 μ) (hI : jIz D z A s.heap μ H locs) (hl : lv_has ls 7 [(0, va_rf (some b)), (1, .int x1), (2, .int x2), (3, .int x3), (4, .int x4), (5, .int x5)]) (hcn : cells + 0 ≤ 0) (hsn : slots + 0 ≤ 0) : W p l e rmX10_schedule s m args below meth c H locs cells slots (MQ below (jRz jfI Q D z A) args s 0 0 A) (F0 m 58 ls [.int t0]) := by
  unfold wX10_schedule_58 at hw
  obtain ⟨hx, hb, hml, hown, hts, hr, hlocks, hnm, hK, hG, hfl⟩ := id hX
  have hown : s.vm.findClass RX10 = some m.cls := hown
  have hfX10 : ∀ w ∈ wsX100, w.before args s = true := fun w h => hts w (List.mem_cons_of_mem _ (List.mem_append_right _ h))
  refine lv_istore (lv' := [(6, .int t0), (0, va_rf (some b)), (1, .int x1), (2, .int x2), (3, .int x3), (4, .int x4), (5, .int x5)]) hx hb dX10_schedule_58 hl (by decide) rfl (fun ls hl => ?_)
  refine j_aload_n (r := (some b)) hx hb dX10_schedule_60 rfl (lv_at hl 1 rfl) ?_
  refine j_aload_n (r := (some b)) hx hb dX10_schedule_61 rfl (lv_at hl 1 rfl) ?_
  refine lv_iload_n hx hb dX10_schedule_62 rfl (lv_at hl 2 rfl) ?_
  obtain ⟨hfs, hw⟩ := hw
  refine j_goz hI (va_runV (As := [.int x1]) (rest := [va_rf (some b)]) ⟨hx, hb, hml, hown, hts⟩ (kX10_isAccount l hfl D z b x1 μ H.size _) (cwV 1 hts gX10_schedule_X10_isAccount rfl rfl rfl (by decide +kernel) ⟨Nat.le_of_ble_eq_true rfl, Nat.le_of_ble_eq_true rfl⟩) (j_prV2z hK hG hI hw (ci := 12) rfl hfs) rfl rfl hl.1 rfl (lv_room (Nat.le_of_ble_eq_true rfl)) dX10_schedule_63 ⟨by show _ ≤ 0; omega, by show _ ≤ 0; omega⟩) (fun v1 μ2 H locs hw hI => ?_)
  refine W.eq (g2 := F0 m 66 ls [.int v1, va_rf (some b)]) rfl ?_
  refine lv_if_ne (tgt := 73) hx hb dX10_schedule_66 (by decide) (fun hc => ?_) (fun hc => ?_)
  · have hw := hw.1 hc
    refine lv_iload hx hb dX10_schedule_73 (lv_at hl 0 rfl) ?_
    refine lv_if_ne (tgt := 82) hx hb dX10_schedule_75 (by decide) (fun hc => ?_) (fun hc => ?_)
    · have hw := hw.1 hc
      refine j_aload_n (r := (some b)) hx hb dX10_schedule_82 rfl (lv_at hl 1 rfl) ?_
      obtain ⟨v3, hv3, hw⟩ := hw
      refine j_getz (C := RX10) (T := TX10) (N := 25) (ci := 12) (r := (some b)) (v := .int v3) hx hb hfX10 hown hK hI rfl 2 (by decide) (hts (.fieldLink RX10 164 "CashPoolsModel" "flows" "I") (List.mem_of_getElem? (i := 2) (by decide +kernel))) (fun _ h => h) hv3 dX10_schedule_83 ?_
      refine lv_bipush (v := (20)) hx hb dX10_schedule_86 (by decide) ?_
      refine lv_icmp_ne (tgt := 95) hx hb dX10_schedule_88 (by decide) (fun hc => ?_) (fun hc => ?_)
      · have hw := hw.1 hc
        refine lv_iconst (v := (0)) hx hb dX10_schedule_95 (by decide) ?_
        exact kX10_schedule_96 hX  hw hI (lv_sub hl [1, 2, 3, 4, 5, 6] rfl) (by omega) (by omega)
      · have hw := hw.2 hc
        refine lv_iconst (v := (3)) hx hb dX10_schedule_91 (by decide) ?_
        refine lv_goto (tgt := 96) hx hb dX10_schedule_92 (by decide) ?_
        exact kX10_schedule_96 hX  hw hI (lv_sub hl [1, 2, 3, 4, 5, 6] rfl) (by omega) (by omega)
    · have hw := hw.2 hc
      refine lv_iconst (v := (2)) hx hb dX10_schedule_78 (by decide) ?_
      refine lv_goto (tgt := 96) hx hb dX10_schedule_79 (by decide) ?_
      exact kX10_schedule_96 hX  hw hI (lv_sub hl [1, 2, 3, 4, 5, 6] rfl) (by omega) (by omega)
  · have hw := hw.2 hc
    refine lv_iconst (v := (1)) hx hb dX10_schedule_69 (by decide) ?_
    refine lv_goto (tgt := 96) hx hb dX10_schedule_70 (by decide) ?_
    exact kX10_schedule_96 hX  hw hI (lv_sub hl [1, 2, 3, 4, 5, 6] rfl) (by omega) (by omega)
set_option maxHeartbeats 4000000 in
set_option maxRecDepth 100000 in
theorem kX10_schedule_57 {b : Nat} (hX : jX2 D z A p l s m args meth c yX10_schedule cX10_schedule 7 wsX10_schedule (some .int)) {Q : Int32 → jM → Prop}  {x1 : Int32} {x2 : Int32} {x3 : Int32} {x4 : Int32} {x5 : Int32} {μ : jM} {H : Heap} {locs : List Loc} {ls : Array Slot} {cells slots : Nat} (hw : wX10_schedule_57 z b Q x1 x2 x3 x4 x5 μ) (hI : jIz D z A s.heap μ H locs) (hl : lv_has ls 7 [(0, va_rf (some b)), (1, .int x1), (2, .int x2), (3, .int x3), (4, .int x4), (5, .int x5)]) (hcn : cells + 0 ≤ 0) (hsn : slots + 0 ≤ 0) : W p l e rmX10_schedule s m args below meth c H locs cells slots (MQ below (jRz jfI Q D z A) args s 0 0 A) (F0 m 57 ls []) := by
  unfold wX10_schedule_57 at hw
  obtain ⟨hx, hb, hml, hown, hts, hr, hlocks, hnm, hK, hG, hfl⟩ := id hX
  have hown : s.vm.findClass RX10 = some m.cls := hown
  refine lv_iconst (v := (0)) hx hb dX10_schedule_57 (by decide) ?_
  exact kX10_schedule_58 hX  hw hI (lv_sub hl [0, 1, 2, 3, 4, 5] rfl) (by omega) (by omega)
set_option maxHeartbeats 4000000 in
set_option maxRecDepth 100000 in
theorem kX10_schedule_0 {b : Nat} (hX : jX2 D z A p l s m args meth c yX10_schedule cX10_schedule 7 wsX10_schedule (some .int)) {Q : Int32 → jM → Prop}  {x1 : Int32} {x2 : Int32} {x3 : Int32} {x4 : Int32} {x5 : Int32} {μ : jM} {H : Heap} {locs : List Loc} {ls : Array Slot} {cells slots : Nat} (hw : wX10_schedule_0 z b Q x1 x2 x3 x4 x5 μ) (hI : jIz D z A s.heap μ H locs) (hl : lv_has ls 7 [(0, va_rf (some b)), (1, .int x1), (2, .int x2), (3, .int x3), (4, .int x4), (5, .int x5)]) (hcn : cells + 0 ≤ 0) (hsn : slots + 0 ≤ 0) : W p l e rmX10_schedule s m args below meth c H locs cells slots (MQ below (jRz jfI Q D z A) args s 0 0 A) (F0 m 0 ls []) := by
  unfold wX10_schedule_0 at hw
  obtain ⟨hx, hb, hml, hown, hts, hr, hlocks, hnm, hK, hG, hfl⟩ := id hX
  have hown : s.vm.findClass RX10 = some m.cls := hown
  have hfX10 : ∀ w ∈ wsX100, w.before args s = true := fun w h => hts w (List.mem_cons_of_mem _ (List.mem_append_right _ h))
  refine lv_iload_n hx hb dX10_schedule_0 rfl (lv_at hl 2 rfl) ?_
  refine j_goz hI (va_runS (As := [.int x2]) (rest := []) ⟨hx, hb, hml, hown, hts⟩ (kX10_isAmount l hfl D z x2 μ H.size _) (va_cwS 1 hts gX10_schedule_X10_isAmount rfl rfl rfl (by decide +kernel) ⟨Nat.le_of_ble_eq_true rfl, Nat.le_of_ble_eq_true rfl⟩) (j_prS2z hK hG hI hw) rfl rfl hl.1 rfl (lv_room (Nat.le_of_ble_eq_true rfl)) dX10_schedule_1 ⟨by show _ ≤ 0; omega, by show _ ≤ 0; omega⟩) (fun v1 μ2 H locs hw hI => ?_)
  refine W.eq (g2 := F0 m 4 ls [.int v1]) rfl ?_
  refine lv_if_eq (tgt := 57) hx hb dX10_schedule_4 (by decide) (fun hc => ?_) (fun hc => ?_)
  · have hw := hw.1 hc
    exact kX10_schedule_57 hX  hw hI (lv_sub hl [0, 1, 2, 3, 4, 5] rfl) (by omega) (by omega)
  · have hw := hw.2 hc
    refine lv_iload_n hx hb dX10_schedule_7 rfl (lv_at hl 2 rfl) ?_
    refine lv_if_eq (tgt := 57) hx hb dX10_schedule_8 (by decide) (fun hc => ?_) (fun hc => ?_)
    · have hw := hw.1 hc
      exact kX10_schedule_57 hX  hw hI (lv_sub hl [0, 1, 2, 3, 4, 5] rfl) (by omega) (by omega)
    · have hw := hw.2 hc
      refine lv_iload_n hx hb dX10_schedule_11 rfl (lv_at hl 3 rfl) ?_
      refine lv_i2l hx hb dX10_schedule_12 rfl ?_
      refine j_aload_n (r := (some b)) hx hb dX10_schedule_13 rfl (lv_at hl 0 rfl) ?_
      obtain ⟨v3, hv3, hw⟩ := hw
      refine j_getz (C := RX10) (T := TX10) (N := 25) (ci := 12) (r := (some b)) (v := va_rf v3) hx hb hfX10 hown hK hI rfl 3 (by decide) (hts (.fieldLink RX10 7 "CashPoolsModel" "z" "[J") (List.mem_of_getElem? (i := 1) (by decide +kernel))) (fun _ h => h) hv3 dX10_schedule_14 ?_
      refine lv_bipush (v := (108)) hx hb dX10_schedule_17 (by decide) ?_
      obtain ⟨v4, hv4, hw⟩ := hw
      refine j_laldz (r := v3) hx hb hK hI hv4 dX10_schedule_19 ?_
      refine j_lcmp_lt (tgt := 57) hx hb dX10_schedule_20 dX10_schedule_21 (by decide) (fun hc => ?_) (fun hc => ?_)
      · have hw := hw.1 hc
        exact kX10_schedule_57 hX  hw hI (lv_sub hl [0, 1, 2, 3, 4, 5] rfl) (by omega) (by omega)
      · have hw := hw.2 hc
        refine lv_iload_n hx hb dX10_schedule_24 rfl (lv_at hl 3 rfl) ?_
        refine lv_sipush (v := (450)) hx hb dX10_schedule_25 (by decide) ?_
        refine lv_icmp_gt (tgt := 57) hx hb dX10_schedule_28 (by decide) (fun hc => ?_) (fun hc => ?_)
        · have hw := hw.1 hc
          exact kX10_schedule_57 hX  hw hI (lv_sub hl [0, 1, 2, 3, 4, 5] rfl) (by omega) (by omega)
        · have hw := hw.2 hc
          refine lv_iload hx hb dX10_schedule_31 (lv_at hl 4 rfl) ?_
          refine lv_iconst (v := (1)) hx hb dX10_schedule_33 (by decide) ?_
          refine lv_bipush (v := (100)) hx hb dX10_schedule_34 (by decide) ?_
          refine j_goz hI (va_runS (As := [.int x4, .int (1 : Int32), .int (100 : Int32)]) (rest := []) ⟨hx, hb, hml, hown, hts⟩ (kX10_isIn l hfl D z x4 (1 : Int32) (100 : Int32) μ2 H.size _) (va_cwS 3 hts gX10_schedule_X10_isIn rfl rfl rfl (by decide +kernel) ⟨Nat.le_of_ble_eq_true rfl, Nat.le_of_ble_eq_true rfl⟩) (j_prS2z hK hG hI hw) rfl rfl hl.1 rfl (lv_room (Nat.le_of_ble_eq_true rfl)) dX10_schedule_36 ⟨by show _ ≤ 0; omega, by show _ ≤ 0; omega⟩) (fun v5 μ6 H locs hw hI => ?_)
          refine W.eq (g2 := F0 m 39 ls [.int v5]) rfl ?_
          refine lv_if_eq (tgt := 57) hx hb dX10_schedule_39 (by decide) (fun hc => ?_) (fun hc => ?_)
          · have hw := hw.1 hc
            exact kX10_schedule_57 hX  hw hI (lv_sub hl [0, 1, 2, 3, 4, 5] rfl) (by omega) (by omega)
          · have hw := hw.2 hc
            refine lv_iload hx hb dX10_schedule_42 (lv_at hl 5 rfl) ?_
            refine lv_iconst (v := (1)) hx hb dX10_schedule_44 (by decide) ?_
            refine lv_bipush (v := (30)) hx hb dX10_schedule_45 (by decide) ?_
            refine j_goz hI (va_runS (As := [.int x5, .int (1 : Int32), .int (30 : Int32)]) (rest := []) ⟨hx, hb, hml, hown, hts⟩ (kX10_isIn l hfl D z x5 (1 : Int32) (30 : Int32) μ6 H.size _) (va_cwS 3 hts gX10_schedule_X10_isIn rfl rfl rfl (by decide +kernel) ⟨Nat.le_of_ble_eq_true rfl, Nat.le_of_ble_eq_true rfl⟩) (j_prS2z hK hG hI hw) rfl rfl hl.1 rfl (lv_room (Nat.le_of_ble_eq_true rfl)) dX10_schedule_47 ⟨by show _ ≤ 0; omega, by show _ ≤ 0; omega⟩) (fun v7 μ8 H locs hw hI => ?_)
            refine W.eq (g2 := F0 m 50 ls [.int v7]) rfl ?_
            refine lv_if_eq (tgt := 57) hx hb dX10_schedule_50 (by decide) (fun hc => ?_) (fun hc => ?_)
            · have hw := hw.1 hc
              exact kX10_schedule_57 hX  hw hI (lv_sub hl [0, 1, 2, 3, 4, 5] rfl) (by omega) (by omega)
            · have hw := hw.2 hc
              refine lv_iconst (v := (1)) hx hb dX10_schedule_53 (by decide) ?_
              refine lv_goto (tgt := 58) hx hb dX10_schedule_54 (by decide) ?_
              exact kX10_schedule_58 hX  hw hI (lv_sub hl [0, 1, 2, 3, 4, 5] rfl) (by omega) (by omega)
set_option maxHeartbeats 4000000 in
set_option maxRecDepth 100000 in
theorem kX10_schedule (l : Launch) (hfl : l.stackTraces = false) (D : jD) (z : Nat × Nat) (b : Nat) (x1 : Int32) (x2 : Int32) (x3 : Int32) (x4 : Int32) (x5 : Int32) (μ : jM) (sz : Nat) (Q : Int32 → jM → Prop) : Met l yX10_schedule wsX10_schedule rmX10_schedule (jPre2z D z μ sz [.ref b, .int x1, .int x2, .int x3, .int x4, .int x5] (wX10_schedule z b x1 x2 x3 x4 x5 μ Q)) (jRz jfI Q D z (jA z μ sz)) 0 0 (jA z μ sz) := by
  refine Met.ofW (cc := cX10_schedule) (maxL := 7) (ret := (some .int)) (by decide) rfl ?_
  intro p e s m args below meth c s₁ B hml hv
  obtain ⟨rfl, hsz, hH, hz0, hK, hG, hw⟩ := hv
  subst hsz
  have hX : jX2 D z (jA z μ s.heap.size) p l s m _ meth c yX10_schedule cX10_schedule 7 wsX10_schedule (some .int) := ⟨B.exec, B.bytes, hml, findClass_of_methodNamed B.named, atoms_spec (ws := wsX10_schedule) B.pre, B.returns, B.notSynchronized, (name_of_methodNamed B.named B.method).1, hK, hG, hfl⟩
  obtain ⟨ls, hg, hl⟩ : ∃ ls : Array Slot, entryFrame m ([.ref b, .int x1, .int x2, .int x3, .int x4, .int x5] : List Value).toArray 7 = F0 m 0 ls [] ∧ lv_has ls 7 [(0, va_rf (some b)), (1, .int x1), (2, .int x2), (3, .int x3), (4, .int x4), (5, .int x5)] := by
    exact ⟨_, lg_entry_eq .., lv_entry _ (n := 7) (Nat.le_of_ble_eq_true rfl)⟩
  rw [hg]
  exact kX10_schedule_0 hX hw (jIz.start hH hz0) (lv_sub hl [0, 1, 2, 3, 4, 5] rfl) (by decide) (by decide)
set_option maxHeartbeats 4000000 in
set_option maxRecDepth 100000 in
theorem kX10_isFlow_18 {b : Nat} (hX : jX2 D z A p l s m args meth c yX10_isFlow cX10_isFlow 2 wsX10_isFlow (some .boolean)) {Q : Int32 → jM → Prop}  {t0 : Option Nat} {t1 : Int32} {μ : jM} {H : Heap} {locs : List Loc} {ls : Array Slot} {cells slots : Nat} (hw : wX10_isFlow_18 z b Q t0 t1 μ) (hI : jIz D z A s.heap μ H locs) (hl : lv_has ls 2 [(0, va_rf (some b))]) (hcn : cells + 0 ≤ 0) (hsn : slots + 0 ≤ 0) : W p l e rmX10_isFlow s m args below meth c H locs cells slots (MQ below (jRz jfI Q D z A) args s 0 0 A) (F0 m 18 ls [.int t1, va_rf t0]) := by
  unfold wX10_isFlow_18 at hw
  obtain ⟨hx, hb, hml, hown, hts, hr, hlocks, hnm, hK, hG, hfl⟩ := id hX
  have hown : s.vm.findClass RX10 = some m.cls := hown
  obtain ⟨b3, ⟨hrb3, hfs⟩, hw⟩ := hw
  refine j_goz hI (va_runV (As := [.int t1]) (rest := []) ⟨hx, hb, hml, hown, hts⟩ (kX10_can l hfl D z b3 t1 μ H.size _) (cwV 1 hts gX10_isFlow_X10_can rfl rfl rfl (by decide +kernel) ⟨Nat.le_of_ble_eq_true rfl, Nat.le_of_ble_eq_true rfl⟩) (j_prV2z hK hG hI hw (ci := 12) rfl hfs) rfl rfl hl.1 (by rw [hrb3]; rfl) (lv_room (Nat.le_of_ble_eq_true rfl)) dX10_isFlow_18 ⟨by show _ ≤ 0; omega, by show _ ≤ 0; omega⟩) (fun v1 μ2 H locs hw hI => ?_)
  refine W.eq (g2 := F0 m 21 ls [.int v1]) rfl ?_
  obtain ⟨hz, hw⟩ := hw
  exact j_zretz hx hb hr hz hlocks hI hw (by omega) (by omega) dX10_isFlow_21
set_option maxHeartbeats 4000000 in
set_option maxRecDepth 100000 in
theorem kX10_isFlow_17 {b : Nat} (hX : jX2 D z A p l s m args meth c yX10_isFlow cX10_isFlow 2 wsX10_isFlow (some .boolean)) {Q : Int32 → jM → Prop}  {t0 : Option Nat} {μ : jM} {H : Heap} {locs : List Loc} {ls : Array Slot} {cells slots : Nat} (hw : wX10_isFlow_17 z b Q t0 μ) (hI : jIz D z A s.heap μ H locs) (hl : lv_has ls 2 [(0, va_rf (some b))]) (hcn : cells + 0 ≤ 0) (hsn : slots + 0 ≤ 0) : W p l e rmX10_isFlow s m args below meth c H locs cells slots (MQ below (jRz jfI Q D z A) args s 0 0 A) (F0 m 17 ls [va_rf t0]) := by
  unfold wX10_isFlow_17 at hw
  obtain ⟨hx, hb, hml, hown, hts, hr, hlocks, hnm, hK, hG, hfl⟩ := id hX
  have hown : s.vm.findClass RX10 = some m.cls := hown
  refine lv_iconst (v := (1)) hx hb dX10_isFlow_17 (by decide) ?_
  exact kX10_isFlow_18 hX  hw hI (lv_sub hl [0] rfl) (by omega) (by omega)
set_option maxHeartbeats 4000000 in
set_option maxRecDepth 100000 in
theorem kX10_isFlow_0 {b : Nat} (hX : jX2 D z A p l s m args meth c yX10_isFlow cX10_isFlow 2 wsX10_isFlow (some .boolean)) {Q : Int32 → jM → Prop}  {x1 : Int32} {μ : jM} {H : Heap} {locs : List Loc} {ls : Array Slot} {cells slots : Nat} (hw : wX10_isFlow_0 z b Q x1 μ) (hI : jIz D z A s.heap μ H locs) (hl : lv_has ls 2 [(0, va_rf (some b)), (1, .int x1)]) (hcn : cells + 0 ≤ 0) (hsn : slots + 0 ≤ 0) : W p l e rmX10_isFlow s m args below meth c H locs cells slots (MQ below (jRz jfI Q D z A) args s 0 0 A) (F0 m 0 ls []) := by
  unfold wX10_isFlow_0 at hw
  obtain ⟨hx, hb, hml, hown, hts, hr, hlocks, hnm, hK, hG, hfl⟩ := id hX
  have hown : s.vm.findClass RX10 = some m.cls := hown
  have hfX10 : ∀ w ∈ wsX100, w.before args s = true := fun w h => hts w (List.mem_cons_of_mem _ (List.mem_append_right _ h))
  refine j_aload_n (r := (some b)) hx hb dX10_isFlow_0 rfl (lv_at hl 0 rfl) ?_
  refine lv_iload_n hx hb dX10_isFlow_1 rfl (lv_at hl 1 rfl) ?_
  refine lv_if_lt (tgt := 17) hx hb dX10_isFlow_2 (by decide) (fun hc => ?_) (fun hc => ?_)
  · have hw := hw.1 hc
    exact kX10_isFlow_17 hX  hw hI (lv_sub hl [0] rfl) (by omega) (by omega)
  · have hw := hw.2 hc
    refine lv_iload_n hx hb dX10_isFlow_5 rfl (lv_at hl 1 rfl) ?_
    refine j_aload_n (r := (some b)) hx hb dX10_isFlow_6 rfl (lv_at hl 0 rfl) ?_
    obtain ⟨v1, hv1, hw⟩ := hw
    refine j_getz (C := RX10) (T := TX10) (N := 25) (ci := 12) (r := (some b)) (v := .int v1) hx hb hfX10 hown hK hI rfl 2 (by decide) (hts (.fieldLink RX10 164 "CashPoolsModel" "flows" "I") (List.mem_of_getElem? (i := 1) (by decide +kernel))) (fun _ h => h) hv1 dX10_isFlow_7 ?_
    refine lv_icmp_ge (tgt := 17) hx hb dX10_isFlow_10 (by decide) (fun hc => ?_) (fun hc => ?_)
    · have hw := hw.1 hc
      exact kX10_isFlow_17 hX  hw hI (lv_sub hl [0] rfl) (by omega) (by omega)
    · have hw := hw.2 hc
      refine lv_iconst (v := (0)) hx hb dX10_isFlow_13 (by decide) ?_
      refine lv_goto (tgt := 18) hx hb dX10_isFlow_14 (by decide) ?_
      exact kX10_isFlow_18 hX  hw hI (lv_sub hl [0] rfl) (by omega) (by omega)
set_option maxHeartbeats 4000000 in
set_option maxRecDepth 100000 in
theorem kX10_isFlow (l : Launch) (hfl : l.stackTraces = false) (D : jD) (z : Nat × Nat) (b : Nat) (x1 : Int32) (μ : jM) (sz : Nat) (Q : Int32 → jM → Prop) : Met l yX10_isFlow wsX10_isFlow rmX10_isFlow (jPre2z D z μ sz [.ref b, .int x1] (wX10_isFlow z b x1 μ Q)) (jRz jfI Q D z (jA z μ sz)) 0 0 (jA z μ sz) := by
  refine Met.ofW (cc := cX10_isFlow) (maxL := 2) (ret := (some .boolean)) (by decide) rfl ?_
  intro p e s m args below meth c s₁ B hml hv
  obtain ⟨rfl, hsz, hH, hz0, hK, hG, hw⟩ := hv
  subst hsz
  have hX : jX2 D z (jA z μ s.heap.size) p l s m _ meth c yX10_isFlow cX10_isFlow 2 wsX10_isFlow (some .boolean) := ⟨B.exec, B.bytes, hml, findClass_of_methodNamed B.named, atoms_spec (ws := wsX10_isFlow) B.pre, B.returns, B.notSynchronized, (name_of_methodNamed B.named B.method).1, hK, hG, hfl⟩
  obtain ⟨ls, hg, hl⟩ : ∃ ls : Array Slot, entryFrame m ([.ref b, .int x1] : List Value).toArray 2 = F0 m 0 ls [] ∧ lv_has ls 2 [(0, va_rf (some b)), (1, .int x1)] := by
    exact ⟨_, lg_entry_eq .., lv_entry _ (n := 2) (Nat.le_of_ble_eq_true rfl)⟩
  rw [hg]
  exact kX10_isFlow_0 hX hw (jIz.start hH hz0) (lv_sub hl [0, 1] rfl) (by decide) (by decide)
set_option maxHeartbeats 4000000 in
set_option maxRecDepth 100000 in
theorem kX10_leftOf_0 {b : Nat} (hX : jX2 D z A p l s m args meth c yX10_leftOf cX10_leftOf 2 wsX10_leftOf (some .int)) {Q : Int32 → jM → Prop}  {x1 : Int32} {μ : jM} {H : Heap} {locs : List Loc} {ls : Array Slot} {cells slots : Nat} (hw : wX10_leftOf_0 z b Q x1 μ) (hI : jIz D z A s.heap μ H locs) (hl : lv_has ls 2 [(0, va_rf (some b)), (1, .int x1)]) (hcn : cells + 0 ≤ 0) (hsn : slots + 0 ≤ 0) : W p l e rmX10_leftOf s m args below meth c H locs cells slots (MQ below (jRz jfI Q D z A) args s 0 0 A) (F0 m 0 ls []) := by
  unfold wX10_leftOf_0 at hw
  obtain ⟨hx, hb, hml, hown, hts, hr, hlocks, hnm, hK, hG, hfl⟩ := id hX
  have hown : s.vm.findClass RX10 = some m.cls := hown
  have hfX10 : ∀ w ∈ wsX100, w.before args s = true := fun w h => hts w (List.mem_cons_of_mem _ (List.mem_append_right _ h))
  refine j_aload_n (r := (some b)) hx hb dX10_leftOf_0 rfl (lv_at hl 0 rfl) ?_
  obtain ⟨v1, hv1, hw⟩ := hw
  refine j_getz (C := RX10) (T := TX10) (N := 25) (ci := 12) (r := (some b)) (v := va_rf v1) hx hb hfX10 hown hK hI rfl 21 (by decide) (hts (.fieldLink RX10 65 "CashPoolsModel" "flowTimes" "[I") (List.mem_of_getElem? (i := 1) (by decide +kernel))) (fun _ h => h) hv1 dX10_leftOf_1 ?_
  refine lv_iload_n hx hb dX10_leftOf_4 rfl (lv_at hl 1 rfl) ?_
  obtain ⟨v2, hv2, hw⟩ := hw
  refine j_ialdz (r := v1) hx hb hK hI hv2 dX10_leftOf_5 ?_
  refine j_aload_n (r := (some b)) hx hb dX10_leftOf_6 rfl (lv_at hl 0 rfl) ?_
  obtain ⟨v3, hv3, hw⟩ := hw
  refine j_getz (C := RX10) (T := TX10) (N := 25) (ci := 12) (r := (some b)) (v := va_rf v3) hx hb hfX10 hown hK hI rfl 3 (by decide) (hts (.fieldLink RX10 7 "CashPoolsModel" "z" "[J") (List.mem_of_getElem? (i := 2) (by decide +kernel))) (fun _ h => h) hv3 dX10_leftOf_7 ?_
  refine lv_bipush (v := (88)) hx hb dX10_leftOf_10 (by decide) ?_
  refine lv_iload_n hx hb dX10_leftOf_12 rfl (lv_at hl 1 rfl) ?_
  refine lv_iadd hx hb dX10_leftOf_13 ?_
  obtain ⟨v4, hv4, hw⟩ := hw
  refine j_laldz (r := v3) hx hb hK hI hv4 dX10_leftOf_14 ?_
  refine lv_l2i hx hb dX10_leftOf_15 rfl ?_
  refine lv_isub hx hb dX10_leftOf_16 ?_
  exact j_iretz hx hb hr hlocks hI hw (by omega) (by omega) dX10_leftOf_17
set_option maxHeartbeats 4000000 in
set_option maxRecDepth 100000 in
theorem kX10_leftOf (l : Launch) (hfl : l.stackTraces = false) (D : jD) (z : Nat × Nat) (b : Nat) (x1 : Int32) (μ : jM) (sz : Nat) (Q : Int32 → jM → Prop) : Met l yX10_leftOf wsX10_leftOf rmX10_leftOf (jPre2z D z μ sz [.ref b, .int x1] (wX10_leftOf z b x1 μ Q)) (jRz jfI Q D z (jA z μ sz)) 0 0 (jA z μ sz) := by
  refine Met.ofW (cc := cX10_leftOf) (maxL := 2) (ret := (some .int)) (by decide) rfl ?_
  intro p e s m args below meth c s₁ B hml hv
  obtain ⟨rfl, hsz, hH, hz0, hK, hG, hw⟩ := hv
  subst hsz
  have hX : jX2 D z (jA z μ s.heap.size) p l s m _ meth c yX10_leftOf cX10_leftOf 2 wsX10_leftOf (some .int) := ⟨B.exec, B.bytes, hml, findClass_of_methodNamed B.named, atoms_spec (ws := wsX10_leftOf) B.pre, B.returns, B.notSynchronized, (name_of_methodNamed B.named B.method).1, hK, hG, hfl⟩
  obtain ⟨ls, hg, hl⟩ : ∃ ls : Array Slot, entryFrame m ([.ref b, .int x1] : List Value).toArray 2 = F0 m 0 ls [] ∧ lv_has ls 2 [(0, va_rf (some b)), (1, .int x1)] := by
    exact ⟨_, lg_entry_eq .., lv_entry _ (n := 2) (Nat.le_of_ble_eq_true rfl)⟩
  rw [hg]
  exact kX10_leftOf_0 hX hw (jIz.start hH hz0) (lv_sub hl [0, 1] rfl) (by decide) (by decide)
set_option maxHeartbeats 4000000 in
set_option maxRecDepth 100000 in
theorem kX10_cancel_0 {b : Nat} (hX : jX2 D z A p l s m args meth c yX10_cancel cX10_cancel 3 wsX10_cancel (some .int)) {Q : Int32 → jM → Prop}  {x1 : Int32} {μ : jM} {H : Heap} {locs : List Loc} {ls : Array Slot} {cells slots : Nat} (hw : wX10_cancel_0 z b Q x1 μ) (hI : jIz D z A s.heap μ H locs) (hl : lv_has ls 3 [(0, va_rf (some b)), (1, .int x1)]) (hcn : cells + 0 ≤ 0) (hsn : slots + 0 ≤ 0) : W p l e rmX10_cancel s m args below meth c H locs cells slots (MQ below (jRz jfI Q D z A) args s 0 0 A) (F0 m 0 ls []) := by
  unfold wX10_cancel_0 at hw
  obtain ⟨hx, hb, hml, hown, hts, hr, hlocks, hnm, hK, hG, hfl⟩ := id hX
  have hown : s.vm.findClass RX10 = some m.cls := hown
  have hfX10 : ∀ w ∈ wsX100, w.before args s = true := fun w h => hts w (List.mem_cons_of_mem _ (List.mem_append_right _ h))
  refine j_aload_n (r := (some b)) hx hb dX10_cancel_0 rfl (lv_at hl 0 rfl) ?_
  refine lv_iload_n hx hb dX10_cancel_1 rfl (lv_at hl 1 rfl) ?_
  obtain ⟨hfs, hw⟩ := hw
  refine j_goz hI (va_runV (As := [.int x1]) (rest := []) ⟨hx, hb, hml, hown, hts⟩ (kX10_isFlow l hfl D z b x1 μ H.size _) (cwV 1 hts gX10_cancel_X10_isFlow rfl rfl rfl (by decide +kernel) ⟨Nat.le_of_ble_eq_true rfl, Nat.le_of_ble_eq_true rfl⟩) (j_prV2z hK hG hI hw (ci := 12) rfl hfs) rfl rfl hl.1 rfl (lv_room (Nat.le_of_ble_eq_true rfl)) dX10_cancel_2 ⟨by show _ ≤ 0; omega, by show _ ≤ 0; omega⟩) (fun v1 μ2 H locs hw hI => ?_)
  refine W.eq (g2 := F0 m 5 ls [.int v1]) rfl ?_
  refine lv_if_ne (tgt := 10) hx hb dX10_cancel_5 (by decide) (fun hc => ?_) (fun hc => ?_)
  · have hw := hw.1 hc
    refine j_aload_n (r := (some b)) hx hb dX10_cancel_10 rfl (lv_at hl 0 rfl) ?_
    refine lv_iload_n hx hb dX10_cancel_11 rfl (lv_at hl 1 rfl) ?_
    obtain ⟨hfs, hw⟩ := hw
    refine j_goz hI (va_runV (As := [.int x1]) (rest := []) ⟨hx, hb, hml, hown, hts⟩ (kX10_leftOf l hfl D z b x1 μ2 H.size _) (cwV 1 hts gX10_cancel_X10_leftOf rfl rfl rfl (by decide +kernel) ⟨Nat.le_of_ble_eq_true rfl, Nat.le_of_ble_eq_true rfl⟩) (j_prV2z hK hG hI hw (ci := 12) rfl hfs) rfl rfl hl.1 rfl (lv_room (Nat.le_of_ble_eq_true rfl)) dX10_cancel_12 ⟨by show _ ≤ 0; omega, by show _ ≤ 0; omega⟩) (fun v3 μ4 H locs hw hI => ?_)
    refine W.eq (g2 := F0 m 15 ls [.int v3]) rfl ?_
    refine lv_istore_n (lv' := [(2, .int v3), (0, va_rf (some b)), (1, .int x1)]) hx hb dX10_cancel_15 rfl hl (by decide) rfl (fun ls hl => ?_)
    refine j_aload_n (r := (some b)) hx hb dX10_cancel_16 rfl (lv_at hl 1 rfl) ?_
    obtain ⟨v5, hv5, hw⟩ := hw
    refine j_getz (C := RX10) (T := TX10) (N := 25) (ci := 12) (r := (some b)) (v := va_rf v5) hx hb hfX10 hown hK hI rfl 21 (by decide) (hts (.fieldLink RX10 65 "CashPoolsModel" "flowTimes" "[I") (List.mem_of_getElem? (i := 1) (by decide +kernel))) (fun _ h => h) hv5 dX10_cancel_17 ?_
    refine lv_iload_n hx hb dX10_cancel_20 rfl (lv_at hl 2 rfl) ?_
    refine lv_dup2_11 hx hb dX10_cancel_21 rfl (jrc v5) ?_
    obtain ⟨v6, hv6, hw⟩ := hw
    refine j_ialdz (r := v5) hx hb hK hI hv6 dX10_cancel_22 ?_
    refine lv_iload_n hx hb dX10_cancel_23 rfl (lv_at hl 0 rfl) ?_
    refine lv_isub hx hb dX10_cancel_24 ?_
    obtain ⟨μ7, hμ7, hw⟩ := hw
    refine j_iastz (r := v5) hx hb hK hI hμ7 dX10_cancel_25 (fun H locs hI => ?_)
    refine lv_iload_n hx hb dX10_cancel_26 rfl (lv_at hl 0 rfl) ?_
    exact j_iretz hx hb hr hlocks hI hw (by omega) (by omega) dX10_cancel_27
  · have hw := hw.2 hc
    refine lv_iconst (v := (0)) hx hb dX10_cancel_8 (by decide) ?_
    exact j_iretz hx hb hr hlocks hI hw (by omega) (by omega) dX10_cancel_9
set_option maxHeartbeats 4000000 in
set_option maxRecDepth 100000 in
theorem kX10_cancel (l : Launch) (hfl : l.stackTraces = false) (D : jD) (z : Nat × Nat) (b : Nat) (x1 : Int32) (μ : jM) (sz : Nat) (Q : Int32 → jM → Prop) : Met l yX10_cancel wsX10_cancel rmX10_cancel (jPre2z D z μ sz [.ref b, .int x1] (wX10_cancel z b x1 μ Q)) (jRz jfI Q D z (jA z μ sz)) 0 0 (jA z μ sz) := by
  refine Met.ofW (cc := cX10_cancel) (maxL := 3) (ret := (some .int)) (by decide) rfl ?_
  intro p e s m args below meth c s₁ B hml hv
  obtain ⟨rfl, hsz, hH, hz0, hK, hG, hw⟩ := hv
  subst hsz
  have hX : jX2 D z (jA z μ s.heap.size) p l s m _ meth c yX10_cancel cX10_cancel 3 wsX10_cancel (some .int) := ⟨B.exec, B.bytes, hml, findClass_of_methodNamed B.named, atoms_spec (ws := wsX10_cancel) B.pre, B.returns, B.notSynchronized, (name_of_methodNamed B.named B.method).1, hK, hG, hfl⟩
  obtain ⟨ls, hg, hl⟩ : ∃ ls : Array Slot, entryFrame m ([.ref b, .int x1] : List Value).toArray 3 = F0 m 0 ls [] ∧ lv_has ls 3 [(0, va_rf (some b)), (1, .int x1)] := by
    exact ⟨_, lg_entry_eq .., lv_entry _ (n := 3) (Nat.le_of_ble_eq_true rfl)⟩
  rw [hg]
  exact kX10_cancel_0 hX hw (jIz.start hH hz0) (lv_sub hl [0, 1] rfl) (by decide) (by decide)
set_option maxHeartbeats 4000000 in
set_option maxRecDepth 100000 in
theorem kX10_timesLeft_0 {b : Nat} (hX : jX2 D z A p l s m args meth c yX10_timesLeft cX10_timesLeft 2 wsX10_timesLeft (some .int)) {Q : Int32 → jM → Prop}  {x1 : Int32} {μ : jM} {H : Heap} {locs : List Loc} {ls : Array Slot} {cells slots : Nat} (hw : wX10_timesLeft_0 z b Q x1 μ) (hI : jIz D z A s.heap μ H locs) (hl : lv_has ls 2 [(0, va_rf (some b)), (1, .int x1)]) (hcn : cells + 0 ≤ 0) (hsn : slots + 0 ≤ 0) : W p l e rmX10_timesLeft s m args below meth c H locs cells slots (MQ below (jRz jfI Q D z A) args s 0 0 A) (F0 m 0 ls []) := by
  unfold wX10_timesLeft_0 at hw
  obtain ⟨hx, hb, hml, hown, hts, hr, hlocks, hnm, hK, hG, hfl⟩ := id hX
  have hown : s.vm.findClass RX10 = some m.cls := hown
  refine j_aload_n (r := (some b)) hx hb dX10_timesLeft_0 rfl (lv_at hl 0 rfl) ?_
  refine lv_iload_n hx hb dX10_timesLeft_1 rfl (lv_at hl 1 rfl) ?_
  obtain ⟨hfs, hw⟩ := hw
  refine j_goz hI (va_runV (As := [.int x1]) (rest := []) ⟨hx, hb, hml, hown, hts⟩ (kX10_isFlow l hfl D z b x1 μ H.size _) (cwV 1 hts gX10_timesLeft_X10_isFlow rfl rfl rfl (by decide +kernel) ⟨Nat.le_of_ble_eq_true rfl, Nat.le_of_ble_eq_true rfl⟩) (j_prV2z hK hG hI hw (ci := 12) rfl hfs) rfl rfl hl.1 rfl (lv_room (Nat.le_of_ble_eq_true rfl)) dX10_timesLeft_2 ⟨by show _ ≤ 0; omega, by show _ ≤ 0; omega⟩) (fun v1 μ2 H locs hw hI => ?_)
  refine W.eq (g2 := F0 m 5 ls [.int v1]) rfl ?_
  refine lv_if_eq (tgt := 16) hx hb dX10_timesLeft_5 (by decide) (fun hc => ?_) (fun hc => ?_)
  · have hw := hw.1 hc
    refine lv_iconst (v := (0)) hx hb dX10_timesLeft_16 (by decide) ?_
    exact j_iretz hx hb hr hlocks hI hw (by omega) (by omega) dX10_timesLeft_17
  · have hw := hw.2 hc
    refine j_aload_n (r := (some b)) hx hb dX10_timesLeft_8 rfl (lv_at hl 0 rfl) ?_
    refine lv_iload_n hx hb dX10_timesLeft_9 rfl (lv_at hl 1 rfl) ?_
    obtain ⟨hfs, hw⟩ := hw
    refine j_goz hI (va_runV (As := [.int x1]) (rest := []) ⟨hx, hb, hml, hown, hts⟩ (kX10_leftOf l hfl D z b x1 μ2 H.size _) (cwV 1 hts gX10_timesLeft_X10_leftOf rfl rfl rfl (by decide +kernel) ⟨Nat.le_of_ble_eq_true rfl, Nat.le_of_ble_eq_true rfl⟩) (j_prV2z hK hG hI hw (ci := 12) rfl hfs) rfl rfl hl.1 rfl (lv_room (Nat.le_of_ble_eq_true rfl)) dX10_timesLeft_10 ⟨by show _ ≤ 0; omega, by show _ ≤ 0; omega⟩) (fun v3 μ4 H locs hw hI => ?_)
    refine W.eq (g2 := F0 m 13 ls [.int v3]) rfl ?_
    refine lv_goto (tgt := 17) hx hb dX10_timesLeft_13 (by decide) ?_
    exact j_iretz hx hb hr hlocks hI hw (by omega) (by omega) dX10_timesLeft_17
set_option maxHeartbeats 4000000 in
set_option maxRecDepth 100000 in
theorem kX10_timesLeft (l : Launch) (hfl : l.stackTraces = false) (D : jD) (z : Nat × Nat) (b : Nat) (x1 : Int32) (μ : jM) (sz : Nat) (Q : Int32 → jM → Prop) : Met l yX10_timesLeft wsX10_timesLeft rmX10_timesLeft (jPre2z D z μ sz [.ref b, .int x1] (wX10_timesLeft z b x1 μ Q)) (jRz jfI Q D z (jA z μ sz)) 0 0 (jA z μ sz) := by
  refine Met.ofW (cc := cX10_timesLeft) (maxL := 2) (ret := (some .int)) (by decide) rfl ?_
  intro p e s m args below meth c s₁ B hml hv
  obtain ⟨rfl, hsz, hH, hz0, hK, hG, hw⟩ := hv
  subst hsz
  have hX : jX2 D z (jA z μ s.heap.size) p l s m _ meth c yX10_timesLeft cX10_timesLeft 2 wsX10_timesLeft (some .int) := ⟨B.exec, B.bytes, hml, findClass_of_methodNamed B.named, atoms_spec (ws := wsX10_timesLeft) B.pre, B.returns, B.notSynchronized, (name_of_methodNamed B.named B.method).1, hK, hG, hfl⟩
  obtain ⟨ls, hg, hl⟩ : ∃ ls : Array Slot, entryFrame m ([.ref b, .int x1] : List Value).toArray 2 = F0 m 0 ls [] ∧ lv_has ls 2 [(0, va_rf (some b)), (1, .int x1)] := by
    exact ⟨_, lg_entry_eq .., lv_entry _ (n := 2) (Nat.le_of_ble_eq_true rfl)⟩
  rw [hg]
  exact kX10_timesLeft_0 hX hw (jIz.start hH hz0) (lv_sub hl [0, 1] rfl) (by decide) (by decide)
set_option maxHeartbeats 4000000 in
set_option maxRecDepth 100000 in
theorem kX10_scheduled_146 {b : Nat} (hX : jX2 D z A p l s m args meth c yX10_scheduled cX10_scheduled 10 wsX10_scheduled (some .long)) {Q : Int64 → jM → Prop} {K67 : Int32 → Int32 → Int32 → Int64 → Int32 → Int32 → jM → Prop} (hK67 : ∀ {x1 : Int32} {x2 : Int32} {x3 : Int32} {x4 : Int64} {x6 : Int32} {x7 : Int32} {μ : jM} {H : Heap} {locs : List Loc} {ls : Array Slot} {cells slots : Nat}, K67 x1 x2 x3 x4 x6 x7 μ → jIz D z A s.heap μ H locs → lv_has ls 10 [(0, va_rf (some b)), (1, .int x1), (2, .int x2), (3, .int x3), (4, .long x4), (6, .int x6), (7, .int x7)] → cells + 0 ≤ 0 → slots + 0 ≤ 0 → W p l e rmX10_scheduled s m args below meth c H locs cells slots (MQ below (jRz jfJ Q D z A) args s 0 0 A) (F0 m 67 ls [])) {K89 : Int32 → Int32 → Int32 → Int64 → Int32 → Int32 → Int32 → jM → Prop} (hK89 : ∀ {x1 : Int32} {x2 : Int32} {x3 : Int32} {x4 : Int64} {x6 : Int32} {x7 : Int32} {x8 : Int32} {μ : jM} {H : Heap} {locs : List Loc} {ls : Array Slot} {cells slots : Nat}, K89 x1 x2 x3 x4 x6 x7 x8 μ → jIz D z A s.heap μ H locs → lv_has ls 10 [(0, va_rf (some b)), (1, .int x1), (2, .int x2), (3, .int x3), (4, .long x4), (6, .int x6), (7, .int x7), (8, .int x8)] → cells + 0 ≤ 0 → slots + 0 ≤ 0 → W p l e rmX10_scheduled s m args below meth c H locs cells slots (MQ below (jRz jfJ Q D z A) args s 0 0 A) (F0 m 89 ls [])) {x1 : Int32} {x2 : Int32} {x3 : Int32} {x4 : Int64} {x6 : Int32} {x7 : Int32} {x8 : Int32} {t0 : Int32} {μ : jM} {H : Heap} {locs : List Loc} {ls : Array Slot} {cells slots : Nat} (hw : wX10_scheduled_146 z b K67 K89 Q x1 x2 x3 x4 x6 x7 x8 t0 μ) (hI : jIz D z A s.heap μ H locs) (hl : lv_has ls 10 [(0, va_rf (some b)), (1, .int x1), (2, .int x2), (3, .int x3), (4, .long x4), (6, .int x6), (7, .int x7), (8, .int x8)]) (hcn : cells + 0 ≤ 0) (hsn : slots + 0 ≤ 0) : W p l e rmX10_scheduled s m args below meth c H locs cells slots (MQ below (jRz jfJ Q D z A) args s 0 0 A) (F0 m 146 ls [.int t0]) := by
  unfold wX10_scheduled_146 at hw
  obtain ⟨hx, hb, hml, hown, hts, hr, hlocks, hnm, hK, hG, hfl⟩ := id hX
  have hown : s.vm.findClass RX10 = some m.cls := hown
  have hfX10 : ∀ w ∈ wsX100, w.before args s = true := fun w h => hts w (List.mem_cons_of_mem _ (List.mem_append_right _ h))
  refine lv_istore (lv' := [(9, .int t0), (0, va_rf (some b)), (1, .int x1), (2, .int x2), (3, .int x3), (4, .long x4), (6, .int x6), (7, .int x7), (8, .int x8)]) hx hb dX10_scheduled_146 hl (by decide) rfl (fun ls hl => ?_)
  refine lv_lload hx hb dX10_scheduled_148 (lv_at hl 5 rfl) ?_
  refine lv_iload hx hb dX10_scheduled_150 (lv_at hl 0 rfl) ?_
  refine lv_iload_n hx hb dX10_scheduled_152 rfl (lv_at hl 3 rfl) ?_
  refine lv_icmp_lt (tgt := 173) hx hb dX10_scheduled_153 (by decide) (fun hc => ?_) (fun hc => ?_)
  · have hw := hw.1 hc
    refine lv_lconst (v := (0)) hx hb dX10_scheduled_173 (by decide) ?_
    refine lv_ladd hx hb dX10_scheduled_174 ?_
    refine lv_topl (fun v1 ev1 => ?_)
    have hw := hw v1 ev1
    refine lv_lstore (lv' := [(4, .long v1), (9, .int t0), (0, va_rf (some b)), (1, .int x1), (2, .int x2), (3, .int x3), (6, .int x6), (7, .int x7), (8, .int x8)]) hx hb dX10_scheduled_175 hl (by decide) rfl (fun ls hl => ?_)
    obtain ⟨v2, ev2⟩ : ∃ y : Int32, y = x8 + (1 : Int32) := ⟨_, rfl⟩
    have hw := hw v2 ev2
    refine lv_iinc (v := v2) (lv' := [(8, .int v2), (4, .long v1), (9, .int t0), (0, va_rf (some b)), (1, .int x1), (2, .int x2), (3, .int x3), (6, .int x6), (7, .int x7)]) hx hb dX10_scheduled_177 hl (k := 8) rfl (by rw [ev2]; rfl) (by decide) rfl (fun ls hl => ?_)
    refine lv_goto (tgt := 89) hx hb dX10_scheduled_180 (by decide) ?_
    exact hK89 hw hI (lv_sub hl [3, 4, 5, 6, 1, 7, 8, 0] rfl) (by omega) (by omega)
  · have hw := hw.2 hc
    refine lv_iload hx hb dX10_scheduled_156 (lv_at hl 0 rfl) ?_
    refine lv_iload_n hx hb dX10_scheduled_158 rfl (lv_at hl 4 rfl) ?_
    refine lv_icmp_gt (tgt := 173) hx hb dX10_scheduled_159 (by decide) (fun hc => ?_) (fun hc => ?_)
    · have hw := hw.1 hc
      refine lv_lconst (v := (0)) hx hb dX10_scheduled_173 (by decide) ?_
      refine lv_ladd hx hb dX10_scheduled_174 ?_
      refine lv_topl (fun v3 ev3 => ?_)
      have hw := hw v3 ev3
      refine lv_lstore (lv' := [(4, .long v3), (9, .int t0), (0, va_rf (some b)), (1, .int x1), (2, .int x2), (3, .int x3), (6, .int x6), (7, .int x7), (8, .int x8)]) hx hb dX10_scheduled_175 hl (by decide) rfl (fun ls hl => ?_)
      obtain ⟨v4, ev4⟩ : ∃ y : Int32, y = x8 + (1 : Int32) := ⟨_, rfl⟩
      have hw := hw v4 ev4
      refine lv_iinc (v := v4) (lv' := [(8, .int v4), (4, .long v3), (9, .int t0), (0, va_rf (some b)), (1, .int x1), (2, .int x2), (3, .int x3), (6, .int x6), (7, .int x7)]) hx hb dX10_scheduled_177 hl (k := 8) rfl (by rw [ev4]; rfl) (by decide) rfl (fun ls hl => ?_)
      refine lv_goto (tgt := 89) hx hb dX10_scheduled_180 (by decide) ?_
      exact hK89 hw hI (lv_sub hl [3, 4, 5, 6, 1, 7, 8, 0] rfl) (by omega) (by omega)
    · have hw := hw.2 hc
      refine j_aload_n (r := (some b)) hx hb dX10_scheduled_162 rfl (lv_at hl 1 rfl) ?_
      obtain ⟨v5, hv5, hw⟩ := hw
      refine j_getz (C := RX10) (T := TX10) (N := 25) (ci := 12) (r := (some b)) (v := va_rf v5) hx hb hfX10 hown hK hI rfl 18 (by decide) (hts (.fieldLink RX10 56 "CashPoolsModel" "flowAmount" "[I") (List.mem_of_getElem? (i := 5) (by decide +kernel))) (fun _ h => h) hv5 dX10_scheduled_163 ?_
      refine lv_iload hx hb dX10_scheduled_166 (lv_at hl 7 rfl) ?_
      obtain ⟨v6, hv6, hw⟩ := hw
      refine j_ialdz (r := v5) hx hb hK hI hv6 dX10_scheduled_168 ?_
      refine lv_i2l hx hb dX10_scheduled_169 rfl ?_
      refine lv_goto (tgt := 174) hx hb dX10_scheduled_170 (by decide) ?_
      refine lv_ladd hx hb dX10_scheduled_174 ?_
      refine lv_topl (fun v7 ev7 => ?_)
      have hw := hw v7 ev7
      refine lv_lstore (lv' := [(4, .long v7), (9, .int t0), (0, va_rf (some b)), (1, .int x1), (2, .int x2), (3, .int x3), (6, .int x6), (7, .int x7), (8, .int x8)]) hx hb dX10_scheduled_175 hl (by decide) rfl (fun ls hl => ?_)
      obtain ⟨v8, ev8⟩ : ∃ y : Int32, y = x8 + (1 : Int32) := ⟨_, rfl⟩
      have hw := hw v8 ev8
      refine lv_iinc (v := v8) (lv' := [(8, .int v8), (4, .long v7), (9, .int t0), (0, va_rf (some b)), (1, .int x1), (2, .int x2), (3, .int x3), (6, .int x6), (7, .int x7)]) hx hb dX10_scheduled_177 hl (k := 8) rfl (by rw [ev8]; rfl) (by decide) rfl (fun ls hl => ?_)
      refine lv_goto (tgt := 89) hx hb dX10_scheduled_180 (by decide) ?_
      exact hK89 hw hI (lv_sub hl [3, 4, 5, 6, 1, 7, 8, 0] rfl) (by omega) (by omega)
set_option maxHeartbeats 4000000 in
set_option maxRecDepth 100000 in
theorem kX10_scheduled_89 {b : Nat} (hX : jX2 D z A p l s m args meth c yX10_scheduled cX10_scheduled 10 wsX10_scheduled (some .long)) {Q : Int64 → jM → Prop} {K67 : Int32 → Int32 → Int32 → Int64 → Int32 → Int32 → jM → Prop} (hK67 : ∀ {x1 : Int32} {x2 : Int32} {x3 : Int32} {x4 : Int64} {x6 : Int32} {x7 : Int32} {μ : jM} {H : Heap} {locs : List Loc} {ls : Array Slot} {cells slots : Nat}, K67 x1 x2 x3 x4 x6 x7 μ → jIz D z A s.heap μ H locs → lv_has ls 10 [(0, va_rf (some b)), (1, .int x1), (2, .int x2), (3, .int x3), (4, .long x4), (6, .int x6), (7, .int x7)] → cells + 0 ≤ 0 → slots + 0 ≤ 0 → W p l e rmX10_scheduled s m args below meth c H locs cells slots (MQ below (jRz jfJ Q D z A) args s 0 0 A) (F0 m 67 ls [])) (n : Nat) : ∀ {x1 : Int32} {x2 : Int32} {x3 : Int32} {x4 : Int64} {x6 : Int32} {x7 : Int32} {x8 : Int32} {μ : jM} {H : Heap} {locs : List Loc} {ls : Array Slot} {cells slots : Nat}, wX10_scheduled_89 z b K67 Q n x1 x2 x3 x4 x6 x7 x8 μ → jIz D z A s.heap μ H locs → lv_has ls 10 [(0, va_rf (some b)), (1, .int x1), (2, .int x2), (3, .int x3), (4, .long x4), (6, .int x6), (7, .int x7), (8, .int x8)] → cells + 0 ≤ 0 → slots + 0 ≤ 0 → W p l e rmX10_scheduled s m args below meth c H locs cells slots (MQ below (jRz jfJ Q D z A) args s 0 0 A) (F0 m 89 ls []) := by
  induction n with
  | zero =>
    intros
    rename_i hw _ _ _ _
    exact (show False from hw).elim
  | succ n ih =>
    intro x1 x2 x3 x4 x6 x7 x8 μ H locs ls cells slots hw hI hl hcn hsn
    have hw : wX10_scheduled_89_b z b K67 Q (wX10_scheduled_89 z b K67 Q n) x1 x2 x3 x4 x6 x7 x8 μ := hw
    unfold wX10_scheduled_89_b at hw
    obtain ⟨hx, hb, hml, hown, hts, hr, hlocks, hnm, hK, hG, hfl⟩ := id hX
    have hown : s.vm.findClass RX10 = some m.cls := hown
    have hfX10 : ∀ w ∈ wsX100, w.before args s = true := fun w h => hts w (List.mem_cons_of_mem _ (List.mem_append_right _ h))
    refine lv_iload hx hb dX10_scheduled_89 (lv_at hl 7 rfl) ?_
    refine j_aload_n (r := (some b)) hx hb dX10_scheduled_91 rfl (lv_at hl 0 rfl) ?_
    obtain ⟨v1, hv1, hw⟩ := hw
    refine j_getz (C := RX10) (T := TX10) (N := 25) (ci := 12) (r := (some b)) (v := va_rf v1) hx hb hfX10 hown hK hI rfl 21 (by decide) (hts (.fieldLink RX10 65 "CashPoolsModel" "flowTimes" "[I") (List.mem_of_getElem? (i := 3) (by decide +kernel))) (fun _ h => h) hv1 dX10_scheduled_92 ?_
    refine lv_iload hx hb dX10_scheduled_95 (lv_at hl 6 rfl) ?_
    obtain ⟨v2, hv2, hw⟩ := hw
    refine j_ialdz (r := v1) hx hb hK hI hv2 dX10_scheduled_97 ?_
    refine lv_icmp_ge (tgt := 183) hx hb dX10_scheduled_98 (by decide) (fun hc => ?_) (fun hc => ?_)
    · have hw := hw.1 hc
      obtain ⟨v3, ev3⟩ : ∃ y : Int32, y = x7 + (1 : Int32) := ⟨_, rfl⟩
      have hw := hw v3 ev3
      refine lv_iinc (v := v3) (lv' := [(7, .int v3), (0, va_rf (some b)), (1, .int x1), (2, .int x2), (3, .int x3), (4, .long x4), (6, .int x6), (8, .int x8)]) hx hb dX10_scheduled_183 hl (k := 6) rfl (by rw [ev3]; rfl) (by decide) rfl (fun ls hl => ?_)
      refine lv_goto (tgt := 67) hx hb dX10_scheduled_186 (by decide) ?_
      exact hK67 hw hI (lv_sub hl [1, 2, 3, 4, 5, 6, 0] rfl) (by omega) (by omega)
    · have hw := hw.2 hc
      refine j_aload_n (r := (some b)) hx hb dX10_scheduled_101 rfl (lv_at hl 0 rfl) ?_
      obtain ⟨v4, hv4, hw⟩ := hw
      refine j_getz (C := RX10) (T := TX10) (N := 25) (ci := 12) (r := (some b)) (v := va_rf v4) hx hb hfX10 hown hK hI rfl 17 (by decide) (hts (.fieldLink RX10 53 "CashPoolsModel" "flowAccount" "[I") (List.mem_of_getElem? (i := 4) (by decide +kernel))) (fun _ h => h) hv4 dX10_scheduled_102 ?_
      refine lv_iload hx hb dX10_scheduled_105 (lv_at hl 6 rfl) ?_
      obtain ⟨v5, hv5, hw⟩ := hw
      refine j_ialdz (r := v4) hx hb hK hI hv5 dX10_scheduled_107 ?_
      refine lv_iload_n hx hb dX10_scheduled_108 rfl (lv_at hl 1 rfl) ?_
      refine lv_icmp_ne (tgt := 183) hx hb dX10_scheduled_109 (by decide) (fun hc => ?_) (fun hc => ?_)
      · have hw := hw.1 hc
        obtain ⟨v6, ev6⟩ : ∃ y : Int32, y = x7 + (1 : Int32) := ⟨_, rfl⟩
        have hw := hw v6 ev6
        refine lv_iinc (v := v6) (lv' := [(7, .int v6), (0, va_rf (some b)), (1, .int x1), (2, .int x2), (3, .int x3), (4, .long x4), (6, .int x6), (8, .int x8)]) hx hb dX10_scheduled_183 hl (k := 6) rfl (by rw [ev6]; rfl) (by decide) rfl (fun ls hl => ?_)
        refine lv_goto (tgt := 67) hx hb dX10_scheduled_186 (by decide) ?_
        exact hK67 hw hI (lv_sub hl [1, 2, 3, 4, 5, 6, 0] rfl) (by omega) (by omega)
      · have hw := hw.2 hc
        refine j_aload_n (r := (some b)) hx hb dX10_scheduled_112 rfl (lv_at hl 0 rfl) ?_
        refine lv_iload hx hb dX10_scheduled_113 (lv_at hl 6 rfl) ?_
        refine lv_iload hx hb dX10_scheduled_115 (lv_at hl 7 rfl) ?_
        obtain ⟨hfs, hw⟩ := hw
        refine j_goz hI (va_runV (As := [.int x7, .int x8]) (rest := []) ⟨hx, hb, hml, hown, hts⟩ (kX10_due l hfl D z b x7 x8 μ H.size _) (cwV 2 hts gX10_scheduled_X10_due rfl rfl rfl (by decide +kernel) ⟨Nat.le_of_ble_eq_true rfl, Nat.le_of_ble_eq_true rfl⟩) (j_prV2z hK hG hI hw (ci := 12) rfl hfs) rfl rfl hl.1 rfl (lv_room (Nat.le_of_ble_eq_true rfl)) dX10_scheduled_117 ⟨by show _ ≤ 0; omega, by show _ ≤ 0; omega⟩) (fun v7 μ8 H locs hw hI => ?_)
        refine W.eq (g2 := F0 m 120 ls [.int v7]) rfl ?_
        refine lv_iload hx hb dX10_scheduled_120 (lv_at hl 5 rfl) ?_
        refine lv_icmp_ge (tgt := 134) hx hb dX10_scheduled_122 (by decide) (fun hc => ?_) (fun hc => ?_)
        · have hw := hw.1 hc
          refine j_aload_n (r := (some b)) hx hb dX10_scheduled_134 rfl (lv_at hl 0 rfl) ?_
          refine j_aload_n (r := (some b)) hx hb dX10_scheduled_135 rfl (lv_at hl 0 rfl) ?_
          refine lv_iload hx hb dX10_scheduled_136 (lv_at hl 6 rfl) ?_
          refine lv_iload hx hb dX10_scheduled_138 (lv_at hl 7 rfl) ?_
          obtain ⟨hfs, hw⟩ := hw
          refine j_goz hI (va_runV (As := [.int x7, .int x8]) (rest := [va_rf (some b)]) ⟨hx, hb, hml, hown, hts⟩ (kX10_due l hfl D z b x7 x8 μ8 H.size _) (cwV 2 hts gX10_scheduled_X10_due rfl rfl rfl (by decide +kernel) ⟨Nat.le_of_ble_eq_true rfl, Nat.le_of_ble_eq_true rfl⟩) (j_prV2z hK hG hI hw (ci := 12) rfl hfs) rfl rfl hl.1 rfl (lv_room (Nat.le_of_ble_eq_true rfl)) dX10_scheduled_140 ⟨by show _ ≤ 0; omega, by show _ ≤ 0; omega⟩) (fun v9 μ10 H locs hw hI => ?_)
          refine W.eq (g2 := F0 m 143 ls [.int v9, va_rf (some b)]) rfl ?_
          obtain ⟨hfs, hw⟩ := hw
          refine j_goz hI (va_runV (As := [.int v9]) (rest := []) ⟨hx, hb, hml, hown, hts⟩ (kX10_settles l hfl D z b v9 μ10 H.size _) (cwV 1 hts gX10_scheduled_X10_settles rfl rfl rfl (by decide +kernel) ⟨Nat.le_of_ble_eq_true rfl, Nat.le_of_ble_eq_true rfl⟩) (j_prV2z hK hG hI hw (ci := 12) rfl hfs) rfl rfl hl.1 rfl (lv_room (Nat.le_of_ble_eq_true rfl)) dX10_scheduled_143 ⟨by show _ ≤ 0; omega, by show _ ≤ 0; omega⟩) (fun v11 μ12 H locs hw hI => ?_)
          refine W.eq (g2 := F0 m 146 ls [.int v11]) rfl ?_
          exact kX10_scheduled_146 hX hK67 ih hw hI (lv_sub hl [0, 1, 2, 3, 4, 5, 6, 7] rfl) (by omega) (by omega)
        · have hw := hw.2 hc
          refine j_aload_n (r := (some b)) hx hb dX10_scheduled_125 rfl (lv_at hl 0 rfl) ?_
          refine lv_iload hx hb dX10_scheduled_126 (lv_at hl 5 rfl) ?_
          obtain ⟨hfs, hw⟩ := hw
          refine j_goz hI (va_runV (As := [.int x6]) (rest := []) ⟨hx, hb, hml, hown, hts⟩ (kX10_settles l hfl D z b x6 μ8 H.size _) (cwV 1 hts gX10_scheduled_X10_settles rfl rfl rfl (by decide +kernel) ⟨Nat.le_of_ble_eq_true rfl, Nat.le_of_ble_eq_true rfl⟩) (j_prV2z hK hG hI hw (ci := 12) rfl hfs) rfl rfl hl.1 rfl (lv_room (Nat.le_of_ble_eq_true rfl)) dX10_scheduled_128 ⟨by show _ ≤ 0; omega, by show _ ≤ 0; omega⟩) (fun v13 μ14 H locs hw hI => ?_)
          refine W.eq (g2 := F0 m 131 ls [.int v13]) rfl ?_
          refine lv_goto (tgt := 146) hx hb dX10_scheduled_131 (by decide) ?_
          exact kX10_scheduled_146 hX hK67 ih hw hI (lv_sub hl [0, 1, 2, 3, 4, 5, 6, 7] rfl) (by omega) (by omega)
set_option maxHeartbeats 4000000 in
set_option maxRecDepth 100000 in
theorem kX10_scheduled_67 {b : Nat} (hX : jX2 D z A p l s m args meth c yX10_scheduled cX10_scheduled 10 wsX10_scheduled (some .long)) {Q : Int64 → jM → Prop}  (n : Nat) : ∀ {x1 : Int32} {x2 : Int32} {x3 : Int32} {x4 : Int64} {x6 : Int32} {x7 : Int32} {μ : jM} {H : Heap} {locs : List Loc} {ls : Array Slot} {cells slots : Nat}, wX10_scheduled_67 z b Q n x1 x2 x3 x4 x6 x7 μ → jIz D z A s.heap μ H locs → lv_has ls 10 [(0, va_rf (some b)), (1, .int x1), (2, .int x2), (3, .int x3), (4, .long x4), (6, .int x6), (7, .int x7)] → cells + 0 ≤ 0 → slots + 0 ≤ 0 → W p l e rmX10_scheduled s m args below meth c H locs cells slots (MQ below (jRz jfJ Q D z A) args s 0 0 A) (F0 m 67 ls []) := by
  induction n with
  | zero =>
    intros
    rename_i hw _ _ _ _
    exact (show False from hw).elim
  | succ n ih =>
    intro x1 x2 x3 x4 x6 x7 μ H locs ls cells slots hw hI hl hcn hsn
    have hw : wX10_scheduled_67_b z b Q (wX10_scheduled_67 z b Q n) x1 x2 x3 x4 x6 x7 μ := hw
    unfold wX10_scheduled_67_b at hw
    obtain ⟨hx, hb, hml, hown, hts, hr, hlocks, hnm, hK, hG, hfl⟩ := id hX
    have hown : s.vm.findClass RX10 = some m.cls := hown
    have hfX10 : ∀ w ∈ wsX100, w.before args s = true := fun w h => hts w (List.mem_cons_of_mem _ (List.mem_append_right _ h))
    refine lv_iload hx hb dX10_scheduled_67 (lv_at hl 6 rfl) ?_
    refine j_aload_n (r := (some b)) hx hb dX10_scheduled_69 rfl (lv_at hl 0 rfl) ?_
    obtain ⟨v1, hv1, hw⟩ := hw
    refine j_getz (C := RX10) (T := TX10) (N := 25) (ci := 12) (r := (some b)) (v := .int v1) hx hb hfX10 hown hK hI rfl 2 (by decide) (hts (.fieldLink RX10 164 "CashPoolsModel" "flows" "I") (List.mem_of_getElem? (i := 2) (by decide +kernel))) (fun _ h => h) hv1 dX10_scheduled_70 ?_
    refine lv_icmp_ge (tgt := 189) hx hb dX10_scheduled_73 (by decide) (fun hc => ?_) (fun hc => ?_)
    · have hw := hw.1 hc
      refine lv_lload hx hb dX10_scheduled_189 (lv_at hl 4 rfl) ?_
      exact j_lretz hx hb hr hlocks hI hw (by omega) (by omega) dX10_scheduled_191
    · have hw := hw.2 hc
      refine j_aload_n (r := (some b)) hx hb dX10_scheduled_76 rfl (lv_at hl 0 rfl) ?_
      obtain ⟨v2, hv2, hw⟩ := hw
      refine j_getz (C := RX10) (T := TX10) (N := 25) (ci := 12) (r := (some b)) (v := va_rf v2) hx hb hfX10 hown hK hI rfl 3 (by decide) (hts (.fieldLink RX10 7 "CashPoolsModel" "z" "[J") (List.mem_of_getElem? (i := 1) (by decide +kernel))) (fun _ h => h) hv2 dX10_scheduled_77 ?_
      refine lv_bipush (v := (88)) hx hb dX10_scheduled_80 (by decide) ?_
      refine lv_iload hx hb dX10_scheduled_82 (lv_at hl 6 rfl) ?_
      refine lv_iadd hx hb dX10_scheduled_84 ?_
      obtain ⟨v3, hv3, hw⟩ := hw
      refine j_laldz (r := v2) hx hb hK hI hv3 dX10_scheduled_85 ?_
      refine lv_l2i hx hb dX10_scheduled_86 rfl ?_
      refine lv_topi (fun v4 ev4 => ?_)
      have hw := hw v4 ev4
      refine lv_istore (lv' := [(8, .int v4), (0, va_rf (some b)), (1, .int x1), (2, .int x2), (3, .int x3), (4, .long x4), (6, .int x6), (7, .int x7)]) hx hb dX10_scheduled_87 hl (by decide) rfl (fun ls hl => ?_)
      obtain ⟨n5, hw⟩ := hw
      exact kX10_scheduled_89 hX ih n5 hw hI (lv_sub hl [1, 2, 3, 4, 5, 6, 7, 0] rfl) (by omega) (by omega)
set_option maxHeartbeats 4000000 in
set_option maxRecDepth 100000 in
theorem kX10_scheduled_43 {b : Nat} (hX : jX2 D z A p l s m args meth c yX10_scheduled cX10_scheduled 10 wsX10_scheduled (some .long)) {Q : Int64 → jM → Prop}  {x1 : Int32} {x2 : Int32} {x3 : Int32} {t0 : Option Nat} {t1 : Int32} {μ : jM} {H : Heap} {locs : List Loc} {ls : Array Slot} {cells slots : Nat} (hw : wX10_scheduled_43 z b Q x1 x2 x3 t0 t1 μ) (hI : jIz D z A s.heap μ H locs) (hl : lv_has ls 10 [(0, va_rf (some b)), (1, .int x1), (2, .int x2), (3, .int x3)]) (hcn : cells + 0 ≤ 0) (hsn : slots + 0 ≤ 0) : W p l e rmX10_scheduled s m args below meth c H locs cells slots (MQ below (jRz jfJ Q D z A) args s 0 0 A) (F0 m 43 ls [.int t1, va_rf t0]) := by
  unfold wX10_scheduled_43 at hw
  obtain ⟨hx, hb, hml, hown, hts, hr, hlocks, hnm, hK, hG, hfl⟩ := id hX
  have hown : s.vm.findClass RX10 = some m.cls := hown
  have hfX10 : ∀ w ∈ wsX100, w.before args s = true := fun w h => hts w (List.mem_cons_of_mem _ (List.mem_append_right _ h))
  obtain ⟨b3, ⟨hrb3, hfs⟩, hw⟩ := hw
  refine j_goz hI (va_runV (As := [.int t1]) (rest := []) ⟨hx, hb, hml, hown, hts⟩ (kX10_can l hfl D z b3 t1 μ H.size _) (cwV 1 hts gX10_scheduled_X10_can rfl rfl rfl (by decide +kernel) ⟨Nat.le_of_ble_eq_true rfl, Nat.le_of_ble_eq_true rfl⟩) (j_prV2z hK hG hI hw (ci := 12) rfl hfs) rfl rfl hl.1 (by rw [hrb3]; rfl) (lv_room (Nat.le_of_ble_eq_true rfl)) dX10_scheduled_43 ⟨by show _ ≤ 0; omega, by show _ ≤ 0; omega⟩) (fun v1 μ2 H locs hw hI => ?_)
  refine W.eq (g2 := F0 m 46 ls [.int v1]) rfl ?_
  refine lv_if_ne (tgt := 51) hx hb dX10_scheduled_46 (by decide) (fun hc => ?_) (fun hc => ?_)
  · have hw := hw.1 hc
    refine lv_lconst (v := (0)) hx hb dX10_scheduled_51 (by decide) ?_
    refine lv_topl (fun v4 ev4 => ?_)
    have hw := hw v4 ev4
    refine lv_lstore (lv' := [(4, .long v4), (0, va_rf (some b)), (1, .int x1), (2, .int x2), (3, .int x3)]) hx hb dX10_scheduled_52 hl (by decide) rfl (fun ls hl => ?_)
    refine j_aload_n (r := (some b)) hx hb dX10_scheduled_54 rfl (lv_at hl 1 rfl) ?_
    obtain ⟨v5, hv5, hw⟩ := hw
    refine j_getz (C := RX10) (T := TX10) (N := 25) (ci := 12) (r := (some b)) (v := va_rf v5) hx hb hfX10 hown hK hI rfl 3 (by decide) (hts (.fieldLink RX10 7 "CashPoolsModel" "z" "[J") (List.mem_of_getElem? (i := 1) (by decide +kernel))) (fun _ h => h) hv5 dX10_scheduled_55 ?_
    refine lv_bipush (v := (108)) hx hb dX10_scheduled_58 (by decide) ?_
    obtain ⟨v6, hv6, hw⟩ := hw
    refine j_laldz (r := v5) hx hb hK hI hv6 dX10_scheduled_60 ?_
    refine lv_l2i hx hb dX10_scheduled_61 rfl ?_
    refine lv_topi (fun v7 ev7 => ?_)
    have hw := hw v7 ev7
    refine lv_istore (lv' := [(6, .int v7), (4, .long v4), (0, va_rf (some b)), (1, .int x1), (2, .int x2), (3, .int x3)]) hx hb dX10_scheduled_62 hl (by decide) rfl (fun ls hl => ?_)
    refine lv_iconst (v := (0)) hx hb dX10_scheduled_64 (by decide) ?_
    refine lv_topi (fun v8 ev8 => ?_)
    have hw := hw v8 ev8
    refine lv_istore (lv' := [(7, .int v8), (6, .int v7), (4, .long v4), (0, va_rf (some b)), (1, .int x1), (2, .int x2), (3, .int x3)]) hx hb dX10_scheduled_65 hl (by decide) rfl (fun ls hl => ?_)
    obtain ⟨n9, hw⟩ := hw
    exact kX10_scheduled_67 hX  n9 hw hI (lv_sub hl [3, 4, 5, 6, 2, 1, 0] rfl) (by omega) (by omega)
  · have hw := hw.2 hc
    refine lv_lconst (v := (0)) hx hb dX10_scheduled_49 (by decide) ?_
    exact j_lretz hx hb hr hlocks hI hw (by omega) (by omega) dX10_scheduled_50
set_option maxHeartbeats 4000000 in
set_option maxRecDepth 100000 in
theorem kX10_scheduled_38 {b : Nat} (hX : jX2 D z A p l s m args meth c yX10_scheduled cX10_scheduled 10 wsX10_scheduled (some .long)) {Q : Int64 → jM → Prop}  {x1 : Int32} {x2 : Int32} {x3 : Int32} {t0 : Option Nat} {μ : jM} {H : Heap} {locs : List Loc} {ls : Array Slot} {cells slots : Nat} (hw : wX10_scheduled_38 z b Q x1 x2 x3 t0 μ) (hI : jIz D z A s.heap μ H locs) (hl : lv_has ls 10 [(0, va_rf (some b)), (1, .int x1), (2, .int x2), (3, .int x3)]) (hcn : cells + 0 ≤ 0) (hsn : slots + 0 ≤ 0) : W p l e rmX10_scheduled s m args below meth c H locs cells slots (MQ below (jRz jfJ Q D z A) args s 0 0 A) (F0 m 38 ls [va_rf t0]) := by
  unfold wX10_scheduled_38 at hw
  obtain ⟨hx, hb, hml, hown, hts, hr, hlocks, hnm, hK, hG, hfl⟩ := id hX
  have hown : s.vm.findClass RX10 = some m.cls := hown
  refine lv_iconst (v := (2)) hx hb dX10_scheduled_38 (by decide) ?_
  refine lv_goto (tgt := 43) hx hb dX10_scheduled_39 (by decide) ?_
  exact kX10_scheduled_43 hX  hw hI (lv_sub hl [0, 1, 2, 3] rfl) (by omega) (by omega)
set_option maxHeartbeats 4000000 in
set_option maxRecDepth 100000 in
theorem kX10_scheduled_0 {b : Nat} (hX : jX2 D z A p l s m args meth c yX10_scheduled cX10_scheduled 10 wsX10_scheduled (some .long)) {Q : Int64 → jM → Prop}  {x1 : Int32} {x2 : Int32} {x3 : Int32} {μ : jM} {H : Heap} {locs : List Loc} {ls : Array Slot} {cells slots : Nat} (hw : wX10_scheduled_0 z b Q x1 x2 x3 μ) (hI : jIz D z A s.heap μ H locs) (hl : lv_has ls 10 [(0, va_rf (some b)), (1, .int x1), (2, .int x2), (3, .int x3)]) (hcn : cells + 0 ≤ 0) (hsn : slots + 0 ≤ 0) : W p l e rmX10_scheduled s m args below meth c H locs cells slots (MQ below (jRz jfJ Q D z A) args s 0 0 A) (F0 m 0 ls []) := by
  unfold wX10_scheduled_0 at hw
  obtain ⟨hx, hb, hml, hown, hts, hr, hlocks, hnm, hK, hG, hfl⟩ := id hX
  have hown : s.vm.findClass RX10 = some m.cls := hown
  have hfX10 : ∀ w ∈ wsX100, w.before args s = true := fun w h => hts w (List.mem_cons_of_mem _ (List.mem_append_right _ h))
  refine j_aload_n (r := (some b)) hx hb dX10_scheduled_0 rfl (lv_at hl 0 rfl) ?_
  refine j_aload_n (r := (some b)) hx hb dX10_scheduled_1 rfl (lv_at hl 0 rfl) ?_
  refine lv_iload_n hx hb dX10_scheduled_2 rfl (lv_at hl 1 rfl) ?_
  obtain ⟨hfs, hw⟩ := hw
  refine j_goz hI (va_runV (As := [.int x1]) (rest := [va_rf (some b)]) ⟨hx, hb, hml, hown, hts⟩ (kX10_isAccount l hfl D z b x1 μ H.size _) (cwV 1 hts gX10_scheduled_X10_isAccount rfl rfl rfl (by decide +kernel) ⟨Nat.le_of_ble_eq_true rfl, Nat.le_of_ble_eq_true rfl⟩) (j_prV2z hK hG hI hw (ci := 12) rfl hfs) rfl rfl hl.1 rfl (lv_room (Nat.le_of_ble_eq_true rfl)) dX10_scheduled_3 ⟨by show _ ≤ 0; omega, by show _ ≤ 0; omega⟩) (fun v1 μ2 H locs hw hI => ?_)
  refine W.eq (g2 := F0 m 6 ls [.int v1, va_rf (some b)]) rfl ?_
  refine lv_if_ne (tgt := 13) hx hb dX10_scheduled_6 (by decide) (fun hc => ?_) (fun hc => ?_)
  · have hw := hw.1 hc
    refine lv_iload_n hx hb dX10_scheduled_13 rfl (lv_at hl 2 rfl) ?_
    refine lv_i2l hx hb dX10_scheduled_14 rfl ?_
    refine j_aload_n (r := (some b)) hx hb dX10_scheduled_15 rfl (lv_at hl 0 rfl) ?_
    obtain ⟨v3, hv3, hw⟩ := hw
    refine j_getz (C := RX10) (T := TX10) (N := 25) (ci := 12) (r := (some b)) (v := va_rf v3) hx hb hfX10 hown hK hI rfl 3 (by decide) (hts (.fieldLink RX10 7 "CashPoolsModel" "z" "[J") (List.mem_of_getElem? (i := 1) (by decide +kernel))) (fun _ h => h) hv3 dX10_scheduled_16 ?_
    refine lv_bipush (v := (108)) hx hb dX10_scheduled_19 (by decide) ?_
    obtain ⟨v4, hv4, hw⟩ := hw
    refine j_laldz (r := v3) hx hb hK hI hv4 dX10_scheduled_21 ?_
    refine j_lcmp_lt (tgt := 38) hx hb dX10_scheduled_22 dX10_scheduled_23 (by decide) (fun hc => ?_) (fun hc => ?_)
    · have hw := hw.1 hc
      exact kX10_scheduled_38 hX  hw hI (lv_sub hl [0, 1, 2, 3] rfl) (by omega) (by omega)
    · have hw := hw.2 hc
      refine lv_iload_n hx hb dX10_scheduled_26 rfl (lv_at hl 3 rfl) ?_
      refine lv_iload_n hx hb dX10_scheduled_27 rfl (lv_at hl 2 rfl) ?_
      refine lv_icmp_lt (tgt := 38) hx hb dX10_scheduled_28 (by decide) (fun hc => ?_) (fun hc => ?_)
      · have hw := hw.1 hc
        exact kX10_scheduled_38 hX  hw hI (lv_sub hl [0, 1, 2, 3] rfl) (by omega) (by omega)
      · have hw := hw.2 hc
        refine lv_iload_n hx hb dX10_scheduled_31 rfl (lv_at hl 3 rfl) ?_
        refine lv_sipush (v := (450)) hx hb dX10_scheduled_32 (by decide) ?_
        refine lv_icmp_le (tgt := 42) hx hb dX10_scheduled_35 (by decide) (fun hc => ?_) (fun hc => ?_)
        · have hw := hw.1 hc
          refine lv_iconst (v := (0)) hx hb dX10_scheduled_42 (by decide) ?_
          exact kX10_scheduled_43 hX  hw hI (lv_sub hl [0, 1, 2, 3] rfl) (by omega) (by omega)
        · have hw := hw.2 hc
          exact kX10_scheduled_38 hX  hw hI (lv_sub hl [0, 1, 2, 3] rfl) (by omega) (by omega)
  · have hw := hw.2 hc
    refine lv_iconst (v := (1)) hx hb dX10_scheduled_9 (by decide) ?_
    refine lv_goto (tgt := 43) hx hb dX10_scheduled_10 (by decide) ?_
    exact kX10_scheduled_43 hX  hw hI (lv_sub hl [0, 1, 2, 3] rfl) (by omega) (by omega)
set_option maxHeartbeats 4000000 in
set_option maxRecDepth 100000 in
theorem kX10_scheduled (l : Launch) (hfl : l.stackTraces = false) (D : jD) (z : Nat × Nat) (b : Nat) (x1 : Int32) (x2 : Int32) (x3 : Int32) (μ : jM) (sz : Nat) (Q : Int64 → jM → Prop) : Met l yX10_scheduled wsX10_scheduled rmX10_scheduled (jPre2z D z μ sz [.ref b, .int x1, .int x2, .int x3] (wX10_scheduled z b x1 x2 x3 μ Q)) (jRz jfJ Q D z (jA z μ sz)) 0 0 (jA z μ sz) := by
  refine Met.ofW (cc := cX10_scheduled) (maxL := 10) (ret := (some .long)) (by decide) rfl ?_
  intro p e s m args below meth c s₁ B hml hv
  obtain ⟨rfl, hsz, hH, hz0, hK, hG, hw⟩ := hv
  subst hsz
  have hX : jX2 D z (jA z μ s.heap.size) p l s m _ meth c yX10_scheduled cX10_scheduled 10 wsX10_scheduled (some .long) := ⟨B.exec, B.bytes, hml, findClass_of_methodNamed B.named, atoms_spec (ws := wsX10_scheduled) B.pre, B.returns, B.notSynchronized, (name_of_methodNamed B.named B.method).1, hK, hG, hfl⟩
  obtain ⟨ls, hg, hl⟩ : ∃ ls : Array Slot, entryFrame m ([.ref b, .int x1, .int x2, .int x3] : List Value).toArray 10 = F0 m 0 ls [] ∧ lv_has ls 10 [(0, va_rf (some b)), (1, .int x1), (2, .int x2), (3, .int x3)] := by
    exact ⟨_, lg_entry_eq .., lv_entry _ (n := 10) (Nat.le_of_ble_eq_true rfl)⟩
  rw [hg]
  exact kX10_scheduled_0 hX hw (jIz.start hH hz0) (lv_sub hl [0, 1, 2, 3] rfl) (by decide) (by decide)
set_option maxHeartbeats 4000000 in
set_option maxRecDepth 100000 in
theorem kX10_accounts_0 {b : Nat} (hX : jX2 D z A p l s m args meth c yX10_accounts cX10_accounts 1 wsX10_accounts (some .int)) {Q : Int32 → jM → Prop}   {μ : jM} {H : Heap} {locs : List Loc} {ls : Array Slot} {cells slots : Nat} (hw : wX10_accounts_0 z b Q  μ) (hI : jIz D z A s.heap μ H locs) (hl : lv_has ls 1 [(0, va_rf (some b))]) (hcn : cells + 0 ≤ 0) (hsn : slots + 0 ≤ 0) : W p l e rmX10_accounts s m args below meth c H locs cells slots (MQ below (jRz jfI Q D z A) args s 0 0 A) (F0 m 0 ls []) := by
  unfold wX10_accounts_0 at hw
  obtain ⟨hx, hb, hml, hown, hts, hr, hlocks, hnm, hK, hG, hfl⟩ := id hX
  have hown : s.vm.findClass RX10 = some m.cls := hown
  have hfX10 : ∀ w ∈ wsX100, w.before args s = true := fun w h => hts w (List.mem_cons_of_mem _ (List.mem_append_right _ h))
  refine j_aload_n (r := (some b)) hx hb dX10_accounts_0 rfl (lv_at hl 0 rfl) ?_
  refine lv_iconst (v := (0)) hx hb dX10_accounts_1 (by decide) ?_
  obtain ⟨μ1, hμ1, hw⟩ := hw
  refine j_putz (C := RX10) (T := TX10) (N := 25) (ci := 12) (r := (some b)) (v := .int (0 : Int32)) hx hb hfX10 tyX10 tyX10_ok nmX10 hown hK hI rfl 24 (by decide) (hts (.fieldLink RX10 75 "CashPoolsModel" "thrown" "I") (List.mem_of_getElem? (i := 1) (by decide +kernel))) (fun _ h => h) rfl (tyX10_ok 24 (by decide)) rfl rfl hμ1 dX10_accounts_2 (fun H locs hI => ?_)
  refine j_aload_n (r := (some b)) hx hb dX10_accounts_5 rfl (lv_at hl 0 rfl) ?_
  obtain ⟨v2, hv2, hw⟩ := hw
  refine j_getz (C := RX10) (T := TX10) (N := 25) (ci := 12) (r := (some b)) (v := .int v2) hx hb hfX10 hown hK hI rfl 0 (by decide) (hts (.fieldLink RX10 79 "CashPoolsModel" "accounts" "I") (List.mem_of_getElem? (i := 2) (by decide +kernel))) (fun _ h => h) hv2 dX10_accounts_6 ?_
  exact j_iretz hx hb hr hlocks hI hw (by omega) (by omega) dX10_accounts_9
set_option maxHeartbeats 4000000 in
set_option maxRecDepth 100000 in
theorem kX10_accounts (l : Launch) (hfl : l.stackTraces = false) (D : jD) (z : Nat × Nat) (b : Nat)  (μ : jM) (sz : Nat) (Q : Int32 → jM → Prop) : Met l yX10_accounts wsX10_accounts rmX10_accounts (jPre2z D z μ sz [.ref b] (wX10_accounts z b  μ Q)) (jRz jfI Q D z (jA z μ sz)) 0 0 (jA z μ sz) := by
  refine Met.ofW (cc := cX10_accounts) (maxL := 1) (ret := (some .int)) (by decide) rfl ?_
  intro p e s m args below meth c s₁ B hml hv
  obtain ⟨rfl, hsz, hH, hz0, hK, hG, hw⟩ := hv
  subst hsz
  have hX : jX2 D z (jA z μ s.heap.size) p l s m _ meth c yX10_accounts cX10_accounts 1 wsX10_accounts (some .int) := ⟨B.exec, B.bytes, hml, findClass_of_methodNamed B.named, atoms_spec (ws := wsX10_accounts) B.pre, B.returns, B.notSynchronized, (name_of_methodNamed B.named B.method).1, hK, hG, hfl⟩
  obtain ⟨ls, hg, hl⟩ : ∃ ls : Array Slot, entryFrame m ([.ref b] : List Value).toArray 1 = F0 m 0 ls [] ∧ lv_has ls 1 [(0, va_rf (some b))] := by
    exact ⟨_, lg_entry_eq .., lv_entry _ (n := 1) (Nat.le_of_ble_eq_true rfl)⟩
  rw [hg]
  exact kX10_accounts_0 hX hw (jIz.start hH hz0) (lv_sub hl [0] rfl) (by decide) (by decide)
set_option maxHeartbeats 4000000 in
set_option maxRecDepth 100000 in
theorem kX10_isThere_14 {b : Nat} (hX : jX2 D z A p l s m args meth c yX10_isThere cX10_isThere 2 wsX10_isThere (some .boolean)) {Q : Int32 → jM → Prop}  {t0 : Option Nat} {t1 : Int32} {μ : jM} {H : Heap} {locs : List Loc} {ls : Array Slot} {cells slots : Nat} (hw : wX10_isThere_14 z b Q t0 t1 μ) (hI : jIz D z A s.heap μ H locs) (hl : lv_has ls 2 [(0, va_rf (some b))]) (hcn : cells + 0 ≤ 0) (hsn : slots + 0 ≤ 0) : W p l e rmX10_isThere s m args below meth c H locs cells slots (MQ below (jRz jfI Q D z A) args s 0 0 A) (F0 m 14 ls [.int t1, va_rf t0]) := by
  unfold wX10_isThere_14 at hw
  obtain ⟨hx, hb, hml, hown, hts, hr, hlocks, hnm, hK, hG, hfl⟩ := id hX
  have hown : s.vm.findClass RX10 = some m.cls := hown
  obtain ⟨b3, ⟨hrb3, hfs⟩, hw⟩ := hw
  refine j_goz hI (va_runV (As := [.int t1]) (rest := []) ⟨hx, hb, hml, hown, hts⟩ (kX10_can l hfl D z b3 t1 μ H.size _) (cwV 1 hts gX10_isThere_X10_can rfl rfl rfl (by decide +kernel) ⟨Nat.le_of_ble_eq_true rfl, Nat.le_of_ble_eq_true rfl⟩) (j_prV2z hK hG hI hw (ci := 12) rfl hfs) rfl rfl hl.1 (by rw [hrb3]; rfl) (lv_room (Nat.le_of_ble_eq_true rfl)) dX10_isThere_14 ⟨by show _ ≤ 0; omega, by show _ ≤ 0; omega⟩) (fun v1 μ2 H locs hw hI => ?_)
  refine W.eq (g2 := F0 m 17 ls [.int v1]) rfl ?_
  obtain ⟨hz, hw⟩ := hw
  exact j_zretz hx hb hr hz hlocks hI hw (by omega) (by omega) dX10_isThere_17
set_option maxHeartbeats 4000000 in
set_option maxRecDepth 100000 in
theorem kX10_isThere_0 {b : Nat} (hX : jX2 D z A p l s m args meth c yX10_isThere cX10_isThere 2 wsX10_isThere (some .boolean)) {Q : Int32 → jM → Prop}  {x1 : Int32} {μ : jM} {H : Heap} {locs : List Loc} {ls : Array Slot} {cells slots : Nat} (hw : wX10_isThere_0 z b Q x1 μ) (hI : jIz D z A s.heap μ H locs) (hl : lv_has ls 2 [(0, va_rf (some b)), (1, .int x1)]) (hcn : cells + 0 ≤ 0) (hsn : slots + 0 ≤ 0) : W p l e rmX10_isThere s m args below meth c H locs cells slots (MQ below (jRz jfI Q D z A) args s 0 0 A) (F0 m 0 ls []) := by
  unfold wX10_isThere_0 at hw
  obtain ⟨hx, hb, hml, hown, hts, hr, hlocks, hnm, hK, hG, hfl⟩ := id hX
  have hown : s.vm.findClass RX10 = some m.cls := hown
  refine j_aload_n (r := (some b)) hx hb dX10_isThere_0 rfl (lv_at hl 0 rfl) ?_
  refine j_aload_n (r := (some b)) hx hb dX10_isThere_1 rfl (lv_at hl 0 rfl) ?_
  refine lv_iload_n hx hb dX10_isThere_2 rfl (lv_at hl 1 rfl) ?_
  obtain ⟨hfs, hw⟩ := hw
  refine j_goz hI (va_runV (As := [.int x1]) (rest := [va_rf (some b)]) ⟨hx, hb, hml, hown, hts⟩ (kX10_isAccount l hfl D z b x1 μ H.size _) (cwV 1 hts gX10_isThere_X10_isAccount rfl rfl rfl (by decide +kernel) ⟨Nat.le_of_ble_eq_true rfl, Nat.le_of_ble_eq_true rfl⟩) (j_prV2z hK hG hI hw (ci := 12) rfl hfs) rfl rfl hl.1 rfl (lv_room (Nat.le_of_ble_eq_true rfl)) dX10_isThere_3 ⟨by show _ ≤ 0; omega, by show _ ≤ 0; omega⟩) (fun v1 μ2 H locs hw hI => ?_)
  refine W.eq (g2 := F0 m 6 ls [.int v1, va_rf (some b)]) rfl ?_
  refine lv_if_eq (tgt := 13) hx hb dX10_isThere_6 (by decide) (fun hc => ?_) (fun hc => ?_)
  · have hw := hw.1 hc
    refine lv_iconst (v := (1)) hx hb dX10_isThere_13 (by decide) ?_
    exact kX10_isThere_14 hX  hw hI (lv_sub hl [0] rfl) (by omega) (by omega)
  · have hw := hw.2 hc
    refine lv_iconst (v := (0)) hx hb dX10_isThere_9 (by decide) ?_
    refine lv_goto (tgt := 14) hx hb dX10_isThere_10 (by decide) ?_
    exact kX10_isThere_14 hX  hw hI (lv_sub hl [0] rfl) (by omega) (by omega)
set_option maxHeartbeats 4000000 in
set_option maxRecDepth 100000 in
theorem kX10_isThere (l : Launch) (hfl : l.stackTraces = false) (D : jD) (z : Nat × Nat) (b : Nat) (x1 : Int32) (μ : jM) (sz : Nat) (Q : Int32 → jM → Prop) : Met l yX10_isThere wsX10_isThere rmX10_isThere (jPre2z D z μ sz [.ref b, .int x1] (wX10_isThere z b x1 μ Q)) (jRz jfI Q D z (jA z μ sz)) 0 0 (jA z μ sz) := by
  refine Met.ofW (cc := cX10_isThere) (maxL := 2) (ret := (some .boolean)) (by decide) rfl ?_
  intro p e s m args below meth c s₁ B hml hv
  obtain ⟨rfl, hsz, hH, hz0, hK, hG, hw⟩ := hv
  subst hsz
  have hX : jX2 D z (jA z μ s.heap.size) p l s m _ meth c yX10_isThere cX10_isThere 2 wsX10_isThere (some .boolean) := ⟨B.exec, B.bytes, hml, findClass_of_methodNamed B.named, atoms_spec (ws := wsX10_isThere) B.pre, B.returns, B.notSynchronized, (name_of_methodNamed B.named B.method).1, hK, hG, hfl⟩
  obtain ⟨ls, hg, hl⟩ : ∃ ls : Array Slot, entryFrame m ([.ref b, .int x1] : List Value).toArray 2 = F0 m 0 ls [] ∧ lv_has ls 2 [(0, va_rf (some b)), (1, .int x1)] := by
    exact ⟨_, lg_entry_eq .., lv_entry _ (n := 2) (Nat.le_of_ble_eq_true rfl)⟩
  rw [hg]
  exact kX10_isThere_0 hX hw (jIz.start hH hz0) (lv_sub hl [0, 1] rfl) (by decide) (by decide)
set_option maxHeartbeats 4000000 in
set_option maxRecDepth 100000 in
theorem kX10_poolOf_0 {b : Nat} (hX : jX2 D z A p l s m args meth c yX10_poolOf cX10_poolOf 2 wsX10_poolOf (some .int)) {Q : Int32 → jM → Prop}  {x1 : Int32} {μ : jM} {H : Heap} {locs : List Loc} {ls : Array Slot} {cells slots : Nat} (hw : wX10_poolOf_0 z b Q x1 μ) (hI : jIz D z A s.heap μ H locs) (hl : lv_has ls 2 [(0, va_rf (some b)), (1, .int x1)]) (hcn : cells + 0 ≤ 0) (hsn : slots + 0 ≤ 0) : W p l e rmX10_poolOf s m args below meth c H locs cells slots (MQ below (jRz jfI Q D z A) args s 0 0 A) (F0 m 0 ls []) := by
  unfold wX10_poolOf_0 at hw
  obtain ⟨hx, hb, hml, hown, hts, hr, hlocks, hnm, hK, hG, hfl⟩ := id hX
  have hown : s.vm.findClass RX10 = some m.cls := hown
  have hfX10 : ∀ w ∈ wsX100, w.before args s = true := fun w h => hts w (List.mem_cons_of_mem _ (List.mem_append_right _ h))
  refine j_aload_n (r := (some b)) hx hb dX10_poolOf_0 rfl (lv_at hl 0 rfl) ?_
  refine lv_iload_n hx hb dX10_poolOf_1 rfl (lv_at hl 1 rfl) ?_
  obtain ⟨hfs, hw⟩ := hw
  refine j_goz hI (va_runV (As := [.int x1]) (rest := []) ⟨hx, hb, hml, hown, hts⟩ (kX10_isThere l hfl D z b x1 μ H.size _) (cwV 1 hts gX10_poolOf_X10_isThere rfl rfl rfl (by decide +kernel) ⟨Nat.le_of_ble_eq_true rfl, Nat.le_of_ble_eq_true rfl⟩) (j_prV2z hK hG hI hw (ci := 12) rfl hfs) rfl rfl hl.1 rfl (lv_room (Nat.le_of_ble_eq_true rfl)) dX10_poolOf_2 ⟨by show _ ≤ 0; omega, by show _ ≤ 0; omega⟩) (fun v1 μ2 H locs hw hI => ?_)
  refine W.eq (g2 := F0 m 5 ls [.int v1]) rfl ?_
  refine lv_if_eq (tgt := 17) hx hb dX10_poolOf_5 (by decide) (fun hc => ?_) (fun hc => ?_)
  · have hw := hw.1 hc
    refine lv_iconst (v := (0)) hx hb dX10_poolOf_17 (by decide) ?_
    exact j_iretz hx hb hr hlocks hI hw (by omega) (by omega) dX10_poolOf_18
  · have hw := hw.2 hc
    refine j_aload_n (r := (some b)) hx hb dX10_poolOf_8 rfl (lv_at hl 0 rfl) ?_
    obtain ⟨v3, hv3, hw⟩ := hw
    refine j_getz (C := RX10) (T := TX10) (N := 25) (ci := 12) (r := (some b)) (v := va_rf v3) hx hb hfX10 hown hK hI rfl 6 (by decide) (hts (.fieldLink RX10 20 "CashPoolsModel" "top" "[I") (List.mem_of_getElem? (i := 1) (by decide +kernel))) (fun _ h => h) hv3 dX10_poolOf_9 ?_
    refine lv_iload_n hx hb dX10_poolOf_12 rfl (lv_at hl 1 rfl) ?_
    obtain ⟨v4, hv4, hw⟩ := hw
    refine j_ialdz (r := v3) hx hb hK hI hv4 dX10_poolOf_13 ?_
    refine lv_goto (tgt := 18) hx hb dX10_poolOf_14 (by decide) ?_
    exact j_iretz hx hb hr hlocks hI hw (by omega) (by omega) dX10_poolOf_18
set_option maxHeartbeats 4000000 in
set_option maxRecDepth 100000 in
theorem kX10_poolOf (l : Launch) (hfl : l.stackTraces = false) (D : jD) (z : Nat × Nat) (b : Nat) (x1 : Int32) (μ : jM) (sz : Nat) (Q : Int32 → jM → Prop) : Met l yX10_poolOf wsX10_poolOf rmX10_poolOf (jPre2z D z μ sz [.ref b, .int x1] (wX10_poolOf z b x1 μ Q)) (jRz jfI Q D z (jA z μ sz)) 0 0 (jA z μ sz) := by
  refine Met.ofW (cc := cX10_poolOf) (maxL := 2) (ret := (some .int)) (by decide) rfl ?_
  intro p e s m args below meth c s₁ B hml hv
  obtain ⟨rfl, hsz, hH, hz0, hK, hG, hw⟩ := hv
  subst hsz
  have hX : jX2 D z (jA z μ s.heap.size) p l s m _ meth c yX10_poolOf cX10_poolOf 2 wsX10_poolOf (some .int) := ⟨B.exec, B.bytes, hml, findClass_of_methodNamed B.named, atoms_spec (ws := wsX10_poolOf) B.pre, B.returns, B.notSynchronized, (name_of_methodNamed B.named B.method).1, hK, hG, hfl⟩
  obtain ⟨ls, hg, hl⟩ : ∃ ls : Array Slot, entryFrame m ([.ref b, .int x1] : List Value).toArray 2 = F0 m 0 ls [] ∧ lv_has ls 2 [(0, va_rf (some b)), (1, .int x1)] := by
    exact ⟨_, lg_entry_eq .., lv_entry _ (n := 2) (Nat.le_of_ble_eq_true rfl)⟩
  rw [hg]
  exact kX10_poolOf_0 hX hw (jIz.start hH hz0) (lv_sub hl [0, 1] rfl) (by decide) (by decide)
set_option maxHeartbeats 4000000 in
set_option maxRecDepth 100000 in
theorem kX10_balance_0 {b : Nat} (hX : jX2 D z A p l s m args meth c yX10_balance cX10_balance 2 wsX10_balance (some .long)) {Q : Int64 → jM → Prop}  {x1 : Int32} {μ : jM} {H : Heap} {locs : List Loc} {ls : Array Slot} {cells slots : Nat} (hw : wX10_balance_0 z b Q x1 μ) (hI : jIz D z A s.heap μ H locs) (hl : lv_has ls 2 [(0, va_rf (some b)), (1, .int x1)]) (hcn : cells + 0 ≤ 0) (hsn : slots + 0 ≤ 0) : W p l e rmX10_balance s m args below meth c H locs cells slots (MQ below (jRz jfJ Q D z A) args s 0 0 A) (F0 m 0 ls []) := by
  unfold wX10_balance_0 at hw
  obtain ⟨hx, hb, hml, hown, hts, hr, hlocks, hnm, hK, hG, hfl⟩ := id hX
  have hown : s.vm.findClass RX10 = some m.cls := hown
  have hfX10 : ∀ w ∈ wsX100, w.before args s = true := fun w h => hts w (List.mem_cons_of_mem _ (List.mem_append_right _ h))
  refine j_aload_n (r := (some b)) hx hb dX10_balance_0 rfl (lv_at hl 0 rfl) ?_
  refine lv_iload_n hx hb dX10_balance_1 rfl (lv_at hl 1 rfl) ?_
  obtain ⟨hfs, hw⟩ := hw
  refine j_goz hI (va_runV (As := [.int x1]) (rest := []) ⟨hx, hb, hml, hown, hts⟩ (kX10_isThere l hfl D z b x1 μ H.size _) (cwV 1 hts gX10_balance_X10_isThere rfl rfl rfl (by decide +kernel) ⟨Nat.le_of_ble_eq_true rfl, Nat.le_of_ble_eq_true rfl⟩) (j_prV2z hK hG hI hw (ci := 12) rfl hfs) rfl rfl hl.1 rfl (lv_room (Nat.le_of_ble_eq_true rfl)) dX10_balance_2 ⟨by show _ ≤ 0; omega, by show _ ≤ 0; omega⟩) (fun v1 μ2 H locs hw hI => ?_)
  refine W.eq (g2 := F0 m 5 ls [.int v1]) rfl ?_
  refine lv_if_eq (tgt := 19) hx hb dX10_balance_5 (by decide) (fun hc => ?_) (fun hc => ?_)
  · have hw := hw.1 hc
    refine lv_lconst (v := (0)) hx hb dX10_balance_19 (by decide) ?_
    exact j_lretz hx hb hr hlocks hI hw (by omega) (by omega) dX10_balance_20
  · have hw := hw.2 hc
    refine j_aload_n (r := (some b)) hx hb dX10_balance_8 rfl (lv_at hl 0 rfl) ?_
    obtain ⟨v3, hv3, hw⟩ := hw
    refine j_getz (C := RX10) (T := TX10) (N := 25) (ci := 12) (r := (some b)) (v := va_rf v3) hx hb hfX10 hown hK hI rfl 3 (by decide) (hts (.fieldLink RX10 7 "CashPoolsModel" "z" "[J") (List.mem_of_getElem? (i := 1) (by decide +kernel))) (fun _ h => h) hv3 dX10_balance_9 ?_
    refine lv_iconst (v := (0)) hx hb dX10_balance_12 (by decide) ?_
    refine lv_iload_n hx hb dX10_balance_13 rfl (lv_at hl 1 rfl) ?_
    refine lv_iadd hx hb dX10_balance_14 ?_
    obtain ⟨v4, hv4, hw⟩ := hw
    refine j_laldz (r := v3) hx hb hK hI hv4 dX10_balance_15 ?_
    refine lv_goto (tgt := 20) hx hb dX10_balance_16 (by decide) ?_
    exact j_lretz hx hb hr hlocks hI hw (by omega) (by omega) dX10_balance_20
set_option maxHeartbeats 4000000 in
set_option maxRecDepth 100000 in
theorem kX10_balance (l : Launch) (hfl : l.stackTraces = false) (D : jD) (z : Nat × Nat) (b : Nat) (x1 : Int32) (μ : jM) (sz : Nat) (Q : Int64 → jM → Prop) : Met l yX10_balance wsX10_balance rmX10_balance (jPre2z D z μ sz [.ref b, .int x1] (wX10_balance z b x1 μ Q)) (jRz jfJ Q D z (jA z μ sz)) 0 0 (jA z μ sz) := by
  refine Met.ofW (cc := cX10_balance) (maxL := 2) (ret := (some .long)) (by decide) rfl ?_
  intro p e s m args below meth c s₁ B hml hv
  obtain ⟨rfl, hsz, hH, hz0, hK, hG, hw⟩ := hv
  subst hsz
  have hX : jX2 D z (jA z μ s.heap.size) p l s m _ meth c yX10_balance cX10_balance 2 wsX10_balance (some .long) := ⟨B.exec, B.bytes, hml, findClass_of_methodNamed B.named, atoms_spec (ws := wsX10_balance) B.pre, B.returns, B.notSynchronized, (name_of_methodNamed B.named B.method).1, hK, hG, hfl⟩
  obtain ⟨ls, hg, hl⟩ : ∃ ls : Array Slot, entryFrame m ([.ref b, .int x1] : List Value).toArray 2 = F0 m 0 ls [] ∧ lv_has ls 2 [(0, va_rf (some b)), (1, .int x1)] := by
    exact ⟨_, lg_entry_eq .., lv_entry _ (n := 2) (Nat.le_of_ble_eq_true rfl)⟩
  rw [hg]
  exact kX10_balance_0 hX hw (jIz.start hH hz0) (lv_sub hl [0, 1] rfl) (by decide) (by decide)
set_option maxHeartbeats 4000000 in
set_option maxRecDepth 100000 in
theorem kX10_total_0 {b : Nat} (hX : jX2 D z A p l s m args meth c yX10_total cX10_total 2 wsX10_total (some .long)) {Q : Int64 → jM → Prop}  {x1 : Int32} {μ : jM} {H : Heap} {locs : List Loc} {ls : Array Slot} {cells slots : Nat} (hw : wX10_total_0 z b Q x1 μ) (hI : jIz D z A s.heap μ H locs) (hl : lv_has ls 2 [(0, va_rf (some b)), (1, .int x1)]) (hcn : cells + 0 ≤ 0) (hsn : slots + 0 ≤ 0) : W p l e rmX10_total s m args below meth c H locs cells slots (MQ below (jRz jfJ Q D z A) args s 0 0 A) (F0 m 0 ls []) := by
  unfold wX10_total_0 at hw
  obtain ⟨hx, hb, hml, hown, hts, hr, hlocks, hnm, hK, hG, hfl⟩ := id hX
  have hown : s.vm.findClass RX10 = some m.cls := hown
  have hfX10 : ∀ w ∈ wsX100, w.before args s = true := fun w h => hts w (List.mem_cons_of_mem _ (List.mem_append_right _ h))
  refine j_aload_n (r := (some b)) hx hb dX10_total_0 rfl (lv_at hl 0 rfl) ?_
  refine lv_iload_n hx hb dX10_total_1 rfl (lv_at hl 1 rfl) ?_
  obtain ⟨hfs, hw⟩ := hw
  refine j_goz hI (va_runV (As := [.int x1]) (rest := []) ⟨hx, hb, hml, hown, hts⟩ (kX10_isThere l hfl D z b x1 μ H.size _) (cwV 1 hts gX10_total_X10_isThere rfl rfl rfl (by decide +kernel) ⟨Nat.le_of_ble_eq_true rfl, Nat.le_of_ble_eq_true rfl⟩) (j_prV2z hK hG hI hw (ci := 12) rfl hfs) rfl rfl hl.1 rfl (lv_room (Nat.le_of_ble_eq_true rfl)) dX10_total_2 ⟨by show _ ≤ 0; omega, by show _ ≤ 0; omega⟩) (fun v1 μ2 H locs hw hI => ?_)
  refine W.eq (g2 := F0 m 5 ls [.int v1]) rfl ?_
  refine lv_if_eq (tgt := 22) hx hb dX10_total_5 (by decide) (fun hc => ?_) (fun hc => ?_)
  · have hw := hw.1 hc
    refine lv_lconst (v := (0)) hx hb dX10_total_22 (by decide) ?_
    exact j_lretz hx hb hr hlocks hI hw (by omega) (by omega) dX10_total_23
  · have hw := hw.2 hc
    refine j_aload_n (r := (some b)) hx hb dX10_total_8 rfl (lv_at hl 0 rfl) ?_
    refine j_aload_n (r := (some b)) hx hb dX10_total_9 rfl (lv_at hl 0 rfl) ?_
    obtain ⟨v3, hv3, hw⟩ := hw
    refine j_getz (C := RX10) (T := TX10) (N := 25) (ci := 12) (r := (some b)) (v := va_rf v3) hx hb hfX10 hown hK hI rfl 6 (by decide) (hts (.fieldLink RX10 20 "CashPoolsModel" "top" "[I") (List.mem_of_getElem? (i := 1) (by decide +kernel))) (fun _ h => h) hv3 dX10_total_10 ?_
    refine lv_iload_n hx hb dX10_total_13 rfl (lv_at hl 1 rfl) ?_
    obtain ⟨v4, hv4, hw⟩ := hw
    refine j_ialdz (r := v3) hx hb hK hI hv4 dX10_total_14 ?_
    refine lv_iload_n hx hb dX10_total_15 rfl (lv_at hl 1 rfl) ?_
    obtain ⟨hfs, hw⟩ := hw
    refine j_goz hI (va_runV (As := [.int v4, .int x1]) (rest := []) ⟨hx, hb, hml, hown, hts⟩ (kX10_sumOf l hfl D z b v4 x1 μ2 H.size _) (cwV 2 hts gX10_total_X10_sumOf rfl rfl rfl (by decide +kernel) ⟨Nat.le_of_ble_eq_true rfl, Nat.le_of_ble_eq_true rfl⟩) (j_prV2z hK hG hI hw (ci := 12) rfl hfs) rfl rfl hl.1 rfl (lv_room (Nat.le_of_ble_eq_true rfl)) dX10_total_16 ⟨by show _ ≤ 0; omega, by show _ ≤ 0; omega⟩) (fun v5 μ6 H locs hw hI => ?_)
    refine W.eq (g2 := F0 m 19 ls [.long v5]) rfl ?_
    refine lv_goto (tgt := 23) hx hb dX10_total_19 (by decide) ?_
    exact j_lretz hx hb hr hlocks hI hw (by omega) (by omega) dX10_total_23
set_option maxHeartbeats 4000000 in
set_option maxRecDepth 100000 in
theorem kX10_total (l : Launch) (hfl : l.stackTraces = false) (D : jD) (z : Nat × Nat) (b : Nat) (x1 : Int32) (μ : jM) (sz : Nat) (Q : Int64 → jM → Prop) : Met l yX10_total wsX10_total rmX10_total (jPre2z D z μ sz [.ref b, .int x1] (wX10_total z b x1 μ Q)) (jRz jfJ Q D z (jA z μ sz)) 0 0 (jA z μ sz) := by
  refine Met.ofW (cc := cX10_total) (maxL := 2) (ret := (some .long)) (by decide) rfl ?_
  intro p e s m args below meth c s₁ B hml hv
  obtain ⟨rfl, hsz, hH, hz0, hK, hG, hw⟩ := hv
  subst hsz
  have hX : jX2 D z (jA z μ s.heap.size) p l s m _ meth c yX10_total cX10_total 2 wsX10_total (some .long) := ⟨B.exec, B.bytes, hml, findClass_of_methodNamed B.named, atoms_spec (ws := wsX10_total) B.pre, B.returns, B.notSynchronized, (name_of_methodNamed B.named B.method).1, hK, hG, hfl⟩
  obtain ⟨ls, hg, hl⟩ : ∃ ls : Array Slot, entryFrame m ([.ref b, .int x1] : List Value).toArray 2 = F0 m 0 ls [] ∧ lv_has ls 2 [(0, va_rf (some b)), (1, .int x1)] := by
    exact ⟨_, lg_entry_eq .., lv_entry _ (n := 2) (Nat.le_of_ble_eq_true rfl)⟩
  rw [hg]
  exact kX10_total_0 hX hw (jIz.start hH hz0) (lv_sub hl [0, 1] rfl) (by decide) (by decide)
set_option maxHeartbeats 4000000 in
set_option maxRecDepth 100000 in
theorem kX10_exposure_15 {b : Nat} (hX : jX2 D z A p l s m args meth c yX10_exposure cX10_exposure 2 wsX10_exposure (some .long)) {Q : Int64 → jM → Prop}  {x1 : Int32} {t0 : Option Nat} {t1 : Int32} {μ : jM} {H : Heap} {locs : List Loc} {ls : Array Slot} {cells slots : Nat} (hw : wX10_exposure_15 z b Q x1 t0 t1 μ) (hI : jIz D z A s.heap μ H locs) (hl : lv_has ls 2 [(0, va_rf (some b)), (1, .int x1)]) (hcn : cells + 0 ≤ 0) (hsn : slots + 0 ≤ 0) : W p l e rmX10_exposure s m args below meth c H locs cells slots (MQ below (jRz jfJ Q D z A) args s 0 0 A) (F0 m 15 ls [.int t1, va_rf t0]) := by
  unfold wX10_exposure_15 at hw
  obtain ⟨hx, hb, hml, hown, hts, hr, hlocks, hnm, hK, hG, hfl⟩ := id hX
  have hown : s.vm.findClass RX10 = some m.cls := hown
  obtain ⟨b3, ⟨hrb3, hfs⟩, hw⟩ := hw
  refine j_goz hI (va_runV (As := [.int t1]) (rest := []) ⟨hx, hb, hml, hown, hts⟩ (kX10_can l hfl D z b3 t1 μ H.size _) (cwV 1 hts gX10_exposure_X10_can rfl rfl rfl (by decide +kernel) ⟨Nat.le_of_ble_eq_true rfl, Nat.le_of_ble_eq_true rfl⟩) (j_prV2z hK hG hI hw (ci := 12) rfl hfs) rfl rfl hl.1 (by rw [hrb3]; rfl) (lv_room (Nat.le_of_ble_eq_true rfl)) dX10_exposure_15 ⟨by show _ ≤ 0; omega, by show _ ≤ 0; omega⟩) (fun v1 μ2 H locs hw hI => ?_)
  refine W.eq (g2 := F0 m 18 ls [.int v1]) rfl ?_
  refine lv_if_eq (tgt := 29) hx hb dX10_exposure_18 (by decide) (fun hc => ?_) (fun hc => ?_)
  · have hw := hw.1 hc
    refine lv_lconst (v := (0)) hx hb dX10_exposure_29 (by decide) ?_
    exact j_lretz hx hb hr hlocks hI hw (by omega) (by omega) dX10_exposure_30
  · have hw := hw.2 hc
    refine j_aload_n (r := (some b)) hx hb dX10_exposure_21 rfl (lv_at hl 0 rfl) ?_
    refine lv_iload_n hx hb dX10_exposure_22 rfl (lv_at hl 1 rfl) ?_
    obtain ⟨hfs, hw⟩ := hw
    refine j_goz hI (va_runV (As := [.int x1]) (rest := []) ⟨hx, hb, hml, hown, hts⟩ (kX10_exposed l hfl D z b x1 μ2 H.size _) (cwV 1 hts gX10_exposure_X10_exposed rfl rfl rfl (by decide +kernel) ⟨Nat.le_of_ble_eq_true rfl, Nat.le_of_ble_eq_true rfl⟩) (j_prV2z hK hG hI hw (ci := 12) rfl hfs) rfl rfl hl.1 rfl (lv_room (Nat.le_of_ble_eq_true rfl)) dX10_exposure_23 ⟨by show _ ≤ 0; omega, by show _ ≤ 0; omega⟩) (fun v4 μ5 H locs hw hI => ?_)
    refine W.eq (g2 := F0 m 26 ls [.long v4]) rfl ?_
    refine lv_goto (tgt := 30) hx hb dX10_exposure_26 (by decide) ?_
    exact j_lretz hx hb hr hlocks hI hw (by omega) (by omega) dX10_exposure_30
set_option maxHeartbeats 4000000 in
set_option maxRecDepth 100000 in
theorem kX10_exposure_0 {b : Nat} (hX : jX2 D z A p l s m args meth c yX10_exposure cX10_exposure 2 wsX10_exposure (some .long)) {Q : Int64 → jM → Prop}  {x1 : Int32} {μ : jM} {H : Heap} {locs : List Loc} {ls : Array Slot} {cells slots : Nat} (hw : wX10_exposure_0 z b Q x1 μ) (hI : jIz D z A s.heap μ H locs) (hl : lv_has ls 2 [(0, va_rf (some b)), (1, .int x1)]) (hcn : cells + 0 ≤ 0) (hsn : slots + 0 ≤ 0) : W p l e rmX10_exposure s m args below meth c H locs cells slots (MQ below (jRz jfJ Q D z A) args s 0 0 A) (F0 m 0 ls []) := by
  unfold wX10_exposure_0 at hw
  obtain ⟨hx, hb, hml, hown, hts, hr, hlocks, hnm, hK, hG, hfl⟩ := id hX
  have hown : s.vm.findClass RX10 = some m.cls := hown
  refine j_aload_n (r := (some b)) hx hb dX10_exposure_0 rfl (lv_at hl 0 rfl) ?_
  refine lv_iload_n hx hb dX10_exposure_1 rfl (lv_at hl 1 rfl) ?_
  refine lv_iconst (v := (0)) hx hb dX10_exposure_2 (by decide) ?_
  refine lv_iconst (v := (3)) hx hb dX10_exposure_3 (by decide) ?_
  refine j_goz hI (va_runS (As := [.int x1, .int (0 : Int32), .int (3 : Int32)]) (rest := [va_rf (some b)]) ⟨hx, hb, hml, hown, hts⟩ (kX10_isIn l hfl D z x1 (0 : Int32) (3 : Int32) μ H.size _) (va_cwS 3 hts gX10_exposure_X10_isIn rfl rfl rfl (by decide +kernel) ⟨Nat.le_of_ble_eq_true rfl, Nat.le_of_ble_eq_true rfl⟩) (j_prS2z hK hG hI hw) rfl rfl hl.1 rfl (lv_room (Nat.le_of_ble_eq_true rfl)) dX10_exposure_4 ⟨by show _ ≤ 0; omega, by show _ ≤ 0; omega⟩) (fun v1 μ2 H locs hw hI => ?_)
  refine W.eq (g2 := F0 m 7 ls [.int v1, va_rf (some b)]) rfl ?_
  refine lv_if_eq (tgt := 14) hx hb dX10_exposure_7 (by decide) (fun hc => ?_) (fun hc => ?_)
  · have hw := hw.1 hc
    refine lv_iconst (v := (1)) hx hb dX10_exposure_14 (by decide) ?_
    exact kX10_exposure_15 hX  hw hI (lv_sub hl [0, 1] rfl) (by omega) (by omega)
  · have hw := hw.2 hc
    refine lv_iconst (v := (0)) hx hb dX10_exposure_10 (by decide) ?_
    refine lv_goto (tgt := 15) hx hb dX10_exposure_11 (by decide) ?_
    exact kX10_exposure_15 hX  hw hI (lv_sub hl [0, 1] rfl) (by omega) (by omega)
set_option maxHeartbeats 4000000 in
set_option maxRecDepth 100000 in
theorem kX10_exposure (l : Launch) (hfl : l.stackTraces = false) (D : jD) (z : Nat × Nat) (b : Nat) (x1 : Int32) (μ : jM) (sz : Nat) (Q : Int64 → jM → Prop) : Met l yX10_exposure wsX10_exposure rmX10_exposure (jPre2z D z μ sz [.ref b, .int x1] (wX10_exposure z b x1 μ Q)) (jRz jfJ Q D z (jA z μ sz)) 0 0 (jA z μ sz) := by
  refine Met.ofW (cc := cX10_exposure) (maxL := 2) (ret := (some .long)) (by decide) rfl ?_
  intro p e s m args below meth c s₁ B hml hv
  obtain ⟨rfl, hsz, hH, hz0, hK, hG, hw⟩ := hv
  subst hsz
  have hX : jX2 D z (jA z μ s.heap.size) p l s m _ meth c yX10_exposure cX10_exposure 2 wsX10_exposure (some .long) := ⟨B.exec, B.bytes, hml, findClass_of_methodNamed B.named, atoms_spec (ws := wsX10_exposure) B.pre, B.returns, B.notSynchronized, (name_of_methodNamed B.named B.method).1, hK, hG, hfl⟩
  obtain ⟨ls, hg, hl⟩ : ∃ ls : Array Slot, entryFrame m ([.ref b, .int x1] : List Value).toArray 2 = F0 m 0 ls [] ∧ lv_has ls 2 [(0, va_rf (some b)), (1, .int x1)] := by
    exact ⟨_, lg_entry_eq .., lv_entry _ (n := 2) (Nat.le_of_ble_eq_true rfl)⟩
  rw [hg]
  exact kX10_exposure_0 hX hw (jIz.start hH hz0) (lv_sub hl [0, 1] rfl) (by decide) (by decide)
end
