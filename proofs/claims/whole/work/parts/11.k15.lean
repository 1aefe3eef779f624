section
variable {p : Program} {l : Launch} {e : Env} {s : State} {m : MethodId} {args : Array Value} {below : List Frame} {meth : Method} {c : Code} {D : jD} {z : Nat × Nat} {A : Nat → Prop}
set_option maxHeartbeats 4000000 in
set_option maxRecDepth 100000 in
theorem kX10_passDay_27 {b : Nat} (hX : jX2 D z A p l s m args meth c yX10_passDay cX10_passDay 3 wsX10_passDay none) {Q : Unit → jM → Prop} {K19 : Int32 → Int32 → jM → Prop} (hK19 : ∀ {x1 : Int32} {x2 : Int32} {μ : jM} {H : Heap} {locs : List Loc} {ls : Array Slot} {cells slots : Nat}, K19 x1 x2 μ → jIz D z A s.heap μ H locs → lv_has ls 3 [(0, va_rf (some b)), (1, .int x1), (2, .int x2)] → cells + 0 ≤ 0 → slots + 0 ≤ 0 → W p l e rmX10_passDay s m args below meth c H locs cells slots (MQ below (jRz jfV Q D z A) args s 0 0 A) (F0 m 19 ls [])) (n : Nat) : ∀ {x1 : Int32} {x2 : Int32} {μ : jM} {H : Heap} {locs : List Loc} {ls : Array Slot} {cells slots : Nat}, wX10_passDay_27 z b K19 Q n x1 x2 μ → jIz D z A s.heap μ H locs → lv_has ls 3 [(0, va_rf (some b)), (1, .int x1), (2, .int x2)] → cells + 0 ≤ 0 → slots + 0 ≤ 0 → W p l e rmX10_passDay s m args below meth c H locs cells slots (MQ below (jRz jfV Q D z A) args s 0 0 A) (F0 m 27 ls []) := by
  induction n with
  | zero =>
    intros
    rename_i hw _ _ _ _
    exact (show False from hw).elim
  | succ n ih =>
    intro x1 x2 μ H locs ls cells slots hw hI hl hcn hsn
    have hw : wX10_passDay_27_b z b K19 Q (wX10_passDay_27 z b K19 Q n) x1 x2 μ := hw
    unfold wX10_passDay_27_b at hw
    obtain ⟨hx, hb, hml, hown, hts, hr, hlocks, hnm, hK, hG, hfl⟩ := id hX
    have hown : s.vm.findClass RX10 = some m.cls := hown
    have hfX10 : ∀ w ∈ wsX100, w.before args s = true := fun w h => hts w (List.mem_cons_of_mem _ (List.mem_append_right _ h))
    refine j_aload_n (r := (some b)) hx hb dX10_passDay_27 rfl (lv_at hl 0 rfl) ?_
    obtain ⟨v1, hv1, hw⟩ := hw
    refine j_getz (C := RX10) (T := TX10) (N := 25) (ci := 12) (r := (some b)) (v := va_rf v1) hx hb hfX10 hown hK hI rfl 3 (by decide) (hts (.fieldLink RX10 7 "CashPoolsModel" "z" "[J") (List.mem_of_getElem? (i := 1) (by decide +kernel))) (fun _ h => h) hv1 dX10_passDay_28 ?_
    refine lv_bipush (v := (88)) hx hb dX10_passDay_31 (by decide) ?_
    refine lv_iload_n hx hb dX10_passDay_33 rfl (lv_at hl 2 rfl) ?_
    refine lv_iadd hx hb dX10_passDay_34 ?_
    obtain ⟨v2, hv2, hw⟩ := hw
    refine j_laldz (r := v1) hx hb hK hI hv2 dX10_passDay_35 ?_
    refine j_aload_n (r := (some b)) hx hb dX10_passDay_36 rfl (lv_at hl 0 rfl) ?_
    obtain ⟨v3, hv3, hw⟩ := hw
    refine j_getz (C := RX10) (T := TX10) (N := 25) (ci := 12) (r := (some b)) (v := va_rf v3) hx hb hfX10 hown hK hI rfl 21 (by decide) (hts (.fieldLink RX10 65 "CashPoolsModel" "flowTimes" "[I") (List.mem_of_getElem? (i := 3) (by decide +kernel))) (fun _ h => h) hv3 dX10_passDay_37 ?_
    refine lv_iload_n hx hb dX10_passDay_40 rfl (lv_at hl 2 rfl) ?_
    obtain ⟨v4, hv4, hw⟩ := hw
    refine j_ialdz (r := v3) hx hb hK hI hv4 dX10_passDay_41 ?_
    refine lv_i2l hx hb dX10_passDay_42 rfl ?_
    refine j_lcmp_ge (tgt := 105) hx hb dX10_passDay_43 dX10_passDay_44 (by decide) (fun hc => ?_) (fun hc => ?_)
    · have hw := hw.1 hc
      obtain ⟨v5, ev5⟩ : ∃ y : Int32, y = x2 + (1 : Int32) := ⟨_, rfl⟩
      have hw := hw v5 ev5
      refine lv_iinc (v := v5) (lv' := [(2, .int v5), (0, va_rf (some b)), (1, .int x1)]) hx hb dX10_passDay_105 hl (k := 2) rfl (by rw [ev5]; rfl) (by decide) rfl (fun ls hl => ?_)
      refine lv_goto (tgt := 19) hx hb dX10_passDay_108 (by decide) ?_
      exact hK19 hw hI (lv_sub hl [1, 2, 0] rfl) (by omega) (by omega)
    · have hw := hw.2 hc
      refine j_aload_n (r := (some b)) hx hb dX10_passDay_47 rfl (lv_at hl 0 rfl) ?_
      refine lv_iload_n hx hb dX10_passDay_48 rfl (lv_at hl 2 rfl) ?_
      refine j_aload_n (r := (some b)) hx hb dX10_passDay_49 rfl (lv_at hl 0 rfl) ?_
      obtain ⟨v6, hv6, hw⟩ := hw
      refine j_getz (C := RX10) (T := TX10) (N := 25) (ci := 12) (r := (some b)) (v := va_rf v6) hx hb hfX10 hown hK hI rfl 3 (by decide) (hts (.fieldLink RX10 7 "CashPoolsModel" "z" "[J") (List.mem_of_getElem? (i := 1) (by decide +kernel))) (fun _ h => h) hv6 dX10_passDay_50 ?_
      refine lv_bipush (v := (88)) hx hb dX10_passDay_53 (by decide) ?_
      refine lv_iload_n hx hb dX10_passDay_55 rfl (lv_at hl 2 rfl) ?_
      refine lv_iadd hx hb dX10_passDay_56 ?_
      obtain ⟨v7, hv7, hw⟩ := hw
      refine j_laldz (r := v6) hx hb hK hI hv7 dX10_passDay_57 ?_
      refine lv_l2i hx hb dX10_passDay_58 rfl ?_
      obtain ⟨hfs, hw⟩ := hw
      refine j_goz hI (va_runV (As := [.int x2, .int (Int64.toInt32 v7)]) (rest := []) ⟨hx, hb, hml, hown, hts⟩ (kX10_due l hfl D z b x2 (Int64.toInt32 v7) μ H.size _) (cwV 2 hts gX10_passDay_X10_due rfl rfl rfl (by decide +kernel) ⟨Nat.le_of_ble_eq_true rfl, Nat.le_of_ble_eq_true rfl⟩) (j_prV2z hK hG hI hw (ci := 12) rfl hfs) rfl rfl hl.1 rfl (lv_room (Nat.le_of_ble_eq_true rfl)) dX10_passDay_59 ⟨by show _ ≤ 0; omega, by show _ ≤ 0; omega⟩) (fun v8 μ9 H locs hw hI => ?_)
      refine W.eq (g2 := F0 m 62 ls [.int v8]) rfl ?_
      refine lv_iload_n hx hb dX10_passDay_62 rfl (lv_at hl 1 rfl) ?_
      refine lv_icmp_gt (tgt := 105) hx hb dX10_passDay_63 (by decide) (fun hc => ?_) (fun hc => ?_)
      · have hw := hw.1 hc
        obtain ⟨v10, ev10⟩ : ∃ y : Int32, y = x2 + (1 : Int32) := ⟨_, rfl⟩
        have hw := hw v10 ev10
        refine lv_iinc (v := v10) (lv' := [(2, .int v10), (0, va_rf (some b)), (1, .int x1)]) hx hb dX10_passDay_105 hl (k := 2) rfl (by rw [ev10]; rfl) (by decide) rfl (fun ls hl => ?_)
        refine lv_goto (tgt := 19) hx hb dX10_passDay_108 (by decide) ?_
        exact hK19 hw hI (lv_sub hl [1, 2, 0] rfl) (by omega) (by omega)
      · have hw := hw.2 hc
        refine j_aload_n (r := (some b)) hx hb dX10_passDay_66 rfl (lv_at hl 0 rfl) ?_
        obtain ⟨v11, hv11, hw⟩ := hw
        refine j_getz (C := RX10) (T := TX10) (N := 25) (ci := 12) (r := (some b)) (v := va_rf v11) hx hb hfX10 hown hK hI rfl 3 (by decide) (hts (.fieldLink RX10 7 "CashPoolsModel" "z" "[J") (List.mem_of_getElem? (i := 1) (by decide +kernel))) (fun _ h => h) hv11 dX10_passDay_67 ?_
        refine lv_iconst (v := (0)) hx hb dX10_passDay_70 (by decide) ?_
        refine j_aload_n (r := (some b)) hx hb dX10_passDay_71 rfl (lv_at hl 0 rfl) ?_
        obtain ⟨v12, hv12, hw⟩ := hw
        refine j_getz (C := RX10) (T := TX10) (N := 25) (ci := 12) (r := (some b)) (v := va_rf v12) hx hb hfX10 hown hK hI rfl 17 (by decide) (hts (.fieldLink RX10 53 "CashPoolsModel" "flowAccount" "[I") (List.mem_of_getElem? (i := 4) (by decide +kernel))) (fun _ h => h) hv12 dX10_passDay_72 ?_
        refine lv_iload_n hx hb dX10_passDay_75 rfl (lv_at hl 2 rfl) ?_
        obtain ⟨v13, hv13, hw⟩ := hw
        refine j_ialdz (r := v12) hx hb hK hI hv13 dX10_passDay_76 ?_
        refine lv_iadd hx hb dX10_passDay_77 ?_
        refine lv_dup2_11 hx hb dX10_passDay_78 rfl (jrc v11) ?_
        obtain ⟨v14, hv14, hw⟩ := hw
        refine j_laldz (r := v11) hx hb hK hI hv14 dX10_passDay_79 ?_
        refine j_aload_n (r := (some b)) hx hb dX10_passDay_80 rfl (lv_at hl 0 rfl) ?_
        obtain ⟨v15, hv15, hw⟩ := hw
        refine j_getz (C := RX10) (T := TX10) (N := 25) (ci := 12) (r := (some b)) (v := va_rf v15) hx hb hfX10 hown hK hI rfl 18 (by decide) (hts (.fieldLink RX10 56 "CashPoolsModel" "flowAmount" "[I") (List.mem_of_getElem? (i := 5) (by decide +kernel))) (fun _ h => h) hv15 dX10_passDay_81 ?_
        refine lv_iload_n hx hb dX10_passDay_84 rfl (lv_at hl 2 rfl) ?_
        obtain ⟨v16, hv16, hw⟩ := hw
        refine j_ialdz (r := v15) hx hb hK hI hv16 dX10_passDay_85 ?_
        refine lv_i2l hx hb dX10_passDay_86 rfl ?_
        refine lv_ladd hx hb dX10_passDay_87 ?_
        obtain ⟨μ17, hμ17, hw⟩ := hw
        refine j_lastz (r := v11) hx hb hK hI hμ17 dX10_passDay_88 (fun H locs hI => ?_)
        refine j_aload_n (r := (some b)) hx hb dX10_passDay_89 rfl (lv_at hl 0 rfl) ?_
        obtain ⟨v18, hv18, hw⟩ := hw
        refine j_getz (C := RX10) (T := TX10) (N := 25) (ci := 12) (r := (some b)) (v := va_rf v18) hx hb hfX10 hown hK hI rfl 3 (by decide) (hts (.fieldLink RX10 7 "CashPoolsModel" "z" "[J") (List.mem_of_getElem? (i := 1) (by decide +kernel))) (fun _ h => h) hv18 dX10_passDay_90 ?_
        refine lv_bipush (v := (88)) hx hb dX10_passDay_93 (by decide) ?_
        refine lv_iload_n hx hb dX10_passDay_95 rfl (lv_at hl 2 rfl) ?_
        refine lv_iadd hx hb dX10_passDay_96 ?_
        refine lv_dup2_11 hx hb dX10_passDay_97 rfl (jrc v18) ?_
        obtain ⟨v19, hv19, hw⟩ := hw
        refine j_laldz (r := v18) hx hb hK hI hv19 dX10_passDay_98 ?_
        refine lv_lconst (v := (1)) hx hb dX10_passDay_99 (by decide) ?_
        refine lv_ladd hx hb dX10_passDay_100 ?_
        obtain ⟨μ20, hμ20, hw⟩ := hw
        refine j_lastz (r := v18) hx hb hK hI hμ20 dX10_passDay_101 (fun H locs hI => ?_)
        refine lv_goto (tgt := 27) hx hb dX10_passDay_102 (by decide) ?_
        exact ih hw hI (lv_sub hl [0, 1, 2] rfl) (by omega) (by omega)
set_option maxHeartbeats 4000000 in
set_option maxRecDepth 100000 in
theorem kX10_passDay_148 {b : Nat} (hX : jX2 D z A p l s m args meth c yX10_passDay cX10_passDay 3 wsX10_passDay none) {Q : Unit → jM → Prop}  {x1 : Int32} {μ : jM} {H : Heap} {locs : List Loc} {ls : Array Slot} {cells slots : Nat} (hw : wX10_passDay_148 z b Q x1 μ) (hI : jIz D z A s.heap μ H locs) (hl : lv_has ls 3 [(0, va_rf (some b)), (1, .int x1)]) (hcn : cells + 0 ≤ 0) (hsn : slots + 0 ≤ 0) : W p l e rmX10_passDay s m args below meth c H locs cells slots (MQ below (jRz jfV Q D z A) args s 0 0 A) (F0 m 148 ls []) := by
  unfold wX10_passDay_148 at hw
  obtain ⟨hx, hb, hml, hown, hts, hr, hlocks, hnm, hK, hG, hfl⟩ := id hX
  have hown : s.vm.findClass RX10 = some m.cls := hown
  have hfX10 : ∀ w ∈ wsX100, w.before args s = true := fun w h => hts w (List.mem_cons_of_mem _ (List.mem_append_right _ h))
  refine j_aload_n (r := (some b)) hx hb dX10_passDay_148 rfl (lv_at hl 0 rfl) ?_
  obtain ⟨hfs, hw⟩ := hw
  refine j_goz hI (va_runV (As := []) (rest := []) ⟨hx, hb, hml, hown, hts⟩ (kX10_accrue l hfl D z b  μ H.size _) (cwV 0 hts gX10_passDay_X10_accrue rfl rfl rfl (by decide +kernel) ⟨Nat.le_of_ble_eq_true rfl, Nat.le_of_ble_eq_true rfl⟩) (j_prV2z hK hG hI hw (ci := 12) rfl hfs) rfl rfl hl.1 rfl (lv_room (Nat.le_of_ble_eq_true rfl)) dX10_passDay_149 ⟨by show _ ≤ 0; omega, by show _ ≤ 0; omega⟩) (fun u1 μ2 H locs hw hI => ?_)
  refine W.eq (g2 := F0 m 152 ls []) rfl ?_
  refine lv_iload_n hx hb dX10_passDay_152 rfl (lv_at hl 1 rfl) ?_
  refine lv_iconst (v := (1)) hx hb dX10_passDay_153 (by decide) ?_
  refine lv_iadd hx hb dX10_passDay_154 ?_
  refine lv_bipush (v := (20)) hx hb dX10_passDay_155 (by decide) ?_
  refine lv_irem hx hb dX10_passDay_157 (by decide) ?_
  refine lv_if_ne (tgt := 165) hx hb dX10_passDay_158 (by decide) (fun hc => ?_) (fun hc => ?_)
  · have hw := hw.1 hc
    refine j_aload_n (r := (some b)) hx hb dX10_passDay_165 rfl (lv_at hl 0 rfl) ?_
    obtain ⟨v3, hv3, hw⟩ := hw
    refine j_getz (C := RX10) (T := TX10) (N := 25) (ci := 12) (r := (some b)) (v := va_rf v3) hx hb hfX10 hown hK hI rfl 3 (by decide) (hts (.fieldLink RX10 7 "CashPoolsModel" "z" "[J") (List.mem_of_getElem? (i := 1) (by decide +kernel))) (fun _ h => h) hv3 dX10_passDay_166 ?_
    refine lv_bipush (v := (108)) hx hb dX10_passDay_169 (by decide) ?_
    refine lv_iload_n hx hb dX10_passDay_171 rfl (lv_at hl 1 rfl) ?_
    refine lv_iconst (v := (1)) hx hb dX10_passDay_172 (by decide) ?_
    refine lv_iadd hx hb dX10_passDay_173 ?_
    refine lv_i2l hx hb dX10_passDay_174 rfl ?_
    obtain ⟨μ4, hμ4, hw⟩ := hw
    refine j_lastz (r := v3) hx hb hK hI hμ4 dX10_passDay_175 (fun H locs hI => ?_)
    exact j_vretz hx hb hr hlocks hI hw (by omega) (by omega) dX10_passDay_176
  · have hw := hw.2 hc
    refine j_aload_n (r := (some b)) hx hb dX10_passDay_161 rfl (lv_at hl 0 rfl) ?_
    obtain ⟨hfs, hw⟩ := hw
    refine j_goz hI (va_runV (As := []) (rest := []) ⟨hx, hb, hml, hown, hts⟩ (kX10_bookInterest l hfl D z b  μ2 H.size _) (cwV 0 hts gX10_passDay_X10_bookInterest rfl rfl rfl (by decide +kernel) ⟨Nat.le_of_ble_eq_true rfl, Nat.le_of_ble_eq_true rfl⟩) (j_prV2z hK hG hI hw (ci := 12) rfl hfs) rfl rfl hl.1 rfl (lv_room (Nat.le_of_ble_eq_true rfl)) dX10_passDay_162 ⟨by show _ ≤ 0; omega, by show _ ≤ 0; omega⟩) (fun u5 μ6 H locs hw hI => ?_)
    refine W.eq (g2 := F0 m 165 ls []) rfl ?_
    refine j_aload_n (r := (some b)) hx hb dX10_passDay_165 rfl (lv_at hl 0 rfl) ?_
    obtain ⟨v7, hv7, hw⟩ := hw
    refine j_getz (C := RX10) (T := TX10) (N := 25) (ci := 12) (r := (some b)) (v := va_rf v7) hx hb hfX10 hown hK hI rfl 3 (by decide) (hts (.fieldLink RX10 7 "CashPoolsModel" "z" "[J") (List.mem_of_getElem? (i := 1) (by decide +kernel))) (fun _ h => h) hv7 dX10_passDay_166 ?_
    refine lv_bipush (v := (108)) hx hb dX10_passDay_169 (by decide) ?_
    refine lv_iload_n hx hb dX10_passDay_171 rfl (lv_at hl 1 rfl) ?_
    refine lv_iconst (v := (1)) hx hb dX10_passDay_172 (by decide) ?_
    refine lv_iadd hx hb dX10_passDay_173 ?_
    refine lv_i2l hx hb dX10_passDay_174 rfl ?_
    obtain ⟨μ8, hμ8, hw⟩ := hw
    refine j_lastz (r := v7) hx hb hK hI hμ8 dX10_passDay_175 (fun H locs hI => ?_)
    exact j_vretz hx hb hr hlocks hI hw (by omega) (by omega) dX10_passDay_176
set_option maxHeartbeats 4000000 in
set_option maxRecDepth 100000 in
theorem kX10_passDay_117 {b : Nat} (hX : jX2 D z A p l s m args meth c yX10_passDay cX10_passDay 3 wsX10_passDay none) {Q : Unit → jM → Prop}  (n : Nat) : ∀ {x1 : Int32} {x2 : Int32} {μ : jM} {H : Heap} {locs : List Loc} {ls : Array Slot} {cells slots : Nat}, wX10_passDay_117 z b Q n x1 x2 μ → jIz D z A s.heap μ H locs → lv_has ls 3 [(0, va_rf (some b)), (1, .int x1), (2, .int x2)] → cells + 0 ≤ 0 → slots + 0 ≤ 0 → W p l e rmX10_passDay s m args below meth c H locs cells slots (MQ below (jRz jfV Q D z A) args s 0 0 A) (F0 m 117 ls []) := by
  induction n with
  | zero =>
    intros
    rename_i hw _ _ _ _
    exact (show False from hw).elim
  | succ n ih =>
    intro x1 x2 μ H locs ls cells slots hw hI hl hcn hsn
    have hw : wX10_passDay_117_b z b Q (wX10_passDay_117 z b Q n) x1 x2 μ := hw
    unfold wX10_passDay_117_b at hw
    obtain ⟨hx, hb, hml, hown, hts, hr, hlocks, hnm, hK, hG, hfl⟩ := id hX
    have hown : s.vm.findClass RX10 = some m.cls := hown
    have hfX10 : ∀ w ∈ wsX100, w.before args s = true := fun w h => hts w (List.mem_cons_of_mem _ (List.mem_append_right _ h))
    refine lv_iload_n hx hb dX10_passDay_117 rfl (lv_at hl 2 rfl) ?_
    refine j_aload_n (r := (some b)) hx hb dX10_passDay_118 rfl (lv_at hl 0 rfl) ?_
    obtain ⟨v1, hv1, hw⟩ := hw
    refine j_getz (C := RX10) (T := TX10) (N := 25) (ci := 12) (r := (some b)) (v := .int v1) hx hb hfX10 hown hK hI rfl 0 (by decide) (hts (.fieldLink RX10 79 "CashPoolsModel" "accounts" "I") (List.mem_of_getElem? (i := 6) (by decide +kernel))) (fun _ h => h) hv1 dX10_passDay_119 ?_
    refine lv_icmp_ge (tgt := 144) hx hb dX10_passDay_122 (by decide) (fun hc => ?_) (fun hc => ?_)
    · have hw := hw.1 hc
      refine j_aload_n (r := (some b)) hx hb dX10_passDay_144 rfl (lv_at hl 0 rfl) ?_
      obtain ⟨hfs, hw⟩ := hw
      refine j_goz hI (va_runV (As := []) (rest := []) ⟨hx, hb, hml, hown, hts⟩ (kX10_ease l hfl D z b  μ H.size _) (cwV 0 hts gX10_passDay_X10_ease rfl rfl rfl (by decide +kernel) ⟨Nat.le_of_ble_eq_true rfl, Nat.le_of_ble_eq_true rfl⟩) (j_prV2z hK hG hI hw (ci := 12) rfl hfs) rfl rfl hl.1 rfl (lv_room (Nat.le_of_ble_eq_true rfl)) dX10_passDay_145 ⟨by show _ ≤ 0; omega, by show _ ≤ 0; omega⟩) (fun u2 μ3 H locs hw hI => ?_)
      refine W.eq (g2 := F0 m 148 ls []) rfl ?_
      exact kX10_passDay_148 hX  hw hI (lv_sub hl [0, 1] rfl) (by omega) (by omega)
    · have hw := hw.2 hc
      refine j_aload_n (r := (some b)) hx hb dX10_passDay_125 rfl (lv_at hl 0 rfl) ?_
      refine lv_iload_n hx hb dX10_passDay_126 rfl (lv_at hl 2 rfl) ?_
      obtain ⟨hfs, hw⟩ := hw
      refine j_goz hI (va_runV (As := [.int x2]) (rest := []) ⟨hx, hb, hml, hown, hts⟩ (kX10_isTop l hfl D z b x2 μ H.size _) (cwV 1 hts gX10_passDay_X10_isTop rfl rfl rfl (by decide +kernel) ⟨Nat.le_of_ble_eq_true rfl, Nat.le_of_ble_eq_true rfl⟩) (j_prV2z hK hG hI hw (ci := 12) rfl hfs) rfl rfl hl.1 rfl (lv_room (Nat.le_of_ble_eq_true rfl)) dX10_passDay_127 ⟨by show _ ≤ 0; omega, by show _ ≤ 0; omega⟩) (fun v4 μ5 H locs hw hI => ?_)
      refine W.eq (g2 := F0 m 130 ls [.int v4]) rfl ?_
      refine lv_if_eq (tgt := 138) hx hb dX10_passDay_130 (by decide) (fun hc => ?_) (fun hc => ?_)
      · have hw := hw.1 hc
        obtain ⟨v6, ev6⟩ : ∃ y : Int32, y = x2 + (1 : Int32) := ⟨_, rfl⟩
        have hw := hw v6 ev6
        refine lv_iinc (v := v6) (lv' := [(2, .int v6), (0, va_rf (some b)), (1, .int x1)]) hx hb dX10_passDay_138 hl (k := 2) rfl (by rw [ev6]; rfl) (by decide) rfl (fun ls hl => ?_)
        refine lv_goto (tgt := 117) hx hb dX10_passDay_141 (by decide) ?_
        exact ih hw hI (lv_sub hl [1, 2, 0] rfl) (by omega) (by omega)
      · have hw := hw.2 hc
        refine j_aload_n (r := (some b)) hx hb dX10_passDay_133 rfl (lv_at hl 0 rfl) ?_
        refine lv_iload_n hx hb dX10_passDay_134 rfl (lv_at hl 2 rfl) ?_
        obtain ⟨hfs, hw⟩ := hw
        refine j_goz hI (va_runV (As := [.int x2]) (rest := []) ⟨hx, hb, hml, hown, hts⟩ (kX10_cover l hfl D z b x2 μ5 H.size _) (cwV 1 hts gX10_passDay_X10_cover rfl rfl rfl (by decide +kernel) ⟨Nat.le_of_ble_eq_true rfl, Nat.le_of_ble_eq_true rfl⟩) (j_prV2z hK hG hI hw (ci := 12) rfl hfs) rfl rfl hl.1 rfl (lv_room (Nat.le_of_ble_eq_true rfl)) dX10_passDay_135 ⟨by show _ ≤ 0; omega, by show _ ≤ 0; omega⟩) (fun u7 μ8 H locs hw hI => ?_)
        refine W.eq (g2 := F0 m 138 ls []) rfl ?_
        obtain ⟨v9, ev9⟩ : ∃ y : Int32, y = x2 + (1 : Int32) := ⟨_, rfl⟩
        have hw := hw v9 ev9
        refine lv_iinc (v := v9) (lv' := [(2, .int v9), (0, va_rf (some b)), (1, .int x1)]) hx hb dX10_passDay_138 hl (k := 2) rfl (by rw [ev9]; rfl) (by decide) rfl (fun ls hl => ?_)
        refine lv_goto (tgt := 117) hx hb dX10_passDay_141 (by decide) ?_
        exact ih hw hI (lv_sub hl [1, 2, 0] rfl) (by omega) (by omega)
set_option maxHeartbeats 4000000 in
set_option maxRecDepth 100000 in
theorem kX10_passDay_19 {b : Nat} (hX : jX2 D z A p l s m args meth c yX10_passDay cX10_passDay 3 wsX10_passDay none) {Q : Unit → jM → Prop}  (n : Nat) : ∀ {x1 : Int32} {x2 : Int32} {μ : jM} {H : Heap} {locs : List Loc} {ls : Array Slot} {cells slots : Nat}, wX10_passDay_19 z b Q n x1 x2 μ → jIz D z A s.heap μ H locs → lv_has ls 3 [(0, va_rf (some b)), (1, .int x1), (2, .int x2)] → cells + 0 ≤ 0 → slots + 0 ≤ 0 → W p l e rmX10_passDay s m args below meth c H locs cells slots (MQ below (jRz jfV Q D z A) args s 0 0 A) (F0 m 19 ls []) := by
  induction n with
  | zero =>
    intros
    rename_i hw _ _ _ _
    exact (show False from hw).elim
  | succ n ih =>
    intro x1 x2 μ H locs ls cells slots hw hI hl hcn hsn
    have hw : wX10_passDay_19_b z b Q (wX10_passDay_19 z b Q n) x1 x2 μ := hw
    unfold wX10_passDay_19_b at hw
    obtain ⟨hx, hb, hml, hown, hts, hr, hlocks, hnm, hK, hG, hfl⟩ := id hX
    have hown : s.vm.findClass RX10 = some m.cls := hown
    have hfX10 : ∀ w ∈ wsX100, w.before args s = true := fun w h => hts w (List.mem_cons_of_mem _ (List.mem_append_right _ h))
    refine lv_iload_n hx hb dX10_passDay_19 rfl (lv_at hl 2 rfl) ?_
    refine j_aload_n (r := (some b)) hx hb dX10_passDay_20 rfl (lv_at hl 0 rfl) ?_
    obtain ⟨v1, hv1, hw⟩ := hw
    refine j_getz (C := RX10) (T := TX10) (N := 25) (ci := 12) (r := (some b)) (v := .int v1) hx hb hfX10 hown hK hI rfl 2 (by decide) (hts (.fieldLink RX10 164 "CashPoolsModel" "flows" "I") (List.mem_of_getElem? (i := 2) (by decide +kernel))) (fun _ h => h) hv1 dX10_passDay_21 ?_
    refine lv_icmp_ge (tgt := 111) hx hb dX10_passDay_24 (by decide) (fun hc => ?_) (fun hc => ?_)
    · have hw := hw.1 hc
      refine j_aload_n (r := (some b)) hx hb dX10_passDay_111 rfl (lv_at hl 0 rfl) ?_
      obtain ⟨hfs, hw⟩ := hw
      refine j_goz hI (va_runV (As := []) (rest := []) ⟨hx, hb, hml, hown, hts⟩ (kX10_sweep l hfl D z b  μ H.size _) (cwV 0 hts gX10_passDay_X10_sweep rfl rfl rfl (by decide +kernel) ⟨Nat.le_of_ble_eq_true rfl, Nat.le_of_ble_eq_true rfl⟩) (j_prV2z hK hG hI hw (ci := 12) rfl hfs) rfl rfl hl.1 rfl (lv_room (Nat.le_of_ble_eq_true rfl)) dX10_passDay_112 ⟨by show _ ≤ 0; omega, by show _ ≤ 0; omega⟩) (fun u2 μ3 H locs hw hI => ?_)
      refine W.eq (g2 := F0 m 115 ls []) rfl ?_
      refine lv_iconst (v := (0)) hx hb dX10_passDay_115 (by decide) ?_
      refine lv_topi (fun v4 ev4 => ?_)
      have hw := hw v4 ev4
      refine lv_istore_n (lv' := [(2, .int v4), (0, va_rf (some b)), (1, .int x1)]) hx hb dX10_passDay_116 rfl hl (by decide) rfl (fun ls hl => ?_)
      obtain ⟨n5, hw⟩ := hw
      exact kX10_passDay_117 hX  n5 hw hI (lv_sub hl [1, 2, 0] rfl) (by omega) (by omega)
    · have hw := hw.2 hc
      obtain ⟨n6, hw⟩ := hw
      exact kX10_passDay_27 hX ih n6 hw hI (lv_sub hl [0, 1, 2] rfl) (by omega) (by omega)
set_option maxHeartbeats 4000000 in
set_option maxRecDepth 100000 in
theorem kX10_passDay_0 {b : Nat} (hX : jX2 D z A p l s m args meth c yX10_passDay cX10_passDay 3 wsX10_passDay none) {Q : Unit → jM → Prop}   {μ : jM} {H : Heap} {locs : List Loc} {ls : Array Slot} {cells slots : Nat} (hw : wX10_passDay_0 z b Q  μ) (hI : jIz D z A s.heap μ H locs) (hl : lv_has ls 3 [(0, va_rf (some b))]) (hcn : cells + 0 ≤ 0) (hsn : slots + 0 ≤ 0) : W p l e rmX10_passDay s m args below meth c H locs cells slots (MQ below (jRz jfV Q D z A) args s 0 0 A) (F0 m 0 ls []) := by
  unfold wX10_passDay_0 at hw
  obtain ⟨hx, hb, hml, hown, hts, hr, hlocks, hnm, hK, hG, hfl⟩ := id hX
  have hown : s.vm.findClass RX10 = some m.cls := hown
  have hfX10 : ∀ w ∈ wsX100, w.before args s = true := fun w h => hts w (List.mem_cons_of_mem _ (List.mem_append_right _ h))
  refine j_aload_n (r := (some b)) hx hb dX10_passDay_0 rfl (lv_at hl 0 rfl) ?_
  obtain ⟨v1, hv1, hw⟩ := hw
  refine j_getz (C := RX10) (T := TX10) (N := 25) (ci := 12) (r := (some b)) (v := va_rf v1) hx hb hfX10 hown hK hI rfl 3 (by decide) (hts (.fieldLink RX10 7 "CashPoolsModel" "z" "[J") (List.mem_of_getElem? (i := 1) (by decide +kernel))) (fun _ h => h) hv1 dX10_passDay_1 ?_
  refine lv_bipush (v := (108)) hx hb dX10_passDay_4 (by decide) ?_
  obtain ⟨v2, hv2, hw⟩ := hw
  refine j_laldz (r := v1) hx hb hK hI hv2 dX10_passDay_6 ?_
  refine lv_l2i hx hb dX10_passDay_7 rfl ?_
  refine lv_topi (fun v3 ev3 => ?_)
  have hw := hw v3 ev3
  refine lv_istore_n (lv' := [(1, .int v3), (0, va_rf (some b))]) hx hb dX10_passDay_8 rfl hl (by decide) rfl (fun ls hl => ?_)
  refine j_aload_n (r := (some b)) hx hb dX10_passDay_9 rfl (lv_at hl 1 rfl) ?_
  refine lv_iload_n hx hb dX10_passDay_10 rfl (lv_at hl 0 rfl) ?_
  obtain ⟨hfs, hw⟩ := hw
  refine j_goz hI (va_runV (As := [.int v3]) (rest := []) ⟨hx, hb, hml, hown, hts⟩ (kX10_isSettlement l hfl D z b v3 μ H.size _) (cwV 1 hts gX10_passDay_X10_isSettlement rfl rfl rfl (by decide +kernel) ⟨Nat.le_of_ble_eq_true rfl, Nat.le_of_ble_eq_true rfl⟩) (j_prV2z hK hG hI hw (ci := 12) rfl hfs) rfl rfl hl.1 rfl (lv_room (Nat.le_of_ble_eq_true rfl)) dX10_passDay_11 ⟨by show _ ≤ 0; omega, by show _ ≤ 0; omega⟩) (fun v4 μ5 H locs hw hI => ?_)
  refine W.eq (g2 := F0 m 14 ls [.int v4]) rfl ?_
  refine lv_if_eq (tgt := 148) hx hb dX10_passDay_14 (by decide) (fun hc => ?_) (fun hc => ?_)
  · have hw := hw.1 hc
    exact kX10_passDay_148 hX  hw hI (lv_sub hl [1, 0] rfl) (by omega) (by omega)
  · have hw := hw.2 hc
    refine lv_iconst (v := (0)) hx hb dX10_passDay_17 (by decide) ?_
    refine lv_topi (fun v6 ev6 => ?_)
    have hw := hw v6 ev6
    refine lv_istore_n (lv' := [(2, .int v6), (1, .int v3), (0, va_rf (some b))]) hx hb dX10_passDay_18 rfl hl (by decide) rfl (fun ls hl => ?_)
    obtain ⟨n7, hw⟩ := hw
    exact kX10_passDay_19 hX  n7 hw hI (lv_sub hl [2, 1, 0] rfl) (by omega) (by omega)
set_option maxHeartbeats 4000000 in
set_option maxRecDepth 100000 in
theorem kX10_passDay (l : Launch) (hfl : l.stackTraces = false) (D : jD) (z : Nat × Nat) (b : Nat)  (μ : jM) (sz : Nat) (Q : Unit → jM → Prop) : Met l yX10_passDay wsX10_passDay rmX10_passDay (jPre2z D z μ sz [.ref b] (wX10_passDay z b  μ Q)) (jRz jfV Q D z (jA z μ sz)) 0 0 (jA z μ sz) := by
  refine Met.ofW (cc := cX10_passDay) (maxL := 3) (ret := none) (by decide) rfl ?_
  intro p e s m args below meth c s₁ B hml hv
  obtain ⟨rfl, hsz, hH, hz0, hK, hG, hw⟩ := hv
  subst hsz
  have hX : jX2 D z (jA z μ s.heap.size) p l s m _ meth c yX10_passDay cX10_passDay 3 wsX10_passDay none := ⟨B.exec, B.bytes, hml, findClass_of_methodNamed B.named, atoms_spec (ws := wsX10_passDay) B.pre, B.returns, B.notSynchronized, (name_of_methodNamed B.named B.method).1, hK, hG, hfl⟩
  obtain ⟨ls, hg, hl⟩ : ∃ ls : Array Slot, entryFrame m ([.ref b] : List Value).toArray 3 = F0 m 0 ls [] ∧ lv_has ls 3 [(0, va_rf (some b))] := by
    exact ⟨_, lg_entry_eq .., lv_entry _ (n := 3) (Nat.le_of_ble_eq_true rfl)⟩
  rw [hg]
  exact kX10_passDay_0 hX hw (jIz.start hH hz0) (lv_sub hl [0] rfl) (by decide) (by decide)
set_option maxHeartbeats 4000000 in
set_option maxRecDepth 100000 in
theorem kX10_keep_2 {b : Nat} (hX : jX2 D z A p l s m args meth c yX10_keep cX10_keep 2 wsX10_keep none) {Q : Unit → jM → Prop}  (n : Nat) : ∀ {x1 : Int32} {μ : jM} {H : Heap} {locs : List Loc} {ls : Array Slot} {cells slots : Nat}, wX10_keep_2 z b Q n x1 μ → jIz D z A s.heap μ H locs → lv_has ls 2 [(0, va_rf (some b)), (1, .int x1)] → cells + 0 ≤ 0 → slots + 0 ≤ 0 → W p l e rmX10_keep s m args below meth c H locs cells slots (MQ below (jRz jfV Q D z A) args s 0 0 A) (F0 m 2 ls []) := by
  induction n with
  | zero =>
    intros
    rename_i hw _ _ _ _
    exact (show False from hw).elim
  | succ n ih =>
    intro x1 μ H locs ls cells slots hw hI hl hcn hsn
    have hw : wX10_keep_2_b z b Q (wX10_keep_2 z b Q n) x1 μ := hw
    unfold wX10_keep_2_b at hw
    obtain ⟨hx, hb, hml, hown, hts, hr, hlocks, hnm, hK, hG, hfl⟩ := id hX
    have hown : s.vm.findClass RX10 = some m.cls := hown
    have hfX10 : ∀ w ∈ wsX100, w.before args s = true := fun w h => hts w (List.mem_cons_of_mem _ (List.mem_append_right _ h))
    refine lv_iload_n hx hb dX10_keep_2 rfl (lv_at hl 1 rfl) ?_
    refine lv_bipush (v := (109)) hx hb dX10_keep_3 (by decide) ?_
    refine lv_icmp_ge (tgt := 26) hx hb dX10_keep_5 (by decide) (fun hc => ?_) (fun hc => ?_)
    · have hw := hw.1 hc
      exact j_vretz hx hb hr hlocks hI hw (by omega) (by omega) dX10_keep_26
    · have hw := hw.2 hc
      refine j_aload_n (r := (some b)) hx hb dX10_keep_8 rfl (lv_at hl 0 rfl) ?_
      obtain ⟨v1, hv1, hw⟩ := hw
      refine j_getz (C := RX10) (T := TX10) (N := 25) (ci := 12) (r := (some b)) (v := va_rf v1) hx hb hfX10 hown hK hI rfl 4 (by decide) (hts (.fieldLink RX10 13 "CashPoolsModel" "kept" "[J") (List.mem_of_getElem? (i := 1) (by decide +kernel))) (fun _ h => h) hv1 dX10_keep_9 ?_
      refine lv_iload_n hx hb dX10_keep_12 rfl (lv_at hl 1 rfl) ?_
      refine j_aload_n (r := (some b)) hx hb dX10_keep_13 rfl (lv_at hl 0 rfl) ?_
      obtain ⟨v2, hv2, hw⟩ := hw
      refine j_getz (C := RX10) (T := TX10) (N := 25) (ci := 12) (r := (some b)) (v := va_rf v2) hx hb hfX10 hown hK hI rfl 3 (by decide) (hts (.fieldLink RX10 7 "CashPoolsModel" "z" "[J") (List.mem_of_getElem? (i := 2) (by decide +kernel))) (fun _ h => h) hv2 dX10_keep_14 ?_
      refine lv_iload_n hx hb dX10_keep_17 rfl (lv_at hl 1 rfl) ?_
      obtain ⟨v3, hv3, hw⟩ := hw
      refine j_laldz (r := v2) hx hb hK hI hv3 dX10_keep_18 ?_
      obtain ⟨μ4, hμ4, hw⟩ := hw
      refine j_lastz (r := v1) hx hb hK hI hμ4 dX10_keep_19 (fun H locs hI => ?_)
      obtain ⟨v5, ev5⟩ : ∃ y : Int32, y = x1 + (1 : Int32) := ⟨_, rfl⟩
      have hw := hw v5 ev5
      refine lv_iinc (v := v5) (lv' := [(1, .int v5), (0, va_rf (some b))]) hx hb dX10_keep_20 hl (k := 1) rfl (by rw [ev5]; rfl) (by decide) rfl (fun ls hl => ?_)
      refine lv_goto (tgt := 2) hx hb dX10_keep_23 (by decide) ?_
      exact ih hw hI (lv_sub hl [1, 0] rfl) (by omega) (by omega)
set_option maxHeartbeats 4000000 in
set_option maxRecDepth 100000 in
theorem kX10_keep_0 {b : Nat} (hX : jX2 D z A p l s m args meth c yX10_keep cX10_keep 2 wsX10_keep none) {Q : Unit → jM → Prop}   {μ : jM} {H : Heap} {locs : List Loc} {ls : Array Slot} {cells slots : Nat} (hw : wX10_keep_0 z b Q  μ) (hI : jIz D z A s.heap μ H locs) (hl : lv_has ls 2 [(0, va_rf (some b))]) (hcn : cells + 0 ≤ 0) (hsn : slots + 0 ≤ 0) : W p l e rmX10_keep s m args below meth c H locs cells slots (MQ below (jRz jfV Q D z A) args s 0 0 A) (F0 m 0 ls []) := by
  unfold wX10_keep_0 at hw
  obtain ⟨hx, hb, hml, hown, hts, hr, hlocks, hnm, hK, hG, hfl⟩ := id hX
  have hown : s.vm.findClass RX10 = some m.cls := hown
  refine lv_iconst (v := (0)) hx hb dX10_keep_0 (by decide) ?_
  refine lv_topi (fun v1 ev1 => ?_)
  have hw := hw v1 ev1
  refine lv_istore_n (lv' := [(1, .int v1), (0, va_rf (some b))]) hx hb dX10_keep_1 rfl hl (by decide) rfl (fun ls hl => ?_)
  obtain ⟨n2, hw⟩ := hw
  exact kX10_keep_2 hX  n2 hw hI (lv_sub hl [1, 0] rfl) (by omega) (by omega)
set_option maxHeartbeats 4000000 in
set_option maxRecDepth 100000 in
theorem kX10_keep (l : Launch) (hfl : l.stackTraces = false) (D : jD) (z : Nat × Nat) (b : Nat)  (μ : jM) (sz : Nat) (Q : Unit → jM → Prop) : Met l yX10_keep wsX10_keep rmX10_keep (jPre2z D z μ sz [.ref b] (wX10_keep z b  μ Q)) (jRz jfV Q D z (jA z μ sz)) 0 0 (jA z μ sz) := by
  refine Met.ofW (cc := cX10_keep) (maxL := 2) (ret := none) (by decide) rfl ?_
  intro p e s m args below meth c s₁ B hml hv
  obtain ⟨rfl, hsz, hH, hz0, hK, hG, hw⟩ := hv
  subst hsz
  have hX : jX2 D z (jA z μ s.heap.size) p l s m _ meth c yX10_keep cX10_keep 2 wsX10_keep none := ⟨B.exec, B.bytes, hml, findClass_of_methodNamed B.named, atoms_spec (ws := wsX10_keep) B.pre, B.returns, B.notSynchronized, (name_of_methodNamed B.named B.method).1, hK, hG, hfl⟩
  obtain ⟨ls, hg, hl⟩ : ∃ ls : Array Slot, entryFrame m ([.ref b] : List Value).toArray 2 = F0 m 0 ls [] ∧ lv_has ls 2 [(0, va_rf (some b))] := by
    exact ⟨_, lg_entry_eq .., lv_entry _ (n := 2) (Nat.le_of_ble_eq_true rfl)⟩
  rw [hg]
  exact kX10_keep_0 hX hw (jIz.start hH hz0) (lv_sub hl [0] rfl) (by decide) (by decide)
set_option maxHeartbeats 4000000 in
set_option maxRecDepth 100000 in
theorem kX10_goBack_2 {b : Nat} (hX : jX2 D z A p l s m args meth c yX10_goBack cX10_goBack 2 wsX10_goBack none) {Q : Unit → jM → Prop}  (n : Nat) : ∀ {x1 : Int32} {μ : jM} {H : Heap} {locs : List Loc} {ls : Array Slot} {cells slots : Nat}, wX10_goBack_2 z b Q n x1 μ → jIz D z A s.heap μ H locs → lv_has ls 2 [(0, va_rf (some b)), (1, .int x1)] → cells + 0 ≤ 0 → slots + 0 ≤ 0 → W p l e rmX10_goBack s m args below meth c H locs cells slots (MQ below (jRz jfV Q D z A) args s 0 0 A) (F0 m 2 ls []) := by
  induction n with
  | zero =>
    intros
    rename_i hw _ _ _ _
    exact (show False from hw).elim
  | succ n ih =>
    intro x1 μ H locs ls cells slots hw hI hl hcn hsn
    have hw : wX10_goBack_2_b z b Q (wX10_goBack_2 z b Q n) x1 μ := hw
    unfold wX10_goBack_2_b at hw
    obtain ⟨hx, hb, hml, hown, hts, hr, hlocks, hnm, hK, hG, hfl⟩ := id hX
    have hown : s.vm.findClass RX10 = some m.cls := hown
    have hfX10 : ∀ w ∈ wsX100, w.before args s = true := fun w h => hts w (List.mem_cons_of_mem _ (List.mem_append_right _ h))
    refine lv_iload_n hx hb dX10_goBack_2 rfl (lv_at hl 1 rfl) ?_
    refine lv_bipush (v := (109)) hx hb dX10_goBack_3 (by decide) ?_
    refine lv_icmp_ge (tgt := 26) hx hb dX10_goBack_5 (by decide) (fun hc => ?_) (fun hc => ?_)
    · have hw := hw.1 hc
      exact j_vretz hx hb hr hlocks hI hw (by omega) (by omega) dX10_goBack_26
    · have hw := hw.2 hc
      refine j_aload_n (r := (some b)) hx hb dX10_goBack_8 rfl (lv_at hl 0 rfl) ?_
      obtain ⟨v1, hv1, hw⟩ := hw
      refine j_getz (C := RX10) (T := TX10) (N := 25) (ci := 12) (r := (some b)) (v := va_rf v1) hx hb hfX10 hown hK hI rfl 3 (by decide) (hts (.fieldLink RX10 7 "CashPoolsModel" "z" "[J") (List.mem_of_getElem? (i := 1) (by decide +kernel))) (fun _ h => h) hv1 dX10_goBack_9 ?_
      refine lv_iload_n hx hb dX10_goBack_12 rfl (lv_at hl 1 rfl) ?_
      refine j_aload_n (r := (some b)) hx hb dX10_goBack_13 rfl (lv_at hl 0 rfl) ?_
      obtain ⟨v2, hv2, hw⟩ := hw
      refine j_getz (C := RX10) (T := TX10) (N := 25) (ci := 12) (r := (some b)) (v := va_rf v2) hx hb hfX10 hown hK hI rfl 4 (by decide) (hts (.fieldLink RX10 13 "CashPoolsModel" "kept" "[J") (List.mem_of_getElem? (i := 2) (by decide +kernel))) (fun _ h => h) hv2 dX10_goBack_14 ?_
      refine lv_iload_n hx hb dX10_goBack_17 rfl (lv_at hl 1 rfl) ?_
      obtain ⟨v3, hv3, hw⟩ := hw
      refine j_laldz (r := v2) hx hb hK hI hv3 dX10_goBack_18 ?_
      obtain ⟨μ4, hμ4, hw⟩ := hw
      refine j_lastz (r := v1) hx hb hK hI hμ4 dX10_goBack_19 (fun H locs hI => ?_)
      obtain ⟨v5, ev5⟩ : ∃ y : Int32, y = x1 + (1 : Int32) := ⟨_, rfl⟩
      have hw := hw v5 ev5
      refine lv_iinc (v := v5) (lv' := [(1, .int v5), (0, va_rf (some b))]) hx hb dX10_goBack_20 hl (k := 1) rfl (by rw [ev5]; rfl) (by decide) rfl (fun ls hl => ?_)
      refine lv_goto (tgt := 2) hx hb dX10_goBack_23 (by decide) ?_
      exact ih hw hI (lv_sub hl [1, 0] rfl) (by omega) (by omega)
set_option maxHeartbeats 4000000 in
set_option maxRecDepth 100000 in
theorem kX10_goBack_0 {b : Nat} (hX : jX2 D z A p l s m args meth c yX10_goBack cX10_goBack 2 wsX10_goBack none) {Q : Unit → jM → Prop}   {μ : jM} {H : Heap} {locs : List Loc} {ls : Array Slot} {cells slots : Nat} (hw : wX10_goBack_0 z b Q  μ) (hI : jIz D z A s.heap μ H locs) (hl : lv_has ls 2 [(0, va_rf (some b))]) (hcn : cells + 0 ≤ 0) (hsn : slots + 0 ≤ 0) : W p l e rmX10_goBack s m args below meth c H locs cells slots (MQ below (jRz jfV Q D z A) args s 0 0 A) (F0 m 0 ls []) := by
  unfold wX10_goBack_0 at hw
  obtain ⟨hx, hb, hml, hown, hts, hr, hlocks, hnm, hK, hG, hfl⟩ := id hX
  have hown : s.vm.findClass RX10 = some m.cls := hown
  refine lv_iconst (v := (0)) hx hb dX10_goBack_0 (by decide) ?_
  refine lv_topi (fun v1 ev1 => ?_)
  have hw := hw v1 ev1
  refine lv_istore_n (lv' := [(1, .int v1), (0, va_rf (some b))]) hx hb dX10_goBack_1 rfl hl (by decide) rfl (fun ls hl => ?_)
  obtain ⟨n2, hw⟩ := hw
  exact kX10_goBack_2 hX  n2 hw hI (lv_sub hl [1, 0] rfl) (by omega) (by omega)
set_option maxHeartbeats 4000000 in
set_option maxRecDepth 100000 in
theorem kX10_goBack (l : Launch) (hfl : l.stackTraces = false) (D : jD) (z : Nat × Nat) (b : Nat)  (μ : jM) (sz : Nat) (Q : Unit → jM → Prop) : Met l yX10_goBack wsX10_goBack rmX10_goBack (jPre2z D z μ sz [.ref b] (wX10_goBack z b  μ Q)) (jRz jfV Q D z (jA z μ sz)) 0 0 (jA z μ sz) := by
  refine Met.ofW (cc := cX10_goBack) (maxL := 2) (ret := none) (by decide) rfl ?_
  intro p e s m args below meth c s₁ B hml hv
  obtain ⟨rfl, hsz, hH, hz0, hK, hG, hw⟩ := hv
  subst hsz
  have hX : jX2 D z (jA z μ s.heap.size) p l s m _ meth c yX10_goBack cX10_goBack 2 wsX10_goBack none := ⟨B.exec, B.bytes, hml, findClass_of_methodNamed B.named, atoms_spec (ws := wsX10_goBack) B.pre, B.returns, B.notSynchronized, (name_of_methodNamed B.named B.method).1, hK, hG, hfl⟩
  obtain ⟨ls, hg, hl⟩ : ∃ ls : Array Slot, entryFrame m ([.ref b] : List Value).toArray 2 = F0 m 0 ls [] ∧ lv_has ls 2 [(0, va_rf (some b))] := by
    exact ⟨_, lg_entry_eq .., lv_entry _ (n := 2) (Nat.le_of_ble_eq_true rfl)⟩
  rw [hg]
  exact kX10_goBack_0 hX hw (jIz.start hH hz0) (lv_sub hl [0] rfl) (by decide) (by decide)
set_option maxHeartbeats 4000000 in
set_option maxRecDepth 100000 in
theorem kX10_today_0 {b : Nat} (hX : jX2 D z A p l s m args meth c yX10_today cX10_today 1 wsX10_today (some .int)) {Q : Int32 → jM → Prop}   {μ : jM} {H : Heap} {locs : List Loc} {ls : Array Slot} {cells slots : Nat} (hw : wX10_today_0 z b Q  μ) (hI : jIz D z A s.heap μ H locs) (hl : lv_has ls 1 [(0, va_rf (some b))]) (hcn : cells + 0 ≤ 0) (hsn : slots + 0 ≤ 0) : W p l e rmX10_today s m args below meth c H locs cells slots (MQ below (jRz jfI Q D z A) args s 0 0 A) (F0 m 0 ls []) := by
  unfold wX10_today_0 at hw
  obtain ⟨hx, hb, hml, hown, hts, hr, hlocks, hnm, hK, hG, hfl⟩ := id hX
  have hown : s.vm.findClass RX10 = some m.cls := hown
  have hfX10 : ∀ w ∈ wsX100, w.before args s = true := fun w h => hts w (List.mem_cons_of_mem _ (List.mem_append_right _ h))
  refine j_aload_n (r := (some b)) hx hb dX10_today_0 rfl (lv_at hl 0 rfl) ?_
  refine lv_iconst (v := (0)) hx hb dX10_today_1 (by decide) ?_
  obtain ⟨μ1, hμ1, hw⟩ := hw
  refine j_putz (C := RX10) (T := TX10) (N := 25) (ci := 12) (r := (some b)) (v := .int (0 : Int32)) hx hb hfX10 tyX10 tyX10_ok nmX10 hown hK hI rfl 24 (by decide) (hts (.fieldLink RX10 75 "CashPoolsModel" "thrown" "I") (List.mem_of_getElem? (i := 1) (by decide +kernel))) (fun _ h => h) rfl (tyX10_ok 24 (by decide)) rfl rfl hμ1 dX10_today_2 (fun H locs hI => ?_)
  refine j_aload_n (r := (some b)) hx hb dX10_today_5 rfl (lv_at hl 0 rfl) ?_
  obtain ⟨v2, hv2, hw⟩ := hw
  refine j_getz (C := RX10) (T := TX10) (N := 25) (ci := 12) (r := (some b)) (v := va_rf v2) hx hb hfX10 hown hK hI rfl 3 (by decide) (hts (.fieldLink RX10 7 "CashPoolsModel" "z" "[J") (List.mem_of_getElem? (i := 2) (by decide +kernel))) (fun _ h => h) hv2 dX10_today_6 ?_
  refine lv_bipush (v := (108)) hx hb dX10_today_9 (by decide) ?_
  obtain ⟨v3, hv3, hw⟩ := hw
  refine j_laldz (r := v2) hx hb hK hI hv3 dX10_today_11 ?_
  refine lv_l2i hx hb dX10_today_12 rfl ?_
  exact j_iretz hx hb hr hlocks hI hw (by omega) (by omega) dX10_today_13
set_option maxHeartbeats 4000000 in
set_option maxRecDepth 100000 in
theorem kX10_today (l : Launch) (hfl : l.stackTraces = false) (D : jD) (z : Nat × Nat) (b : Nat)  (μ : jM) (sz : Nat) (Q : Int32 → jM → Prop) : Met l yX10_today wsX10_today rmX10_today (jPre2z D z μ sz [.ref b] (wX10_today z b  μ Q)) (jRz jfI Q D z (jA z μ sz)) 0 0 (jA z μ sz) := by
  refine Met.ofW (cc := cX10_today) (maxL := 1) (ret := (some .int)) (by decide) rfl ?_
  intro p e s m args below meth c s₁ B hml hv
  obtain ⟨rfl, hsz, hH, hz0, hK, hG, hw⟩ := hv
  subst hsz
  have hX : jX2 D z (jA z μ s.heap.size) p l s m _ meth c yX10_today cX10_today 1 wsX10_today (some .int) := ⟨B.exec, B.bytes, hml, findClass_of_methodNamed B.named, atoms_spec (ws := wsX10_today) B.pre, B.returns, B.notSynchronized, (name_of_methodNamed B.named B.method).1, hK, hG, hfl⟩
  obtain ⟨ls, hg, hl⟩ : ∃ ls : Array Slot, entryFrame m ([.ref b] : List Value).toArray 1 = F0 m 0 ls [] ∧ lv_has ls 1 [(0, va_rf (some b))] := by
    exact ⟨_, lg_entry_eq .., lv_entry _ (n := 1) (Nat.le_of_ble_eq_true rfl)⟩
  rw [hg]
  exact kX10_today_0 hX hw (jIz.start hH hz0) (lv_sub hl [0] rfl) (by decide) (by decide)
set_option maxHeartbeats 4000000 in
set_option maxRecDepth 100000 in
theorem kX10_addHoliday_36 {b : Nat} (hX : jX2 D z A p l s m args meth c yX10_addHoliday cX10_addHoliday 4 wsX10_addHoliday (some .int)) {Q : Int32 → jM → Prop}  (n : Nat) : ∀ {x2 : Int32} {x3 : Int32} {μ : jM} {H : Heap} {locs : List Loc} {ls : Array Slot} {cells slots : Nat}, wX10_addHoliday_36 z b Q n x2 x3 μ → jIz D z A s.heap μ H locs → lv_has ls 4 [(0, va_rf (some b)), (2, .int x2), (3, .int x3)] → cells + 0 ≤ 0 → slots + 0 ≤ 0 → W p l e rmX10_addHoliday s m args below meth c H locs cells slots (MQ below (jRz jfI Q D z A) args s 0 0 A) (F0 m 36 ls []) := by
  induction n with
  | zero =>
    intros
    rename_i hw _ _ _ _
    exact (show False from hw).elim
  | succ n ih =>
    intro x2 x3 μ H locs ls cells slots hw hI hl hcn hsn
    have hw : wX10_addHoliday_36_b z b Q (wX10_addHoliday_36 z b Q n) x2 x3 μ := hw
    unfold wX10_addHoliday_36_b at hw
    obtain ⟨hx, hb, hml, hown, hts, hr, hlocks, hnm, hK, hG, hfl⟩ := id hX
    have hown : s.vm.findClass RX10 = some m.cls := hown
    refine lv_iload_n hx hb dX10_addHoliday_36 rfl (lv_at hl 2 rfl) ?_
    refine lv_sipush (v := (450)) hx hb dX10_addHoliday_37 (by decide) ?_
    refine lv_icmp_gt (tgt := 65) hx hb dX10_addHoliday_40 (by decide) (fun hc => ?_) (fun hc => ?_)
    · have hw := hw.1 hc
      refine lv_iload_n hx hb dX10_addHoliday_65 rfl (lv_at hl 1 rfl) ?_
      exact j_iretz hx hb hr hlocks hI hw (by omega) (by omega) dX10_addHoliday_66
    · have hw := hw.2 hc
      refine lv_iload_n hx hb dX10_addHoliday_43 rfl (lv_at hl 1 rfl) ?_
      refine j_aload_n (r := (some b)) hx hb dX10_addHoliday_44 rfl (lv_at hl 0 rfl) ?_
      refine lv_iload_n hx hb dX10_addHoliday_45 rfl (lv_at hl 2 rfl) ?_
      obtain ⟨hfs, hw⟩ := hw
      refine j_goz hI (va_runV (As := [.int x3]) (rest := [.int x2]) ⟨hx, hb, hml, hown, hts⟩ (kX10_isSettlement l hfl D z b x3 μ H.size _) (cwV 1 hts gX10_addHoliday_X10_isSettlement rfl rfl rfl (by decide +kernel) ⟨Nat.le_of_ble_eq_true rfl, Nat.le_of_ble_eq_true rfl⟩) (j_prV2z hK hG hI hw (ci := 12) rfl hfs) rfl rfl hl.1 rfl (lv_room (Nat.le_of_ble_eq_true rfl)) dX10_addHoliday_46 ⟨by show _ ≤ 0; omega, by show _ ≤ 0; omega⟩) (fun v1 μ2 H locs hw hI => ?_)
      refine W.eq (g2 := F0 m 49 ls [.int v1, .int x2]) rfl ?_
      refine lv_if_eq (tgt := 56) hx hb dX10_addHoliday_49 (by decide) (fun hc => ?_) (fun hc => ?_)
      · have hw := hw.1 hc
        refine lv_iconst (v := (0)) hx hb dX10_addHoliday_56 (by decide) ?_
        refine lv_iadd hx hb dX10_addHoliday_57 ?_
        refine lv_topi (fun v3 ev3 => ?_)
        have hw := hw v3 ev3
        refine lv_istore_n (lv' := [(2, .int v3), (0, va_rf (some b)), (3, .int x3)]) hx hb dX10_addHoliday_58 rfl hl (by decide) rfl (fun ls hl => ?_)
        obtain ⟨v4, ev4⟩ : ∃ y : Int32, y = x3 + (1 : Int32) := ⟨_, rfl⟩
        have hw := hw v4 ev4
        refine lv_iinc (v := v4) (lv' := [(3, .int v4), (2, .int v3), (0, va_rf (some b))]) hx hb dX10_addHoliday_59 hl (k := 2) rfl (by rw [ev4]; rfl) (by decide) rfl (fun ls hl => ?_)
        refine lv_goto (tgt := 36) hx hb dX10_addHoliday_62 (by decide) ?_
        exact ih hw hI (lv_sub hl [2, 1, 0] rfl) (by omega) (by omega)
      · have hw := hw.2 hc
        refine lv_iconst (v := (1)) hx hb dX10_addHoliday_52 (by decide) ?_
        refine lv_goto (tgt := 57) hx hb dX10_addHoliday_53 (by decide) ?_
        refine lv_iadd hx hb dX10_addHoliday_57 ?_
        refine lv_topi (fun v5 ev5 => ?_)
        have hw := hw v5 ev5
        refine lv_istore_n (lv' := [(2, .int v5), (0, va_rf (some b)), (3, .int x3)]) hx hb dX10_addHoliday_58 rfl hl (by decide) rfl (fun ls hl => ?_)
        obtain ⟨v6, ev6⟩ : ∃ y : Int32, y = x3 + (1 : Int32) := ⟨_, rfl⟩
        have hw := hw v6 ev6
        refine lv_iinc (v := v6) (lv' := [(3, .int v6), (2, .int v5), (0, va_rf (some b))]) hx hb dX10_addHoliday_59 hl (k := 2) rfl (by rw [ev6]; rfl) (by decide) rfl (fun ls hl => ?_)
        refine lv_goto (tgt := 36) hx hb dX10_addHoliday_62 (by decide) ?_
        exact ih hw hI (lv_sub hl [2, 1, 0] rfl) (by omega) (by omega)
set_option maxHeartbeats 4000000 in
set_option maxRecDepth 100000 in
theorem kX10_addHoliday_17 {b : Nat} (hX : jX2 D z A p l s m args meth c yX10_addHoliday cX10_addHoliday 4 wsX10_addHoliday (some .int)) {Q : Int32 → jM → Prop}  {x1 : Int32} {t0 : Option Nat} {t1 : Int32} {μ : jM} {H : Heap} {locs : List Loc} {ls : Array Slot} {cells slots : Nat} (hw : wX10_addHoliday_17 z b Q x1 t0 t1 μ) (hI : jIz D z A s.heap μ H locs) (hl : lv_has ls 4 [(0, va_rf (some b)), (1, .int x1)]) (hcn : cells + 0 ≤ 0) (hsn : slots + 0 ≤ 0) : W p l e rmX10_addHoliday s m args below meth c H locs cells slots (MQ below (jRz jfI Q D z A) args s 0 0 A) (F0 m 17 ls [.int t1, va_rf t0]) := by
  unfold wX10_addHoliday_17 at hw
  obtain ⟨hx, hb, hml, hown, hts, hr, hlocks, hnm, hK, hG, hfl⟩ := id hX
  have hown : s.vm.findClass RX10 = some m.cls := hown
  have hfX10 : ∀ w ∈ wsX100, w.before args s = true := fun w h => hts w (List.mem_cons_of_mem _ (List.mem_append_right _ h))
  obtain ⟨b3, ⟨hrb3, hfs⟩, hw⟩ := hw
  refine j_goz hI (va_runV (As := [.int t1]) (rest := []) ⟨hx, hb, hml, hown, hts⟩ (kX10_can l hfl D z b3 t1 μ H.size _) (cwV 1 hts gX10_addHoliday_X10_can rfl rfl rfl (by decide +kernel) ⟨Nat.le_of_ble_eq_true rfl, Nat.le_of_ble_eq_true rfl⟩) (j_prV2z hK hG hI hw (ci := 12) rfl hfs) rfl rfl hl.1 (by rw [hrb3]; rfl) (lv_room (Nat.le_of_ble_eq_true rfl)) dX10_addHoliday_17 ⟨by show _ ≤ 0; omega, by show _ ≤ 0; omega⟩) (fun v1 μ2 H locs hw hI => ?_)
  refine W.eq (g2 := F0 m 20 ls [.int v1]) rfl ?_
  refine lv_if_ne (tgt := 25) hx hb dX10_addHoliday_20 (by decide) (fun hc => ?_) (fun hc => ?_)
  · have hw := hw.1 hc
    refine j_aload_n (r := (some b)) hx hb dX10_addHoliday_25 rfl (lv_at hl 0 rfl) ?_
    obtain ⟨v4, hv4, hw⟩ := hw
    refine j_getz (C := RX10) (T := TX10) (N := 25) (ci := 12) (r := (some b)) (v := va_rf v4) hx hb hfX10 hown hK hI rfl 22 (by decide) (hts (.fieldLink RX10 68 "CashPoolsModel" "isHoliday" "[Z") (List.mem_of_getElem? (i := 1) (by decide +kernel))) (fun _ h => h) hv4 dX10_addHoliday_26 ?_
    refine lv_iload_n hx hb dX10_addHoliday_29 rfl (lv_at hl 1 rfl) ?_
    refine lv_iconst (v := (1)) hx hb dX10_addHoliday_30 (by decide) ?_
    obtain ⟨μ5, hμ5, hw⟩ := hw
    refine j_zastz (r := v4) hx hb hK hI hμ5 dX10_addHoliday_31 (fun H locs hI => ?_)
    refine lv_iconst (v := (0)) hx hb dX10_addHoliday_32 (by decide) ?_
    refine lv_topi (fun v6 ev6 => ?_)
    have hw := hw v6 ev6
    refine lv_istore_n (lv' := [(2, .int v6), (0, va_rf (some b)), (1, .int x1)]) hx hb dX10_addHoliday_33 rfl hl (by decide) rfl (fun ls hl => ?_)
    refine lv_iconst (v := (0)) hx hb dX10_addHoliday_34 (by decide) ?_
    refine lv_topi (fun v7 ev7 => ?_)
    have hw := hw v7 ev7
    refine lv_istore_n (lv' := [(3, .int v7), (2, .int v6), (0, va_rf (some b)), (1, .int x1)]) hx hb dX10_addHoliday_35 rfl hl (by decide) rfl (fun ls hl => ?_)
    obtain ⟨n8, hw⟩ := hw
    exact kX10_addHoliday_36 hX  n8 hw hI (lv_sub hl [2, 1, 0] rfl) (by omega) (by omega)
  · have hw := hw.2 hc
    refine lv_iconst (v := (0)) hx hb dX10_addHoliday_23 (by decide) ?_
    exact j_iretz hx hb hr hlocks hI hw (by omega) (by omega) dX10_addHoliday_24
set_option maxHeartbeats 4000000 in
set_option maxRecDepth 100000 in
theorem kX10_addHoliday_0 {b : Nat} (hX : jX2 D z A p l s m args meth c yX10_addHoliday cX10_addHoliday 4 wsX10_addHoliday (some .int)) {Q : Int32 → jM → Prop}  {x1 : Int32} {μ : jM} {H : Heap} {locs : List Loc} {ls : Array Slot} {cells slots : Nat} (hw : wX10_addHoliday_0 z b Q x1 μ) (hI : jIz D z A s.heap μ H locs) (hl : lv_has ls 4 [(0, va_rf (some b)), (1, .int x1)]) (hcn : cells + 0 ≤ 0) (hsn : slots + 0 ≤ 0) : W p l e rmX10_addHoliday s m args below meth c H locs cells slots (MQ below (jRz jfI Q D z A) args s 0 0 A) (F0 m 0 ls []) := by
  unfold wX10_addHoliday_0 at hw
  obtain ⟨hx, hb, hml, hown, hts, hr, hlocks, hnm, hK, hG, hfl⟩ := id hX
  have hown : s.vm.findClass RX10 = some m.cls := hown
  refine j_aload_n (r := (some b)) hx hb dX10_addHoliday_0 rfl (lv_at hl 0 rfl) ?_
  refine lv_iload_n hx hb dX10_addHoliday_1 rfl (lv_at hl 1 rfl) ?_
  refine lv_iconst (v := (0)) hx hb dX10_addHoliday_2 (by decide) ?_
  refine lv_sipush (v := (450)) hx hb dX10_addHoliday_3 (by decide) ?_
  refine j_goz hI (va_runS (As := [.int x1, .int (0 : Int32), .int (450 : Int32)]) (rest := [va_rf (some b)]) ⟨hx, hb, hml, hown, hts⟩ (kX10_isIn l hfl D z x1 (0 : Int32) (450 : Int32) μ H.size _) (va_cwS 3 hts gX10_addHoliday_X10_isIn rfl rfl rfl (by decide +kernel) ⟨Nat.le_of_ble_eq_true rfl, Nat.le_of_ble_eq_true rfl⟩) (j_prS2z hK hG hI hw) rfl rfl hl.1 rfl (lv_room (Nat.le_of_ble_eq_true rfl)) dX10_addHoliday_6 ⟨by show _ ≤ 0; omega, by show _ ≤ 0; omega⟩) (fun v1 μ2 H locs hw hI => ?_)
  refine W.eq (g2 := F0 m 9 ls [.int v1, va_rf (some b)]) rfl ?_
  refine lv_if_eq (tgt := 16) hx hb dX10_addHoliday_9 (by decide) (fun hc => ?_) (fun hc => ?_)
  · have hw := hw.1 hc
    refine lv_iconst (v := (1)) hx hb dX10_addHoliday_16 (by decide) ?_
    exact kX10_addHoliday_17 hX  hw hI (lv_sub hl [0, 1] rfl) (by omega) (by omega)
  · have hw := hw.2 hc
    refine lv_iconst (v := (0)) hx hb dX10_addHoliday_12 (by decide) ?_
    refine lv_goto (tgt := 17) hx hb dX10_addHoliday_13 (by decide) ?_
    exact kX10_addHoliday_17 hX  hw hI (lv_sub hl [0, 1] rfl) (by omega) (by omega)
set_option maxHeartbeats 4000000 in
set_option maxRecDepth 100000 in
theorem kX10_addHoliday (l : Launch) (hfl : l.stackTraces = false) (D : jD) (z : Nat × Nat) (b : Nat) (x1 : Int32) (μ : jM) (sz : Nat) (Q : Int32 → jM → Prop) : Met l yX10_addHoliday wsX10_addHoliday rmX10_addHoliday (jPre2z D z μ sz [.ref b, .int x1] (wX10_addHoliday z b x1 μ Q)) (jRz jfI Q D z (jA z μ sz)) 0 0 (jA z μ sz) := by
  refine Met.ofW (cc := cX10_addHoliday) (maxL := 4) (ret := (some .int)) (by decide) rfl ?_
  intro p e s m args below meth c s₁ B hml hv
  obtain ⟨rfl, hsz, hH, hz0, hK, hG, hw⟩ := hv
  subst hsz
  have hX : jX2 D z (jA z μ s.heap.size) p l s m _ meth c yX10_addHoliday cX10_addHoliday 4 wsX10_addHoliday (some .int) := ⟨B.exec, B.bytes, hml, findClass_of_methodNamed B.named, atoms_spec (ws := wsX10_addHoliday) B.pre, B.returns, B.notSynchronized, (name_of_methodNamed B.named B.method).1, hK, hG, hfl⟩
  obtain ⟨ls, hg, hl⟩ : ∃ ls : Array Slot, entryFrame m ([.ref b, .int x1] : List Value).toArray 4 = F0 m 0 ls [] ∧ lv_has ls 4 [(0, va_rf (some b)), (1, .int x1)] := by
    exact ⟨_, lg_entry_eq .., lv_entry _ (n := 4) (Nat.le_of_ble_eq_true rfl)⟩
  rw [hg]
  exact kX10_addHoliday_0 hX hw (jIz.start hH hz0) (lv_sub hl [0, 1] rfl) (by decide) (by decide)
set_option maxHeartbeats 4000000 in
set_option maxRecDepth 100000 in
theorem kX10_settles_23 {b : Nat} (hX : jX2 D z A p l s m args meth c yX10_settles cX10_settles 3 wsX10_settles (some .int)) {Q : Int32 → jM → Prop}  {x2 : Int32} {μ : jM} {H : Heap} {locs : List Loc} {ls : Array Slot} {cells slots : Nat} (hw : wX10_settles_23 z b Q x2 μ) (hI : jIz D z A s.heap μ H locs) (hl : lv_has ls 3 [(0, va_rf (some b)), (2, .int x2)]) (hcn : cells + 0 ≤ 0) (hsn : slots + 0 ≤ 0) : W p l e rmX10_settles s m args below meth c H locs cells slots (MQ below (jRz jfI Q D z A) args s 0 0 A) (F0 m 23 ls []) := by
  unfold wX10_settles_23 at hw
  obtain ⟨hx, hb, hml, hown, hts, hr, hlocks, hnm, hK, hG, hfl⟩ := id hX
  have hown : s.vm.findClass RX10 = some m.cls := hown
  refine lv_iload_n hx hb dX10_settles_23 rfl (lv_at hl 1 rfl) ?_
  refine lv_sipush (v := (450)) hx hb dX10_settles_24 (by decide) ?_
  refine lv_icmp_gt (tgt := 34) hx hb dX10_settles_27 (by decide) (fun hc => ?_) (fun hc => ?_)
  · have hw := hw.1 hc
    refine lv_iconst (v := (-1)) hx hb dX10_settles_34 (by decide) ?_
    exact j_iretz hx hb hr hlocks hI hw (by omega) (by omega) dX10_settles_35
  · have hw := hw.2 hc
    refine lv_iload_n hx hb dX10_settles_30 rfl (lv_at hl 1 rfl) ?_
    refine lv_goto (tgt := 35) hx hb dX10_settles_31 (by decide) ?_
    exact j_iretz hx hb hr hlocks hI hw (by omega) (by omega) dX10_settles_35
set_option maxHeartbeats 4000000 in
set_option maxRecDepth 100000 in
theorem kX10_settles_2 {b : Nat} (hX : jX2 D z A p l s m args meth c yX10_settles cX10_settles 3 wsX10_settles (some .int)) {Q : Int32 → jM → Prop}  (n : Nat) : ∀ {x2 : Int32} {μ : jM} {H : Heap} {locs : List Loc} {ls : Array Slot} {cells slots : Nat}, wX10_settles_2 z b Q n x2 μ → jIz D z A s.heap μ H locs → lv_has ls 3 [(0, va_rf (some b)), (2, .int x2)] → cells + 0 ≤ 0 → slots + 0 ≤ 0 → W p l e rmX10_settles s m args below meth c H locs cells slots (MQ below (jRz jfI Q D z A) args s 0 0 A) (F0 m 2 ls []) := by
  induction n with
  | zero =>
    intros
    rename_i hw _ _ _ _
    exact (show False from hw).elim
  | succ n ih =>
    intro x2 μ H locs ls cells slots hw hI hl hcn hsn
    have hw : wX10_settles_2_b z b Q (wX10_settles_2 z b Q n) x2 μ := hw
    unfold wX10_settles_2_b at hw
    obtain ⟨hx, hb, hml, hown, hts, hr, hlocks, hnm, hK, hG, hfl⟩ := id hX
    have hown : s.vm.findClass RX10 = some m.cls := hown
    refine lv_iload_n hx hb dX10_settles_2 rfl (lv_at hl 1 rfl) ?_
    refine lv_sipush (v := (450)) hx hb dX10_settles_3 (by decide) ?_
    refine lv_icmp_gt (tgt := 23) hx hb dX10_settles_6 (by decide) (fun hc => ?_) (fun hc => ?_)
    · have hw := hw.1 hc
      exact kX10_settles_23 hX  hw hI (lv_sub hl [0, 1] rfl) (by omega) (by omega)
    · have hw := hw.2 hc
      refine j_aload_n (r := (some b)) hx hb dX10_settles_9 rfl (lv_at hl 0 rfl) ?_
      refine lv_iload_n hx hb dX10_settles_10 rfl (lv_at hl 1 rfl) ?_
      obtain ⟨hfs, hw⟩ := hw
      refine j_goz hI (va_runV (As := [.int x2]) (rest := []) ⟨hx, hb, hml, hown, hts⟩ (kX10_isSettlement l hfl D z b x2 μ H.size _) (cwV 1 hts gX10_settles_X10_isSettlement rfl rfl rfl (by decide +kernel) ⟨Nat.le_of_ble_eq_true rfl, Nat.le_of_ble_eq_true rfl⟩) (j_prV2z hK hG hI hw (ci := 12) rfl hfs) rfl rfl hl.1 rfl (lv_room (Nat.le_of_ble_eq_true rfl)) dX10_settles_11 ⟨by show _ ≤ 0; omega, by show _ ≤ 0; omega⟩) (fun v1 μ2 H locs hw hI => ?_)
      refine W.eq (g2 := F0 m 14 ls [.int v1]) rfl ?_
      refine lv_if_ne (tgt := 23) hx hb dX10_settles_14 (by decide) (fun hc => ?_) (fun hc => ?_)
      · have hw := hw.1 hc
        exact kX10_settles_23 hX  hw hI (lv_sub hl [0, 1] rfl) (by omega) (by omega)
      · have hw := hw.2 hc
        obtain ⟨v3, ev3⟩ : ∃ y : Int32, y = x2 + (1 : Int32) := ⟨_, rfl⟩
        have hw := hw v3 ev3
        refine lv_iinc (v := v3) (lv' := [(2, .int v3), (0, va_rf (some b))]) hx hb dX10_settles_17 hl (k := 1) rfl (by rw [ev3]; rfl) (by decide) rfl (fun ls hl => ?_)
        refine lv_goto (tgt := 2) hx hb dX10_settles_20 (by decide) ?_
        exact ih hw hI (lv_sub hl [1, 0] rfl) (by omega) (by omega)
set_option maxHeartbeats 4000000 in
set_option maxRecDepth 100000 in
theorem kX10_settles_0 {b : Nat} (hX : jX2 D z A p l s m args meth c yX10_settles cX10_settles 3 wsX10_settles (some .int)) {Q : Int32 → jM → Prop}  {x1 : Int32} {μ : jM} {H : Heap} {locs : List Loc} {ls : Array Slot} {cells slots : Nat} (hw : wX10_settles_0 z b Q x1 μ) (hI : jIz D z A s.heap μ H locs) (hl : lv_has ls 3 [(0, va_rf (some b)), (1, .int x1)]) (hcn : cells + 0 ≤ 0) (hsn : slots + 0 ≤ 0) : W p l e rmX10_settles s m args below meth c H locs cells slots (MQ below (jRz jfI Q D z A) args s 0 0 A) (F0 m 0 ls []) := by
  unfold wX10_settles_0 at hw
  obtain ⟨hx, hb, hml, hown, hts, hr, hlocks, hnm, hK, hG, hfl⟩ := id hX
  have hown : s.vm.findClass RX10 = some m.cls := hown
  refine lv_iload_n hx hb dX10_settles_0 rfl (lv_at hl 1 rfl) ?_
  refine lv_istore_n (lv' := [(2, .int x1), (0, va_rf (some b)), (1, .int x1)]) hx hb dX10_settles_1 rfl hl (by decide) rfl (fun ls hl => ?_)
  obtain ⟨n1, hw⟩ := hw
  exact kX10_settles_2 hX  n1 hw hI (lv_sub hl [1, 0] rfl) (by omega) (by omega)
set_option maxHeartbeats 4000000 in
set_option maxRecDepth 100000 in
theorem kX10_settles (l : Launch) (hfl : l.stackTraces = false) (D : jD) (z : Nat × Nat) (b : Nat) (x1 : Int32) (μ : jM) (sz : Nat) (Q : Int32 → jM → Prop) : Met l yX10_settles wsX10_settles rmX10_settles (jPre2z D z μ sz [.ref b, .int x1] (wX10_settles z b x1 μ Q)) (jRz jfI Q D z (jA z μ sz)) 0 0 (jA z μ sz) := by
  refine Met.ofW (cc := cX10_settles) (maxL := 3) (ret := (some .int)) (by decide) rfl ?_
  intro p e s m args below meth c s₁ B hml hv
  obtain ⟨rfl, hsz, hH, hz0, hK, hG, hw⟩ := hv
  subst hsz
  have hX : jX2 D z (jA z μ s.heap.size) p l s m _ meth c yX10_settles cX10_settles 3 wsX10_settles (some .int) := ⟨B.exec, B.bytes, hml, findClass_of_methodNamed B.named, atoms_spec (ws := wsX10_settles) B.pre, B.returns, B.notSynchronized, (name_of_methodNamed B.named B.method).1, hK, hG, hfl⟩
  obtain ⟨ls, hg, hl⟩ : ∃ ls : Array Slot, entryFrame m ([.ref b, .int x1] : List Value).toArray 3 = F0 m 0 ls [] ∧ lv_has ls 3 [(0, va_rf (some b)), (1, .int x1)] := by
    exact ⟨_, lg_entry_eq .., lv_entry _ (n := 3) (Nat.le_of_ble_eq_true rfl)⟩
  rw [hg]
  exact kX10_settles_0 hX hw (jIz.start hH hz0) (lv_sub hl [0, 1] rfl) (by decide) (by decide)
set_option maxHeartbeats 4000000 in
set_option maxRecDepth 100000 in
theorem kX10_settlementDay_17 {b : Nat} (hX : jX2 D z A p l s m args meth c yX10_settlementDay cX10_settlementDay 2 wsX10_settlementDay (some .int)) {Q : Int32 → jM → Prop}  {x1 : Int32} {t0 : Option Nat} {t1 : Int32} {μ : jM} {H : Heap} {locs : List Loc} {ls : Array Slot} {cells slots : Nat} (hw : wX10_settlementDay_17 z b Q x1 t0 t1 μ) (hI : jIz D z A s.heap μ H locs) (hl : lv_has ls 2 [(0, va_rf (some b)), (1, .int x1)]) (hcn : cells + 0 ≤ 0) (hsn : slots + 0 ≤ 0) : W p l e rmX10_settlementDay s m args below meth c H locs cells slots (MQ below (jRz jfI Q D z A) args s 0 0 A) (F0 m 17 ls [.int t1, va_rf t0]) := by
  unfold wX10_settlementDay_17 at hw
  obtain ⟨hx, hb, hml, hown, hts, hr, hlocks, hnm, hK, hG, hfl⟩ := id hX
  have hown : s.vm.findClass RX10 = some m.cls := hown
  obtain ⟨b3, ⟨hrb3, hfs⟩, hw⟩ := hw
  refine j_goz hI (va_runV (As := [.int t1]) (rest := []) ⟨hx, hb, hml, hown, hts⟩ (kX10_can l hfl D z b3 t1 μ H.size _) (cwV 1 hts gX10_settlementDay_X10_can rfl rfl rfl (by decide +kernel) ⟨Nat.le_of_ble_eq_true rfl, Nat.le_of_ble_eq_true rfl⟩) (j_prV2z hK hG hI hw (ci := 12) rfl hfs) rfl rfl hl.1 (by rw [hrb3]; rfl) (lv_room (Nat.le_of_ble_eq_true rfl)) dX10_settlementDay_17 ⟨by show _ ≤ 0; omega, by show _ ≤ 0; omega⟩) (fun v1 μ2 H locs hw hI => ?_)
  refine W.eq (g2 := F0 m 20 ls [.int v1]) rfl ?_
  refine lv_if_eq (tgt := 31) hx hb dX10_settlementDay_20 (by decide) (fun hc => ?_) (fun hc => ?_)
  · have hw := hw.1 hc
    refine lv_iconst (v := (0)) hx hb dX10_settlementDay_31 (by decide) ?_
    exact j_iretz hx hb hr hlocks hI hw (by omega) (by omega) dX10_settlementDay_32
  · have hw := hw.2 hc
    refine j_aload_n (r := (some b)) hx hb dX10_settlementDay_23 rfl (lv_at hl 0 rfl) ?_
    refine lv_iload_n hx hb dX10_settlementDay_24 rfl (lv_at hl 1 rfl) ?_
    obtain ⟨hfs, hw⟩ := hw
    refine j_goz hI (va_runV (As := [.int x1]) (rest := []) ⟨hx, hb, hml, hown, hts⟩ (kX10_settles l hfl D z b x1 μ2 H.size _) (cwV 1 hts gX10_settlementDay_X10_settles rfl rfl rfl (by decide +kernel) ⟨Nat.le_of_ble_eq_true rfl, Nat.le_of_ble_eq_true rfl⟩) (j_prV2z hK hG hI hw (ci := 12) rfl hfs) rfl rfl hl.1 rfl (lv_room (Nat.le_of_ble_eq_true rfl)) dX10_settlementDay_25 ⟨by show _ ≤ 0; omega, by show _ ≤ 0; omega⟩) (fun v4 μ5 H locs hw hI => ?_)
    refine W.eq (g2 := F0 m 28 ls [.int v4]) rfl ?_
    refine lv_goto (tgt := 32) hx hb dX10_settlementDay_28 (by decide) ?_
    exact j_iretz hx hb hr hlocks hI hw (by omega) (by omega) dX10_settlementDay_32
set_option maxHeartbeats 4000000 in
set_option maxRecDepth 100000 in
theorem kX10_settlementDay_0 {b : Nat} (hX : jX2 D z A p l s m args meth c yX10_settlementDay cX10_settlementDay 2 wsX10_settlementDay (some .int)) {Q : Int32 → jM → Prop}  {x1 : Int32} {μ : jM} {H : Heap} {locs : List Loc} {ls : Array Slot} {cells slots : Nat} (hw : wX10_settlementDay_0 z b Q x1 μ) (hI : jIz D z A s.heap μ H locs) (hl : lv_has ls 2 [(0, va_rf (some b)), (1, .int x1)]) (hcn : cells + 0 ≤ 0) (hsn : slots + 0 ≤ 0) : W p l e rmX10_settlementDay s m args below meth c H locs cells slots (MQ below (jRz jfI Q D z A) args s 0 0 A) (F0 m 0 ls []) := by
  unfold wX10_settlementDay_0 at hw
  obtain ⟨hx, hb, hml, hown, hts, hr, hlocks, hnm, hK, hG, hfl⟩ := id hX
  have hown : s.vm.findClass RX10 = some m.cls := hown
  refine j_aload_n (r := (some b)) hx hb dX10_settlementDay_0 rfl (lv_at hl 0 rfl) ?_
  refine lv_iload_n hx hb dX10_settlementDay_1 rfl (lv_at hl 1 rfl) ?_
  refine lv_iconst (v := (0)) hx hb dX10_settlementDay_2 (by decide) ?_
  refine lv_sipush (v := (450)) hx hb dX10_settlementDay_3 (by decide) ?_
  refine j_goz hI (va_runS (As := [.int x1, .int (0 : Int32), .int (450 : Int32)]) (rest := [va_rf (some b)]) ⟨hx, hb, hml, hown, hts⟩ (kX10_isIn l hfl D z x1 (0 : Int32) (450 : Int32) μ H.size _) (va_cwS 3 hts gX10_settlementDay_X10_isIn rfl rfl rfl (by decide +kernel) ⟨Nat.le_of_ble_eq_true rfl, Nat.le_of_ble_eq_true rfl⟩) (j_prS2z hK hG hI hw) rfl rfl hl.1 rfl (lv_room (Nat.le_of_ble_eq_true rfl)) dX10_settlementDay_6 ⟨by show _ ≤ 0; omega, by show _ ≤ 0; omega⟩) (fun v1 μ2 H locs hw hI => ?_)
  refine W.eq (g2 := F0 m 9 ls [.int v1, va_rf (some b)]) rfl ?_
  refine lv_if_eq (tgt := 16) hx hb dX10_settlementDay_9 (by decide) (fun hc => ?_) (fun hc => ?_)
  · have hw := hw.1 hc
    refine lv_iconst (v := (1)) hx hb dX10_settlementDay_16 (by decide) ?_
    exact kX10_settlementDay_17 hX  hw hI (lv_sub hl [0, 1] rfl) (by omega) (by omega)
  · have hw := hw.2 hc
    refine lv_iconst (v := (0)) hx hb dX10_settlementDay_12 (by decide) ?_
    refine lv_goto (tgt := 17) hx hb dX10_settlementDay_13 (by decide) ?_
    exact kX10_settlementDay_17 hX  hw hI (lv_sub hl [0, 1] rfl) (by omega) (by omega)
set_option maxHeartbeats 4000000 in
set_option maxRecDepth 100000 in
theorem kX10_settlementDay (l : Launch) (hfl : l.stackTraces = false) (D : jD) (z : Nat × Nat) (b : Nat) (x1 : Int32) (μ : jM) (sz : Nat) (Q : Int32 → jM → Prop) : Met l yX10_settlementDay wsX10_settlementDay rmX10_settlementDay (jPre2z D z μ sz [.ref b, .int x1] (wX10_settlementDay z b x1 μ Q)) (jRz jfI Q D z (jA z μ sz)) 0 0 (jA z μ sz) := by
  refine Met.ofW (cc := cX10_settlementDay) (maxL := 2) (ret := (some .int)) (by decide) rfl ?_
  intro p e s m args below meth c s₁ B hml hv
  obtain ⟨rfl, hsz, hH, hz0, hK, hG, hw⟩ := hv
  subst hsz
  have hX : jX2 D z (jA z μ s.heap.size) p l s m _ meth c yX10_settlementDay cX10_settlementDay 2 wsX10_settlementDay (some .int) := ⟨B.exec, B.bytes, hml, findClass_of_methodNamed B.named, atoms_spec (ws := wsX10_settlementDay) B.pre, B.returns, B.notSynchronized, (name_of_methodNamed B.named B.method).1, hK, hG, hfl⟩
  obtain ⟨ls, hg, hl⟩ : ∃ ls : Array Slot, entryFrame m ([.ref b, .int x1] : List Value).toArray 2 = F0 m 0 ls [] ∧ lv_has ls 2 [(0, va_rf (some b)), (1, .int x1)] := by
    exact ⟨_, lg_entry_eq .., lv_entry _ (n := 2) (Nat.le_of_ble_eq_true rfl)⟩
  rw [hg]
  exact kX10_settlementDay_0 hX hw (jIz.start hH hz0) (lv_sub hl [0, 1] rfl) (by decide) (by decide)
set_option maxHeartbeats 4000000 in
set_option maxRecDepth 100000 in
theorem kX10_passDays_47 {b : Nat} (hX : jX2 D z A p l s m args meth c yX10_passDays cX10_passDays 3 wsX10_passDays (some .int)) {Q : Int32 → jM → Prop}  (n : Nat) : ∀ {x1 : Int32} {x2 : Int32} {μ : jM} {H : Heap} {locs : List Loc} {ls : Array Slot} {cells slots : Nat}, wX10_passDays_47 z b Q n x1 x2 μ → jIz D z A s.heap μ H locs → lv_has ls 3 [(0, va_rf (some b)), (1, .int x1), (2, .int x2)] → cells + 0 ≤ 0 → slots + 0 ≤ 0 → W p l e rmX10_passDays s m args below meth c H locs cells slots (MQ below (jRz jfI Q D z A) args s 0 0 A) (F0 m 47 ls []) := by
  induction n with
  | zero =>
    intros
    rename_i hw _ _ _ _
    exact (show False from hw).elim
  | succ n ih =>
    intro x1 x2 μ H locs ls cells slots hw hI hl hcn hsn
    have hw : wX10_passDays_47_b z b Q (wX10_passDays_47 z b Q n) x1 x2 μ := hw
    unfold wX10_passDays_47_b at hw
    obtain ⟨hx, hb, hml, hown, hts, hr, hlocks, hnm, hK, hG, hfl⟩ := id hX
    have hown : s.vm.findClass RX10 = some m.cls := hown
    have hfX10 : ∀ w ∈ wsX100, w.before args s = true := fun w h => hts w (List.mem_cons_of_mem _ (List.mem_append_right _ h))
    refine lv_iload_n hx hb dX10_passDays_47 rfl (lv_at hl 2 rfl) ?_
    refine lv_iload_n hx hb dX10_passDays_48 rfl (lv_at hl 1 rfl) ?_
    refine lv_icmp_ge (tgt := 62) hx hb dX10_passDays_49 (by decide) (fun hc => ?_) (fun hc => ?_)
    · have hw := hw.1 hc
      refine j_aload_n (r := (some b)) hx hb dX10_passDays_62 rfl (lv_at hl 0 rfl) ?_
      obtain ⟨v1, hv1, hw⟩ := hw
      refine j_getz (C := RX10) (T := TX10) (N := 25) (ci := 12) (r := (some b)) (v := va_rf v1) hx hb hfX10 hown hK hI rfl 3 (by decide) (hts (.fieldLink RX10 7 "CashPoolsModel" "z" "[J") (List.mem_of_getElem? (i := 1) (by decide +kernel))) (fun _ h => h) hv1 dX10_passDays_63 ?_
      refine lv_bipush (v := (108)) hx hb dX10_passDays_66 (by decide) ?_
      obtain ⟨v2, hv2, hw⟩ := hw
      refine j_laldz (r := v1) hx hb hK hI hv2 dX10_passDays_68 ?_
      refine lv_l2i hx hb dX10_passDays_69 rfl ?_
      exact j_iretz hx hb hr hlocks hI hw (by omega) (by omega) dX10_passDays_70
    · have hw := hw.2 hc
      refine j_aload_n (r := (some b)) hx hb dX10_passDays_52 rfl (lv_at hl 0 rfl) ?_
      obtain ⟨hfs, hw⟩ := hw
      refine j_goz hI (va_runV (As := []) (rest := []) ⟨hx, hb, hml, hown, hts⟩ (kX10_passDay l hfl D z b  μ H.size _) (cwV 0 hts gX10_passDays_X10_passDay rfl rfl rfl (by decide +kernel) ⟨Nat.le_of_ble_eq_true rfl, Nat.le_of_ble_eq_true rfl⟩) (j_prV2z hK hG hI hw (ci := 12) rfl hfs) rfl rfl hl.1 rfl (lv_room (Nat.le_of_ble_eq_true rfl)) dX10_passDays_53 ⟨by show _ ≤ 0; omega, by show _ ≤ 0; omega⟩) (fun u3 μ4 H locs hw hI => ?_)
      refine W.eq (g2 := F0 m 56 ls []) rfl ?_
      obtain ⟨v5, ev5⟩ : ∃ y : Int32, y = x2 + (1 : Int32) := ⟨_, rfl⟩
      have hw := hw v5 ev5
      refine lv_iinc (v := v5) (lv' := [(2, .int v5), (0, va_rf (some b)), (1, .int x1)]) hx hb dX10_passDays_56 hl (k := 2) rfl (by rw [ev5]; rfl) (by decide) rfl (fun ls hl => ?_)
      refine lv_goto (tgt := 47) hx hb dX10_passDays_59 (by decide) ?_
      exact ih hw hI (lv_sub hl [1, 2, 0] rfl) (by omega) (by omega)
set_option maxHeartbeats 4000000 in
set_option maxRecDepth 100000 in
theorem kX10_passDays_37 {b : Nat} (hX : jX2 D z A p l s m args meth c yX10_passDays cX10_passDays 3 wsX10_passDays (some .int)) {Q : Int32 → jM → Prop}  {x1 : Int32} {t0 : Option Nat} {t1 : Int32} {μ : jM} {H : Heap} {locs : List Loc} {ls : Array Slot} {cells slots : Nat} (hw : wX10_passDays_37 z b Q x1 t0 t1 μ) (hI : jIz D z A s.heap μ H locs) (hl : lv_has ls 3 [(0, va_rf (some b)), (1, .int x1)]) (hcn : cells + 0 ≤ 0) (hsn : slots + 0 ≤ 0) : W p l e rmX10_passDays s m args below meth c H locs cells slots (MQ below (jRz jfI Q D z A) args s 0 0 A) (F0 m 37 ls [.int t1, va_rf t0]) := by
  unfold wX10_passDays_37 at hw
  obtain ⟨hx, hb, hml, hown, hts, hr, hlocks, hnm, hK, hG, hfl⟩ := id hX
  have hown : s.vm.findClass RX10 = some m.cls := hown
  obtain ⟨b3, ⟨hrb3, hfs⟩, hw⟩ := hw
  refine j_goz hI (va_runV (As := [.int t1]) (rest := []) ⟨hx, hb, hml, hown, hts⟩ (kX10_can l hfl D z b3 t1 μ H.size _) (cwV 1 hts gX10_passDays_X10_can rfl rfl rfl (by decide +kernel) ⟨Nat.le_of_ble_eq_true rfl, Nat.le_of_ble_eq_true rfl⟩) (j_prV2z hK hG hI hw (ci := 12) rfl hfs) rfl rfl hl.1 (by rw [hrb3]; rfl) (lv_room (Nat.le_of_ble_eq_true rfl)) dX10_passDays_37 ⟨by show _ ≤ 0; omega, by show _ ≤ 0; omega⟩) (fun v1 μ2 H locs hw hI => ?_)
  refine W.eq (g2 := F0 m 40 ls [.int v1]) rfl ?_
  refine lv_if_ne (tgt := 45) hx hb dX10_passDays_40 (by decide) (fun hc => ?_) (fun hc => ?_)
  · have hw := hw.1 hc
    refine lv_iconst (v := (0)) hx hb dX10_passDays_45 (by decide) ?_
    refine lv_topi (fun v4 ev4 => ?_)
    have hw := hw v4 ev4
    refine lv_istore_n (lv' := [(2, .int v4), (0, va_rf (some b)), (1, .int x1)]) hx hb dX10_passDays_46 rfl hl (by decide) rfl (fun ls hl => ?_)
    obtain ⟨n5, hw⟩ := hw
    exact kX10_passDays_47 hX  n5 hw hI (lv_sub hl [1, 2, 0] rfl) (by omega) (by omega)
  · have hw := hw.2 hc
    refine lv_iconst (v := (0)) hx hb dX10_passDays_43 (by decide) ?_
    exact j_iretz hx hb hr hlocks hI hw (by omega) (by omega) dX10_passDays_44
set_option maxHeartbeats 4000000 in
set_option maxRecDepth 100000 in
theorem kX10_passDays_0 {b : Nat} (hX : jX2 D z A p l s m args meth c yX10_passDays cX10_passDays 3 wsX10_passDays (some .int)) {Q : Int32 → jM → Prop}  {x1 : Int32} {μ : jM} {H : Heap} {locs : List Loc} {ls : Array Slot} {cells slots : Nat} (hw : wX10_passDays_0 z b Q x1 μ) (hI : jIz D z A s.heap μ H locs) (hl : lv_has ls 3 [(0, va_rf (some b)), (1, .int x1)]) (hcn : cells + 0 ≤ 0) (hsn : slots + 0 ≤ 0) : W p l e rmX10_passDays s m args below meth c H locs cells slots (MQ below (jRz jfI Q D z A) args s 0 0 A) (F0 m 0 ls []) := by
  unfold wX10_passDays_0 at hw
  obtain ⟨hx, hb, hml, hown, hts, hr, hlocks, hnm, hK, hG, hfl⟩ := id hX
  have hown : s.vm.findClass RX10 = some m.cls := hown
  have hfX10 : ∀ w ∈ wsX100, w.before args s = true := fun w h => hts w (List.mem_cons_of_mem _ (List.mem_append_right _ h))
  refine j_aload_n (r := (some b)) hx hb dX10_passDays_0 rfl (lv_at hl 0 rfl) ?_
  refine lv_iload_n hx hb dX10_passDays_1 rfl (lv_at hl 1 rfl) ?_
  refine lv_iconst (v := (1)) hx hb dX10_passDays_2 (by decide) ?_
  refine lv_bipush (v := (60)) hx hb dX10_passDays_3 (by decide) ?_
  refine j_goz hI (va_runS (As := [.int x1, .int (1 : Int32), .int (60 : Int32)]) (rest := [va_rf (some b)]) ⟨hx, hb, hml, hown, hts⟩ (kX10_isIn l hfl D z x1 (1 : Int32) (60 : Int32) μ H.size _) (va_cwS 3 hts gX10_passDays_X10_isIn rfl rfl rfl (by decide +kernel) ⟨Nat.le_of_ble_eq_true rfl, Nat.le_of_ble_eq_true rfl⟩) (j_prS2z hK hG hI hw) rfl rfl hl.1 rfl (lv_room (Nat.le_of_ble_eq_true rfl)) dX10_passDays_5 ⟨by show _ ≤ 0; omega, by show _ ≤ 0; omega⟩) (fun v1 μ2 H locs hw hI => ?_)
  refine W.eq (g2 := F0 m 8 ls [.int v1, va_rf (some b)]) rfl ?_
  refine lv_if_ne (tgt := 15) hx hb dX10_passDays_8 (by decide) (fun hc => ?_) (fun hc => ?_)
  · have hw := hw.1 hc
    refine j_aload_n (r := (some b)) hx hb dX10_passDays_15 rfl (lv_at hl 0 rfl) ?_
    obtain ⟨v3, hv3, hw⟩ := hw
    refine j_getz (C := RX10) (T := TX10) (N := 25) (ci := 12) (r := (some b)) (v := va_rf v3) hx hb hfX10 hown hK hI rfl 3 (by decide) (hts (.fieldLink RX10 7 "CashPoolsModel" "z" "[J") (List.mem_of_getElem? (i := 1) (by decide +kernel))) (fun _ h => h) hv3 dX10_passDays_16 ?_
    refine lv_bipush (v := (108)) hx hb dX10_passDays_19 (by decide) ?_
    obtain ⟨v4, hv4, hw⟩ := hw
    refine j_laldz (r := v3) hx hb hK hI hv4 dX10_passDays_21 ?_
    refine lv_iload_n hx hb dX10_passDays_22 rfl (lv_at hl 1 rfl) ?_
    refine lv_i2l hx hb dX10_passDays_23 rfl ?_
    refine lv_ladd hx hb dX10_passDays_24 ?_
    refine lv_ldc2 (v := (400)) hx hb hown (hts (.constantLong RX10 190 (400)) (List.mem_of_getElem? (i := 2) (by decide +kernel))) dX10_passDays_25 ?_
    refine j_lcmp_le (tgt := 36) hx hb dX10_passDays_28 dX10_passDays_29 (by decide) (fun hc => ?_) (fun hc => ?_)
    · have hw := hw.1 hc
      refine lv_iconst (v := (0)) hx hb dX10_passDays_36 (by decide) ?_
      exact kX10_passDays_37 hX  hw hI (lv_sub hl [0, 1] rfl) (by omega) (by omega)
    · have hw := hw.2 hc
      refine lv_iconst (v := (2)) hx hb dX10_passDays_32 (by decide) ?_
      refine lv_goto (tgt := 37) hx hb dX10_passDays_33 (by decide) ?_
      exact kX10_passDays_37 hX  hw hI (lv_sub hl [0, 1] rfl) (by omega) (by omega)
  · have hw := hw.2 hc
    refine lv_iconst (v := (1)) hx hb dX10_passDays_11 (by decide) ?_
    refine lv_goto (tgt := 37) hx hb dX10_passDays_12 (by decide) ?_
    exact kX10_passDays_37 hX  hw hI (lv_sub hl [0, 1] rfl) (by omega) (by omega)
set_option maxHeartbeats 4000000 in
set_option maxRecDepth 100000 in
theorem kX10_passDays (l : Launch) (hfl : l.stackTraces = false) (D : jD) (z : Nat × Nat) (b : Nat) (x1 : Int32) (μ : jM) (sz : Nat) (Q : Int32 → jM → Prop) : Met l yX10_passDays wsX10_passDays rmX10_passDays (jPre2z D z μ sz [.ref b, .int x1] (wX10_passDays z b x1 μ Q)) (jRz jfI Q D z (jA z μ sz)) 0 0 (jA z μ sz) := by
  refine Met.ofW (cc := cX10_passDays) (maxL := 3) (ret := (some .int)) (by decide) rfl ?_
  intro p e s m args below meth c s₁ B hml hv
  obtain ⟨rfl, hsz, hH, hz0, hK, hG, hw⟩ := hv
  subst hsz
  have hX : jX2 D z (jA z μ s.heap.size) p l s m _ meth c yX10_passDays cX10_passDays 3 wsX10_passDays (some .int) := ⟨B.exec, B.bytes, hml, findClass_of_methodNamed B.named, atoms_spec (ws := wsX10_passDays) B.pre, B.returns, B.notSynchronized, (name_of_methodNamed B.named B.method).1, hK, hG, hfl⟩
  obtain ⟨ls, hg, hl⟩ : ∃ ls : Array Slot, entryFrame m ([.ref b, .int x1] : List Value).toArray 3 = F0 m 0 ls [] ∧ lv_has ls 3 [(0, va_rf (some b)), (1, .int x1)] := by
    exact ⟨_, lg_entry_eq .., lv_entry _ (n := 3) (Nat.le_of_ble_eq_true rfl)⟩
  rw [hg]
  exact kX10_passDays_0 hX hw (jIz.start hH hz0) (lv_sub hl [0, 1] rfl) (by decide) (by decide)
set_option maxHeartbeats 4000000 in
set_option maxRecDepth 100000 in
theorem kX10_book_29 {b : Nat} (hX : jX2 D z A p l s m args meth c yX10_book cX10_book 3 wsX10_book (some .long)) {Q : Int64 → jM → Prop}  {x1 : Int32} {x2 : Int32} {t0 : Option Nat} {t1 : Int32} {μ : jM} {H : Heap} {locs : List Loc} {ls : Array Slot} {cells slots : Nat} (hw : wX10_book_29 z b Q x1 x2 t0 t1 μ) (hI : jIz D z A s.heap μ H locs) (hl : lv_has ls 3 [(0, va_rf (some b)), (1, .int x1), (2, .int x2)]) (hcn : cells + 0 ≤ 0) (hsn : slots + 0 ≤ 0) : W p l e rmX10_book s m args below meth c H locs cells slots (MQ below (jRz jfJ Q D z A) args s 0 0 A) (F0 m 29 ls [.int t1, va_rf t0]) := by
  unfold wX10_book_29 at hw
  obtain ⟨hx, hb, hml, hown, hts, hr, hlocks, hnm, hK, hG, hfl⟩ := id hX
  have hown : s.vm.findClass RX10 = some m.cls := hown
  have hfX10 : ∀ w ∈ wsX100, w.before args s = true := fun w h => hts w (List.mem_cons_of_mem _ (List.mem_append_right _ h))
  obtain ⟨b3, ⟨hrb3, hfs⟩, hw⟩ := hw
  refine j_goz hI (va_runV (As := [.int t1]) (rest := []) ⟨hx, hb, hml, hown, hts⟩ (kX10_can l hfl D z b3 t1 μ H.size _) (cwV 1 hts gX10_book_X10_can rfl rfl rfl (by decide +kernel) ⟨Nat.le_of_ble_eq_true rfl, Nat.le_of_ble_eq_true rfl⟩) (j_prV2z hK hG hI hw (ci := 12) rfl hfs) rfl rfl hl.1 (by rw [hrb3]; rfl) (lv_room (Nat.le_of_ble_eq_true rfl)) dX10_book_29 ⟨by show _ ≤ 0; omega, by show _ ≤ 0; omega⟩) (fun v1 μ2 H locs hw hI => ?_)
  refine W.eq (g2 := F0 m 32 ls [.int v1]) rfl ?_
  refine lv_if_ne (tgt := 37) hx hb dX10_book_32 (by decide) (fun hc => ?_) (fun hc => ?_)
  · have hw := hw.1 hc
    refine j_aload_n (r := (some b)) hx hb dX10_book_37 rfl (lv_at hl 0 rfl) ?_
    obtain ⟨v4, hv4, hw⟩ := hw
    refine j_getz (C := RX10) (T := TX10) (N := 25) (ci := 12) (r := (some b)) (v := va_rf v4) hx hb hfX10 hown hK hI rfl 3 (by decide) (hts (.fieldLink RX10 7 "CashPoolsModel" "z" "[J") (List.mem_of_getElem? (i := 1) (by decide +kernel))) (fun _ h => h) hv4 dX10_book_38 ?_
    refine lv_iconst (v := (0)) hx hb dX10_book_41 (by decide) ?_
    refine lv_iload_n hx hb dX10_book_42 rfl (lv_at hl 1 rfl) ?_
    refine lv_iadd hx hb dX10_book_43 ?_
    refine lv_dup2_11 hx hb dX10_book_44 rfl (jrc v4) ?_
    obtain ⟨v5, hv5, hw⟩ := hw
    refine j_laldz (r := v4) hx hb hK hI hv5 dX10_book_45 ?_
    refine lv_iload_n hx hb dX10_book_46 rfl (lv_at hl 2 rfl) ?_
    refine lv_i2l hx hb dX10_book_47 rfl ?_
    refine lv_ladd hx hb dX10_book_48 ?_
    obtain ⟨μ6, hμ6, hw⟩ := hw
    refine j_lastz (r := v4) hx hb hK hI hμ6 dX10_book_49 (fun H locs hI => ?_)
    refine j_aload_n (r := (some b)) hx hb dX10_book_50 rfl (lv_at hl 0 rfl) ?_
    obtain ⟨v7, hv7, hw⟩ := hw
    refine j_getz (C := RX10) (T := TX10) (N := 25) (ci := 12) (r := (some b)) (v := va_rf v7) hx hb hfX10 hown hK hI rfl 3 (by decide) (hts (.fieldLink RX10 7 "CashPoolsModel" "z" "[J") (List.mem_of_getElem? (i := 1) (by decide +kernel))) (fun _ h => h) hv7 dX10_book_51 ?_
    refine lv_iconst (v := (0)) hx hb dX10_book_54 (by decide) ?_
    refine lv_iload_n hx hb dX10_book_55 rfl (lv_at hl 1 rfl) ?_
    refine lv_iadd hx hb dX10_book_56 ?_
    obtain ⟨v8, hv8, hw⟩ := hw
    refine j_laldz (r := v7) hx hb hK hI hv8 dX10_book_57 ?_
    exact j_lretz hx hb hr hlocks hI hw (by omega) (by omega) dX10_book_58
  · have hw := hw.2 hc
    refine lv_lconst (v := (0)) hx hb dX10_book_35 (by decide) ?_
    exact j_lretz hx hb hr hlocks hI hw (by omega) (by omega) dX10_book_36
set_option maxHeartbeats 4000000 in
set_option maxRecDepth 100000 in
theorem kX10_book_24 {b : Nat} (hX : jX2 D z A p l s m args meth c yX10_book cX10_book 3 wsX10_book (some .long)) {Q : Int64 → jM → Prop}  {x1 : Int32} {x2 : Int32} {t0 : Option Nat} {μ : jM} {H : Heap} {locs : List Loc} {ls : Array Slot} {cells slots : Nat} (hw : wX10_book_24 z b Q x1 x2 t0 μ) (hI : jIz D z A s.heap μ H locs) (hl : lv_has ls 3 [(0, va_rf (some b)), (1, .int x1), (2, .int x2)]) (hcn : cells + 0 ≤ 0) (hsn : slots + 0 ≤ 0) : W p l e rmX10_book s m args below meth c H locs cells slots (MQ below (jRz jfJ Q D z A) args s 0 0 A) (F0 m 24 ls [va_rf t0]) := by
  unfold wX10_book_24 at hw
  obtain ⟨hx, hb, hml, hown, hts, hr, hlocks, hnm, hK, hG, hfl⟩ := id hX
  have hown : s.vm.findClass RX10 = some m.cls := hown
  refine lv_iconst (v := (2)) hx hb dX10_book_24 (by decide) ?_
  refine lv_goto (tgt := 29) hx hb dX10_book_25 (by decide) ?_
  exact kX10_book_29 hX  hw hI (lv_sub hl [0, 1, 2] rfl) (by omega) (by omega)
set_option maxHeartbeats 4000000 in
set_option maxRecDepth 100000 in
theorem kX10_book_0 {b : Nat} (hX : jX2 D z A p l s m args meth c yX10_book cX10_book 3 wsX10_book (some .long)) {Q : Int64 → jM → Prop}  {x1 : Int32} {x2 : Int32} {μ : jM} {H : Heap} {locs : List Loc} {ls : Array Slot} {cells slots : Nat} (hw : wX10_book_0 z b Q x1 x2 μ) (hI : jIz D z A s.heap μ H locs) (hl : lv_has ls 3 [(0, va_rf (some b)), (1, .int x1), (2, .int x2)]) (hcn : cells + 0 ≤ 0) (hsn : slots + 0 ≤ 0) : W p l e rmX10_book s m args below meth c H locs cells slots (MQ below (jRz jfJ Q D z A) args s 0 0 A) (F0 m 0 ls []) := by
  unfold wX10_book_0 at hw
  obtain ⟨hx, hb, hml, hown, hts, hr, hlocks, hnm, hK, hG, hfl⟩ := id hX
  have hown : s.vm.findClass RX10 = some m.cls := hown
  refine j_aload_n (r := (some b)) hx hb dX10_book_0 rfl (lv_at hl 0 rfl) ?_
  refine j_aload_n (r := (some b)) hx hb dX10_book_1 rfl (lv_at hl 0 rfl) ?_
  refine lv_iload_n hx hb dX10_book_2 rfl (lv_at hl 1 rfl) ?_
  obtain ⟨hfs, hw⟩ := hw
  refine j_goz hI (va_runV (As := [.int x1]) (rest := [va_rf (some b)]) ⟨hx, hb, hml, hown, hts⟩ (kX10_isAccount l hfl D z b x1 μ H.size _) (cwV 1 hts gX10_book_X10_isAccount rfl rfl rfl (by decide +kernel) ⟨Nat.le_of_ble_eq_true rfl, Nat.le_of_ble_eq_true rfl⟩) (j_prV2z hK hG hI hw (ci := 12) rfl hfs) rfl rfl hl.1 rfl (lv_room (Nat.le_of_ble_eq_true rfl)) dX10_book_3 ⟨by show _ ≤ 0; omega, by show _ ≤ 0; omega⟩) (fun v1 μ2 H locs hw hI => ?_)
  refine W.eq (g2 := F0 m 6 ls [.int v1, va_rf (some b)]) rfl ?_
  refine lv_if_ne (tgt := 13) hx hb dX10_book_6 (by decide) (fun hc => ?_) (fun hc => ?_)
  · have hw := hw.1 hc
    refine lv_iload_n hx hb dX10_book_13 rfl (lv_at hl 2 rfl) ?_
    refine j_goz hI (va_runS (As := [.int x2]) (rest := [va_rf (some b)]) ⟨hx, hb, hml, hown, hts⟩ (kX10_isAmount l hfl D z x2 μ2 H.size _) (va_cwS 1 hts gX10_book_X10_isAmount rfl rfl rfl (by decide +kernel) ⟨Nat.le_of_ble_eq_true rfl, Nat.le_of_ble_eq_true rfl⟩) (j_prS2z hK hG hI hw) rfl rfl hl.1 rfl (lv_room (Nat.le_of_ble_eq_true rfl)) dX10_book_14 ⟨by show _ ≤ 0; omega, by show _ ≤ 0; omega⟩) (fun v3 μ4 H locs hw hI => ?_)
    refine W.eq (g2 := F0 m 17 ls [.int v3, va_rf (some b)]) rfl ?_
    refine lv_if_eq (tgt := 24) hx hb dX10_book_17 (by decide) (fun hc => ?_) (fun hc => ?_)
    · have hw := hw.1 hc
      exact kX10_book_24 hX  hw hI (lv_sub hl [0, 1, 2] rfl) (by omega) (by omega)
    · have hw := hw.2 hc
      refine lv_iload_n hx hb dX10_book_20 rfl (lv_at hl 2 rfl) ?_
      refine lv_if_ne (tgt := 28) hx hb dX10_book_21 (by decide) (fun hc => ?_) (fun hc => ?_)
      · have hw := hw.1 hc
        refine lv_iconst (v := (0)) hx hb dX10_book_28 (by decide) ?_
        exact kX10_book_29 hX  hw hI (lv_sub hl [0, 1, 2] rfl) (by omega) (by omega)
      · have hw := hw.2 hc
        exact kX10_book_24 hX  hw hI (lv_sub hl [0, 1, 2] rfl) (by omega) (by omega)
  · have hw := hw.2 hc
    refine lv_iconst (v := (1)) hx hb dX10_book_9 (by decide) ?_
    refine lv_goto (tgt := 29) hx hb dX10_book_10 (by decide) ?_
    exact kX10_book_29 hX  hw hI (lv_sub hl [0, 1, 2] rfl) (by omega) (by omega)
set_option maxHeartbeats 4000000 in
set_option maxRecDepth 100000 in
theorem kX10_book (l : Launch) (hfl : l.stackTraces = false) (D : jD) (z : Nat × Nat) (b : Nat) (x1 : Int32) (x2 : Int32) (μ : jM) (sz : Nat) (Q : Int64 → jM → Prop) : Met l yX10_book wsX10_book rmX10_book (jPre2z D z μ sz [.ref b, .int x1, .int x2] (wX10_book z b x1 x2 μ Q)) (jRz jfJ Q D z (jA z μ sz)) 0 0 (jA z μ sz) := by
  refine Met.ofW (cc := cX10_book) (maxL := 3) (ret := (some .long)) (by decide) rfl ?_
  intro p e s m args below meth c s₁ B hml hv
  obtain ⟨rfl, hsz, hH, hz0, hK, hG, hw⟩ := hv
  subst hsz
  have hX : jX2 D z (jA z μ s.heap.size) p l s m _ meth c yX10_book cX10_book 3 wsX10_book (some .long) := ⟨B.exec, B.bytes, hml, findClass_of_methodNamed B.named, atoms_spec (ws := wsX10_book) B.pre, B.returns, B.notSynchronized, (name_of_methodNamed B.named B.method).1, hK, hG, hfl⟩
  obtain ⟨ls, hg, hl⟩ : ∃ ls : Array Slot, entryFrame m ([.ref b, .int x1, .int x2] : List Value).toArray 3 = F0 m 0 ls [] ∧ lv_has ls 3 [(0, va_rf (some b)), (1, .int x1), (2, .int x2)] := by
    exact ⟨_, lg_entry_eq .., lv_entry _ (n := 3) (Nat.le_of_ble_eq_true rfl)⟩
  rw [hg]
  exact kX10_book_0 hX hw (jIz.start hH hz0) (lv_sub hl [0, 1, 2] rfl) (by decide) (by decide)
end
