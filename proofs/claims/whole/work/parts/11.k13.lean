section
variable {p : Program} {l : Launch} {e : Env} {s : State} {m : MethodId} {args : Array Value} {below : List Frame} {meth : Method} {c : Code} {D : jD} {z : Nat × Nat} {A : Nat → Prop}
set_option maxHeartbeats 4000000 in
set_option maxRecDepth 100000 in
theorem kX10_ease_87 {b : Nat} (hX : jX2 D z A p l s m args meth c yX10_ease cX10_ease 5 wsX10_ease none) {Q : Unit → jM → Prop} {K5 : Int32 → jM → Prop} (hK5 : ∀ {x1 : Int32} {μ : jM} {H : Heap} {locs : List Loc} {ls : Array Slot} {cells slots : Nat}, K5 x1 μ → jIz D z A s.heap μ H locs → lv_has ls 5 [(0, va_rf (some b)), (1, .int x1)] → cells + 0 ≤ 0 → slots + 0 ≤ 0 → W p l e rmX10_ease s m args below meth c H locs cells slots (MQ below (jRz jfV Q D z A) args s 0 0 A) (F0 m 5 ls [])) {x1 : Int32} {x2 : Int32} {t0 : Int64} {μ : jM} {H : Heap} {locs : List Loc} {ls : Array Slot} {cells slots : Nat} (hw : wX10_ease_87 z b K5 Q x1 x2 t0 μ) (hI : jIz D z A s.heap μ H locs) (hl : lv_has ls 5 [(0, va_rf (some b)), (1, .int x1), (2, .int x2)]) (hcn : cells + 0 ≤ 0) (hsn : slots + 0 ≤ 0) : W p l e rmX10_ease s m args below meth c H locs cells slots (MQ below (jRz jfV Q D z A) args s 0 0 A) (F0 m 87 ls [.long t0]) := by
  unfold wX10_ease_87 at hw
  obtain ⟨hx, hb, hml, hown, hts, hr, hlocks, hnm, hK, hG, hfl⟩ := id hX
  have hown : s.vm.findClass RX10 = some m.cls := hown
  refine lv_lstore_n (lv' := [(3, .long t0), (0, va_rf (some b)), (1, .int x1), (2, .int x2)]) hx hb dX10_ease_87 rfl hl (by decide) rfl (fun ls hl => ?_)
  refine j_aload_n (r := (some b)) hx hb dX10_ease_88 rfl (lv_at hl 1 rfl) ?_
  refine lv_iload_n hx hb dX10_ease_89 rfl (lv_at hl 2 rfl) ?_
  refine lv_iload_n hx hb dX10_ease_90 rfl (lv_at hl 3 rfl) ?_
  refine lv_lload_n hx hb dX10_ease_91 rfl (lv_at hl 0 rfl) ?_
  obtain ⟨hfs, hw⟩ := hw
  refine j_goz hI (va_runV (As := [.int x1, .int x2, .long t0]) (rest := []) ⟨hx, hb, hml, hown, hts⟩ (kX10_moves l hfl D z b x1 x2 t0 μ H.size _) (cwV 3 hts gX10_ease_X10_moves rfl rfl rfl (by decide +kernel) ⟨Nat.le_of_ble_eq_true rfl, Nat.le_of_ble_eq_true rfl⟩) (j_prV2z hK hG hI hw (ci := 12) rfl hfs) rfl rfl hl.1 rfl (lv_room (Nat.le_of_ble_eq_true rfl)) dX10_ease_92 ⟨by show _ ≤ 0; omega, by show _ ≤ 0; omega⟩) (fun u1 μ2 H locs hw hI => ?_)
  refine W.eq (g2 := F0 m 95 ls []) rfl ?_
  refine j_aload_n (r := (some b)) hx hb dX10_ease_95 rfl (lv_at hl 1 rfl) ?_
  obtain ⟨hfs, hw⟩ := hw
  refine j_goz hI (va_runV (As := []) (rest := []) ⟨hx, hb, hml, hown, hts⟩ (kX10_giver l hfl D z b  μ2 H.size _) (cwV 0 hts gX10_ease_X10_giver rfl rfl rfl (by decide +kernel) ⟨Nat.le_of_ble_eq_true rfl, Nat.le_of_ble_eq_true rfl⟩) (j_prV2z hK hG hI hw (ci := 12) rfl hfs) rfl rfl hl.1 rfl (lv_room (Nat.le_of_ble_eq_true rfl)) dX10_ease_96 ⟨by show _ ≤ 0; omega, by show _ ≤ 0; omega⟩) (fun v3 μ4 H locs hw hI => ?_)
  refine W.eq (g2 := F0 m 99 ls [.int v3]) rfl ?_
  refine lv_istore_n (lv' := [(1, .int v3), (3, .long t0), (0, va_rf (some b)), (2, .int x2)]) hx hb dX10_ease_99 rfl hl (by decide) rfl (fun ls hl => ?_)
  refine lv_goto (tgt := 5) hx hb dX10_ease_100 (by decide) ?_
  exact hK5 hw hI (lv_sub hl [2, 0] rfl) (by omega) (by omega)
set_option maxHeartbeats 4000000 in
set_option maxRecDepth 100000 in
theorem kX10_ease_57 {b : Nat} (hX : jX2 D z A p l s m args meth c yX10_ease cX10_ease 5 wsX10_ease none) {Q : Unit → jM → Prop} {K5 : Int32 → jM → Prop} (hK5 : ∀ {x1 : Int32} {μ : jM} {H : Heap} {locs : List Loc} {ls : Array Slot} {cells slots : Nat}, K5 x1 μ → jIz D z A s.heap μ H locs → lv_has ls 5 [(0, va_rf (some b)), (1, .int x1)] → cells + 0 ≤ 0 → slots + 0 ≤ 0 → W p l e rmX10_ease s m args below meth c H locs cells slots (MQ below (jRz jfV Q D z A) args s 0 0 A) (F0 m 5 ls [])) {x1 : Int32} {x2 : Int32} {t0 : Int64} {μ : jM} {H : Heap} {locs : List Loc} {ls : Array Slot} {cells slots : Nat} (hw : wX10_ease_57 z b K5 Q x1 x2 t0 μ) (hI : jIz D z A s.heap μ H locs) (hl : lv_has ls 5 [(0, va_rf (some b)), (1, .int x1), (2, .int x2)]) (hcn : cells + 0 ≤ 0) (hsn : slots + 0 ≤ 0) : W p l e rmX10_ease s m args below meth c H locs cells slots (MQ below (jRz jfV Q D z A) args s 0 0 A) (F0 m 57 ls [.long t0]) := by
  unfold wX10_ease_57 at hw
  obtain ⟨hx, hb, hml, hown, hts, hr, hlocks, hnm, hK, hG, hfl⟩ := id hX
  have hown : s.vm.findClass RX10 = some m.cls := hown
  have hfX10 : ∀ w ∈ wsX100, w.before args s = true := fun w h => hts w (List.mem_cons_of_mem _ (List.mem_append_right _ h))
  refine lv_lstore_n (lv' := [(3, .long t0), (0, va_rf (some b)), (1, .int x1), (2, .int x2)]) hx hb dX10_ease_57 rfl hl (by decide) rfl (fun ls hl => ?_)
  refine j_aload_n (r := (some b)) hx hb dX10_ease_58 rfl (lv_at hl 1 rfl) ?_
  refine j_aload_n (r := (some b)) hx hb dX10_ease_59 rfl (lv_at hl 1 rfl) ?_
  obtain ⟨v1, hv1, hw⟩ := hw
  refine j_getz (C := RX10) (T := TX10) (N := 25) (ci := 12) (r := (some b)) (v := va_rf v1) hx hb hfX10 hown hK hI rfl 7 (by decide) (hts (.fieldLink RX10 23 "CashPoolsModel" "bank" "[I") (List.mem_of_getElem? (i := 2) (by decide +kernel))) (fun _ h => h) hv1 dX10_ease_60 ?_
  refine lv_iload_n hx hb dX10_ease_63 rfl (lv_at hl 3 rfl) ?_
  obtain ⟨v2, hv2, hw⟩ := hw
  refine j_ialdz (r := v1) hx hb hK hI hv2 dX10_ease_64 ?_
  obtain ⟨hfs, hw⟩ := hw
  refine j_goz hI (va_runV (As := [.int v2]) (rest := []) ⟨hx, hb, hml, hown, hts⟩ (kX10_room l hfl D z b v2 μ H.size _) (cwV 1 hts gX10_ease_X10_room rfl rfl rfl (by decide +kernel) ⟨Nat.le_of_ble_eq_true rfl, Nat.le_of_ble_eq_true rfl⟩) (j_prV2z hK hG hI hw (ci := 12) rfl hfs) rfl rfl hl.1 rfl (lv_room (Nat.le_of_ble_eq_true rfl)) dX10_ease_65 ⟨by show _ ≤ 0; omega, by show _ ≤ 0; omega⟩) (fun v3 μ4 H locs hw hI => ?_)
  refine W.eq (g2 := F0 m 68 ls [.long v3]) rfl ?_
  refine lv_lload_n hx hb dX10_ease_68 rfl (lv_at hl 0 rfl) ?_
  refine j_lcmp_ge (tgt := 86) hx hb dX10_ease_69 dX10_ease_70 (by decide) (fun hc => ?_) (fun hc => ?_)
  · have hw := hw.1 hc
    refine lv_lload_n hx hb dX10_ease_86 rfl (lv_at hl 0 rfl) ?_
    exact kX10_ease_87 hX hK5 hw hI (lv_sub hl [1, 2, 3] rfl) (by omega) (by omega)
  · have hw := hw.2 hc
    refine j_aload_n (r := (some b)) hx hb dX10_ease_73 rfl (lv_at hl 1 rfl) ?_
    refine j_aload_n (r := (some b)) hx hb dX10_ease_74 rfl (lv_at hl 1 rfl) ?_
    obtain ⟨v5, hv5, hw⟩ := hw
    refine j_getz (C := RX10) (T := TX10) (N := 25) (ci := 12) (r := (some b)) (v := va_rf v5) hx hb hfX10 hown hK hI rfl 7 (by decide) (hts (.fieldLink RX10 23 "CashPoolsModel" "bank" "[I") (List.mem_of_getElem? (i := 2) (by decide +kernel))) (fun _ h => h) hv5 dX10_ease_75 ?_
    refine lv_iload_n hx hb dX10_ease_78 rfl (lv_at hl 3 rfl) ?_
    obtain ⟨v6, hv6, hw⟩ := hw
    refine j_ialdz (r := v5) hx hb hK hI hv6 dX10_ease_79 ?_
    obtain ⟨hfs, hw⟩ := hw
    refine j_goz hI (va_runV (As := [.int v6]) (rest := []) ⟨hx, hb, hml, hown, hts⟩ (kX10_room l hfl D z b v6 μ4 H.size _) (cwV 1 hts gX10_ease_X10_room rfl rfl rfl (by decide +kernel) ⟨Nat.le_of_ble_eq_true rfl, Nat.le_of_ble_eq_true rfl⟩) (j_prV2z hK hG hI hw (ci := 12) rfl hfs) rfl rfl hl.1 rfl (lv_room (Nat.le_of_ble_eq_true rfl)) dX10_ease_80 ⟨by show _ ≤ 0; omega, by show _ ≤ 0; omega⟩) (fun v7 μ8 H locs hw hI => ?_)
    refine W.eq (g2 := F0 m 83 ls [.long v7]) rfl ?_
    refine lv_goto (tgt := 87) hx hb dX10_ease_83 (by decide) ?_
    exact kX10_ease_87 hX hK5 hw hI (lv_sub hl [1, 2, 3] rfl) (by omega) (by omega)
set_option maxHeartbeats 4000000 in
set_option maxRecDepth 100000 in
theorem kX10_ease_5 {b : Nat} (hX : jX2 D z A p l s m args meth c yX10_ease cX10_ease 5 wsX10_ease none) {Q : Unit → jM → Prop}  (n : Nat) : ∀ {x1 : Int32} {μ : jM} {H : Heap} {locs : List Loc} {ls : Array Slot} {cells slots : Nat}, wX10_ease_5 z b Q n x1 μ → jIz D z A s.heap μ H locs → lv_has ls 5 [(0, va_rf (some b)), (1, .int x1)] → cells + 0 ≤ 0 → slots + 0 ≤ 0 → W p l e rmX10_ease s m args below meth c H locs cells slots (MQ below (jRz jfV Q D z A) args s 0 0 A) (F0 m 5 ls []) := by
  induction n with
  | zero =>
    intros
    rename_i hw _ _ _ _
    exact (show False from hw).elim
  | succ n ih =>
    intro x1 μ H locs ls cells slots hw hI hl hcn hsn
    have hw : wX10_ease_5_b z b Q (wX10_ease_5 z b Q n) x1 μ := hw
    unfold wX10_ease_5_b at hw
    obtain ⟨hx, hb, hml, hown, hts, hr, hlocks, hnm, hK, hG, hfl⟩ := id hX
    have hown : s.vm.findClass RX10 = some m.cls := hown
    have hfX10 : ∀ w ∈ wsX100, w.before args s = true := fun w h => hts w (List.mem_cons_of_mem _ (List.mem_append_right _ h))
    refine lv_iload_n hx hb dX10_ease_5 rfl (lv_at hl 1 rfl) ?_
    refine lv_iconst (v := (-1)) hx hb dX10_ease_6 (by decide) ?_
    refine lv_icmp_eq (tgt := 103) hx hb dX10_ease_7 (by decide) (fun hc => ?_) (fun hc => ?_)
    · have hw := hw.1 hc
      exact j_vretz hx hb hr hlocks hI hw (by omega) (by omega) dX10_ease_103
    · have hw := hw.2 hc
      refine j_aload_n (r := (some b)) hx hb dX10_ease_10 rfl (lv_at hl 0 rfl) ?_
      refine j_aload_n (r := (some b)) hx hb dX10_ease_11 rfl (lv_at hl 0 rfl) ?_
      obtain ⟨v1, hv1, hw⟩ := hw
      refine j_getz (C := RX10) (T := TX10) (N := 25) (ci := 12) (r := (some b)) (v := va_rf v1) hx hb hfX10 hown hK hI rfl 6 (by decide) (hts (.fieldLink RX10 20 "CashPoolsModel" "top" "[I") (List.mem_of_getElem? (i := 1) (by decide +kernel))) (fun _ h => h) hv1 dX10_ease_12 ?_
      refine lv_iload_n hx hb dX10_ease_15 rfl (lv_at hl 1 rfl) ?_
      obtain ⟨v2, hv2, hw⟩ := hw
      refine j_ialdz (r := v1) hx hb hK hI hv2 dX10_ease_16 ?_
      obtain ⟨hfs, hw⟩ := hw
      refine j_goz hI (va_runV (As := [.int v2]) (rest := []) ⟨hx, hb, hml, hown, hts⟩ (kX10_getter l hfl D z b v2 μ H.size _) (cwV 1 hts gX10_ease_X10_getter rfl rfl rfl (by decide +kernel) ⟨Nat.le_of_ble_eq_true rfl, Nat.le_of_ble_eq_true rfl⟩) (j_prV2z hK hG hI hw (ci := 12) rfl hfs) rfl rfl hl.1 rfl (lv_room (Nat.le_of_ble_eq_true rfl)) dX10_ease_17 ⟨by show _ ≤ 0; omega, by show _ ≤ 0; omega⟩) (fun v3 μ4 H locs hw hI => ?_)
      refine W.eq (g2 := F0 m 20 ls [.int v3]) rfl ?_
      refine lv_istore_n (lv' := [(2, .int v3), (0, va_rf (some b)), (1, .int x1)]) hx hb dX10_ease_20 rfl hl (by decide) rfl (fun ls hl => ?_)
      refine j_aload_n (r := (some b)) hx hb dX10_ease_21 rfl (lv_at hl 1 rfl) ?_
      refine j_aload_n (r := (some b)) hx hb dX10_ease_22 rfl (lv_at hl 1 rfl) ?_
      obtain ⟨v5, hv5, hw⟩ := hw
      refine j_getz (C := RX10) (T := TX10) (N := 25) (ci := 12) (r := (some b)) (v := va_rf v5) hx hb hfX10 hown hK hI rfl 7 (by decide) (hts (.fieldLink RX10 23 "CashPoolsModel" "bank" "[I") (List.mem_of_getElem? (i := 2) (by decide +kernel))) (fun _ h => h) hv5 dX10_ease_23 ?_
      refine lv_iload_n hx hb dX10_ease_26 rfl (lv_at hl 2 rfl) ?_
      obtain ⟨v6, hv6, hw⟩ := hw
      refine j_ialdz (r := v5) hx hb hK hI hv6 dX10_ease_27 ?_
      obtain ⟨hfs, hw⟩ := hw
      refine j_goz hI (va_runV (As := [.int v6]) (rest := []) ⟨hx, hb, hml, hown, hts⟩ (kX10_excess l hfl D z b v6 μ4 H.size _) (cwV 1 hts gX10_ease_X10_excess rfl rfl rfl (by decide +kernel) ⟨Nat.le_of_ble_eq_true rfl, Nat.le_of_ble_eq_true rfl⟩) (j_prV2z hK hG hI hw (ci := 12) rfl hfs) rfl rfl hl.1 rfl (lv_room (Nat.le_of_ble_eq_true rfl)) dX10_ease_28 ⟨by show _ ≤ 0; omega, by show _ ≤ 0; omega⟩) (fun v7 μ8 H locs hw hI => ?_)
      refine W.eq (g2 := F0 m 31 ls [.long v7]) rfl ?_
      refine lv_lstore_n (lv' := [(3, .long v7), (2, .int v3), (0, va_rf (some b)), (1, .int x1)]) hx hb dX10_ease_31 rfl hl (by decide) rfl (fun ls hl => ?_)
      refine j_aload_n (r := (some b)) hx hb dX10_ease_32 rfl (lv_at hl 2 rfl) ?_
      obtain ⟨v9, hv9, hw⟩ := hw
      refine j_getz (C := RX10) (T := TX10) (N := 25) (ci := 12) (r := (some b)) (v := va_rf v9) hx hb hfX10 hown hK hI rfl 3 (by decide) (hts (.fieldLink RX10 7 "CashPoolsModel" "z" "[J") (List.mem_of_getElem? (i := 3) (by decide +kernel))) (fun _ h => h) hv9 dX10_ease_33 ?_
      refine lv_iconst (v := (0)) hx hb dX10_ease_36 (by decide) ?_
      refine lv_iload_n hx hb dX10_ease_37 rfl (lv_at hl 3 rfl) ?_
      refine lv_iadd hx hb dX10_ease_38 ?_
      obtain ⟨v10, hv10, hw⟩ := hw
      refine j_laldz (r := v9) hx hb hK hI hv10 dX10_ease_39 ?_
      refine lv_lload_n hx hb dX10_ease_40 rfl (lv_at hl 0 rfl) ?_
      refine j_lcmp_ge (tgt := 56) hx hb dX10_ease_41 dX10_ease_42 (by decide) (fun hc => ?_) (fun hc => ?_)
      · have hw := hw.1 hc
        refine lv_lload_n hx hb dX10_ease_56 rfl (lv_at hl 0 rfl) ?_
        exact kX10_ease_57 hX ih hw hI (lv_sub hl [2, 3, 1] rfl) (by omega) (by omega)
      · have hw := hw.2 hc
        refine j_aload_n (r := (some b)) hx hb dX10_ease_45 rfl (lv_at hl 2 rfl) ?_
        obtain ⟨v11, hv11, hw⟩ := hw
        refine j_getz (C := RX10) (T := TX10) (N := 25) (ci := 12) (r := (some b)) (v := va_rf v11) hx hb hfX10 hown hK hI rfl 3 (by decide) (hts (.fieldLink RX10 7 "CashPoolsModel" "z" "[J") (List.mem_of_getElem? (i := 3) (by decide +kernel))) (fun _ h => h) hv11 dX10_ease_46 ?_
        refine lv_iconst (v := (0)) hx hb dX10_ease_49 (by decide) ?_
        refine lv_iload_n hx hb dX10_ease_50 rfl (lv_at hl 3 rfl) ?_
        refine lv_iadd hx hb dX10_ease_51 ?_
        obtain ⟨v12, hv12, hw⟩ := hw
        refine j_laldz (r := v11) hx hb hK hI hv12 dX10_ease_52 ?_
        refine lv_goto (tgt := 57) hx hb dX10_ease_53 (by decide) ?_
        exact kX10_ease_57 hX ih hw hI (lv_sub hl [2, 3, 1] rfl) (by omega) (by omega)
set_option maxHeartbeats 4000000 in
set_option maxRecDepth 100000 in
theorem kX10_ease_0 {b : Nat} (hX : jX2 D z A p l s m args meth c yX10_ease cX10_ease 5 wsX10_ease none) {Q : Unit → jM → Prop}   {μ : jM} {H : Heap} {locs : List Loc} {ls : Array Slot} {cells slots : Nat} (hw : wX10_ease_0 z b Q  μ) (hI : jIz D z A s.heap μ H locs) (hl : lv_has ls 5 [(0, va_rf (some b))]) (hcn : cells + 0 ≤ 0) (hsn : slots + 0 ≤ 0) : W p l e rmX10_ease s m args below meth c H locs cells slots (MQ below (jRz jfV Q D z A) args s 0 0 A) (F0 m 0 ls []) := by
  unfold wX10_ease_0 at hw
  obtain ⟨hx, hb, hml, hown, hts, hr, hlocks, hnm, hK, hG, hfl⟩ := id hX
  have hown : s.vm.findClass RX10 = some m.cls := hown
  refine j_aload_n (r := (some b)) hx hb dX10_ease_0 rfl (lv_at hl 0 rfl) ?_
  obtain ⟨hfs, hw⟩ := hw
  refine j_goz hI (va_runV (As := []) (rest := []) ⟨hx, hb, hml, hown, hts⟩ (kX10_giver l hfl D z b  μ H.size _) (cwV 0 hts gX10_ease_X10_giver rfl rfl rfl (by decide +kernel) ⟨Nat.le_of_ble_eq_true rfl, Nat.le_of_ble_eq_true rfl⟩) (j_prV2z hK hG hI hw (ci := 12) rfl hfs) rfl rfl hl.1 rfl (lv_room (Nat.le_of_ble_eq_true rfl)) dX10_ease_1 ⟨by show _ ≤ 0; omega, by show _ ≤ 0; omega⟩) (fun v1 μ2 H locs hw hI => ?_)
  refine W.eq (g2 := F0 m 4 ls [.int v1]) rfl ?_
  refine lv_istore_n (lv' := [(1, .int v1), (0, va_rf (some b))]) hx hb dX10_ease_4 rfl hl (by decide) rfl (fun ls hl => ?_)
  obtain ⟨n3, hw⟩ := hw
  exact kX10_ease_5 hX  n3 hw hI (lv_sub hl [1, 0] rfl) (by omega) (by omega)
set_option maxHeartbeats 4000000 in
set_option maxRecDepth 100000 in
theorem kX10_ease (l : Launch) (hfl : l.stackTraces = false) (D : jD) (z : Nat × Nat) (b : Nat)  (μ : jM) (sz : Nat) (Q : Unit → jM → Prop) : Met l yX10_ease wsX10_ease rmX10_ease (jPre2z D z μ sz [.ref b] (wX10_ease z b  μ Q)) (jRz jfV Q D z (jA z μ sz)) 0 0 (jA z μ sz) := by
  refine Met.ofW (cc := cX10_ease) (maxL := 5) (ret := none) (by decide) rfl ?_
  intro p e s m args below meth c s₁ B hml hv
  obtain ⟨rfl, hsz, hH, hz0, hK, hG, hw⟩ := hv
  subst hsz
  have hX : jX2 D z (jA z μ s.heap.size) p l s m _ meth c yX10_ease cX10_ease 5 wsX10_ease none := ⟨B.exec, B.bytes, hml, findClass_of_methodNamed B.named, atoms_spec (ws := wsX10_ease) B.pre, B.returns, B.notSynchronized, (name_of_methodNamed B.named B.method).1, hK, hG, hfl⟩
  obtain ⟨ls, hg, hl⟩ : ∃ ls : Array Slot, entryFrame m ([.ref b] : List Value).toArray 5 = F0 m 0 ls [] ∧ lv_has ls 5 [(0, va_rf (some b))] := by
    exact ⟨_, lg_entry_eq .., lv_entry _ (n := 5) (Nat.le_of_ble_eq_true rfl)⟩
  rw [hg]
  exact kX10_ease_0 hX hw (jIz.start hH hz0) (lv_sub hl [0] rfl) (by decide) (by decide)
set_option maxHeartbeats 4000000 in
set_option maxRecDepth 100000 in
theorem kX10_isBelow_22 {b : Nat} (hX : jX2 D z A p l s m args meth c yX10_isBelow cX10_isBelow 4 wsX10_isBelow (some .boolean)) {Q : Int32 → jM → Prop}  {x2 : Int32} {x3 : Int32} {μ : jM} {H : Heap} {locs : List Loc} {ls : Array Slot} {cells slots : Nat} (hw : wX10_isBelow_22 z b Q x2 x3 μ) (hI : jIz D z A s.heap μ H locs) (hl : lv_has ls 4 [(0, va_rf (some b)), (2, .int x2), (3, .int x3)]) (hcn : cells + 0 ≤ 0) (hsn : slots + 0 ≤ 0) : W p l e rmX10_isBelow s m args below meth c H locs cells slots (MQ below (jRz jfI Q D z A) args s 0 0 A) (F0 m 22 ls []) := by
  unfold wX10_isBelow_22 at hw
  obtain ⟨hx, hb, hml, hown, hts, hr, hlocks, hnm, hK, hG, hfl⟩ := id hX
  have hown : s.vm.findClass RX10 = some m.cls := hown
  refine lv_iload_n hx hb dX10_isBelow_22 rfl (lv_at hl 2 rfl) ?_
  refine lv_iload_n hx hb dX10_isBelow_23 rfl (lv_at hl 1 rfl) ?_
  refine lv_icmp_ne (tgt := 31) hx hb dX10_isBelow_24 (by decide) (fun hc => ?_) (fun hc => ?_)
  · have hw := hw.1 hc
    refine lv_iconst (v := (0)) hx hb dX10_isBelow_31 (by decide) ?_
    exact j_zretz hx hb hr rfl hlocks hI hw (by omega) (by omega) dX10_isBelow_32
  · have hw := hw.2 hc
    refine lv_iconst (v := (1)) hx hb dX10_isBelow_27 (by decide) ?_
    refine lv_goto (tgt := 32) hx hb dX10_isBelow_28 (by decide) ?_
    exact j_zretz hx hb hr rfl hlocks hI hw (by omega) (by omega) dX10_isBelow_32
set_option maxHeartbeats 4000000 in
set_option maxRecDepth 100000 in
theorem kX10_isBelow_2 {b : Nat} (hX : jX2 D z A p l s m args meth c yX10_isBelow cX10_isBelow 4 wsX10_isBelow (some .boolean)) {Q : Int32 → jM → Prop}  (n : Nat) : ∀ {x2 : Int32} {x3 : Int32} {μ : jM} {H : Heap} {locs : List Loc} {ls : Array Slot} {cells slots : Nat}, wX10_isBelow_2 z b Q n x2 x3 μ → jIz D z A s.heap μ H locs → lv_has ls 4 [(0, va_rf (some b)), (2, .int x2), (3, .int x3)] → cells + 0 ≤ 0 → slots + 0 ≤ 0 → W p l e rmX10_isBelow s m args below meth c H locs cells slots (MQ below (jRz jfI Q D z A) args s 0 0 A) (F0 m 2 ls []) := by
  induction n with
  | zero =>
    intros
    rename_i hw _ _ _ _
    exact (show False from hw).elim
  | succ n ih =>
    intro x2 x3 μ H locs ls cells slots hw hI hl hcn hsn
    have hw : wX10_isBelow_2_b z b Q (wX10_isBelow_2 z b Q n) x2 x3 μ := hw
    unfold wX10_isBelow_2_b at hw
    obtain ⟨hx, hb, hml, hown, hts, hr, hlocks, hnm, hK, hG, hfl⟩ := id hX
    have hown : s.vm.findClass RX10 = some m.cls := hown
    have hfX10 : ∀ w ∈ wsX100, w.before args s = true := fun w h => hts w (List.mem_cons_of_mem _ (List.mem_append_right _ h))
    refine lv_iload_n hx hb dX10_isBelow_2 rfl (lv_at hl 2 rfl) ?_
    refine lv_iload_n hx hb dX10_isBelow_3 rfl (lv_at hl 1 rfl) ?_
    refine lv_icmp_eq (tgt := 22) hx hb dX10_isBelow_4 (by decide) (fun hc => ?_) (fun hc => ?_)
    · have hw := hw.1 hc
      exact kX10_isBelow_22 hX  hw hI (lv_sub hl [0, 1, 2] rfl) (by omega) (by omega)
    · have hw := hw.2 hc
      refine lv_iload_n hx hb dX10_isBelow_7 rfl (lv_at hl 2 rfl) ?_
      refine lv_iconst (v := (-1)) hx hb dX10_isBelow_8 (by decide) ?_
      refine lv_icmp_eq (tgt := 22) hx hb dX10_isBelow_9 (by decide) (fun hc => ?_) (fun hc => ?_)
      · have hw := hw.1 hc
        exact kX10_isBelow_22 hX  hw hI (lv_sub hl [0, 1, 2] rfl) (by omega) (by omega)
      · have hw := hw.2 hc
        refine j_aload_n (r := (some b)) hx hb dX10_isBelow_12 rfl (lv_at hl 0 rfl) ?_
        obtain ⟨v1, hv1, hw⟩ := hw
        refine j_getz (C := RX10) (T := TX10) (N := 25) (ci := 12) (r := (some b)) (v := va_rf v1) hx hb hfX10 hown hK hI rfl 5 (by decide) (hts (.fieldLink RX10 16 "CashPoolsModel" "parent" "[I") (List.mem_of_getElem? (i := 1) (by decide +kernel))) (fun _ h => h) hv1 dX10_isBelow_13 ?_
        refine lv_iload_n hx hb dX10_isBelow_16 rfl (lv_at hl 2 rfl) ?_
        obtain ⟨v2, hv2, hw⟩ := hw
        refine j_ialdz (r := v1) hx hb hK hI hv2 dX10_isBelow_17 ?_
        refine lv_istore_n (lv' := [(3, .int v2), (0, va_rf (some b)), (2, .int x2)]) hx hb dX10_isBelow_18 rfl hl (by decide) rfl (fun ls hl => ?_)
        refine lv_goto (tgt := 2) hx hb dX10_isBelow_19 (by decide) ?_
        exact ih hw hI (lv_sub hl [1, 2, 0] rfl) (by omega) (by omega)
set_option maxHeartbeats 4000000 in
set_option maxRecDepth 100000 in
theorem kX10_isBelow_0 {b : Nat} (hX : jX2 D z A p l s m args meth c yX10_isBelow cX10_isBelow 4 wsX10_isBelow (some .boolean)) {Q : Int32 → jM → Prop}  {x1 : Int32} {x2 : Int32} {μ : jM} {H : Heap} {locs : List Loc} {ls : Array Slot} {cells slots : Nat} (hw : wX10_isBelow_0 z b Q x1 x2 μ) (hI : jIz D z A s.heap μ H locs) (hl : lv_has ls 4 [(0, va_rf (some b)), (1, .int x1), (2, .int x2)]) (hcn : cells + 0 ≤ 0) (hsn : slots + 0 ≤ 0) : W p l e rmX10_isBelow s m args below meth c H locs cells slots (MQ below (jRz jfI Q D z A) args s 0 0 A) (F0 m 0 ls []) := by
  unfold wX10_isBelow_0 at hw
  obtain ⟨hx, hb, hml, hown, hts, hr, hlocks, hnm, hK, hG, hfl⟩ := id hX
  have hown : s.vm.findClass RX10 = some m.cls := hown
  refine lv_iload_n hx hb dX10_isBelow_0 rfl (lv_at hl 1 rfl) ?_
  refine lv_istore_n (lv' := [(3, .int x1), (0, va_rf (some b)), (1, .int x1), (2, .int x2)]) hx hb dX10_isBelow_1 rfl hl (by decide) rfl (fun ls hl => ?_)
  obtain ⟨n1, hw⟩ := hw
  exact kX10_isBelow_2 hX  n1 hw hI (lv_sub hl [1, 3, 0] rfl) (by omega) (by omega)
set_option maxHeartbeats 4000000 in
set_option maxRecDepth 100000 in
theorem kX10_isBelow (l : Launch) (hfl : l.stackTraces = false) (D : jD) (z : Nat × Nat) (b : Nat) (x1 : Int32) (x2 : Int32) (μ : jM) (sz : Nat) (Q : Int32 → jM → Prop) : Met l yX10_isBelow wsX10_isBelow rmX10_isBelow (jPre2z D z μ sz [.ref b, .int x1, .int x2] (wX10_isBelow z b x1 x2 μ Q)) (jRz jfI Q D z (jA z μ sz)) 0 0 (jA z μ sz) := by
  refine Met.ofW (cc := cX10_isBelow) (maxL := 4) (ret := (some .boolean)) (by decide) rfl ?_
  intro p e s m args below meth c s₁ B hml hv
  obtain ⟨rfl, hsz, hH, hz0, hK, hG, hw⟩ := hv
  subst hsz
  have hX : jX2 D z (jA z μ s.heap.size) p l s m _ meth c yX10_isBelow cX10_isBelow 4 wsX10_isBelow (some .boolean) := ⟨B.exec, B.bytes, hml, findClass_of_methodNamed B.named, atoms_spec (ws := wsX10_isBelow) B.pre, B.returns, B.notSynchronized, (name_of_methodNamed B.named B.method).1, hK, hG, hfl⟩
  obtain ⟨ls, hg, hl⟩ : ∃ ls : Array Slot, entryFrame m ([.ref b, .int x1, .int x2] : List Value).toArray 4 = F0 m 0 ls [] ∧ lv_has ls 4 [(0, va_rf (some b)), (1, .int x1), (2, .int x2)] := by
    exact ⟨_, lg_entry_eq .., lv_entry _ (n := 4) (Nat.le_of_ble_eq_true rfl)⟩
  rw [hg]
  exact kX10_isBelow_0 hX hw (jIz.start hH hz0) (lv_sub hl [0, 1, 2] rfl) (by decide) (by decide)
set_option maxHeartbeats 4000000 in
set_option maxRecDepth 100000 in
theorem kX10_sumOf_5 {b : Nat} (hX : jX2 D z A p l s m args meth c yX10_sumOf cX10_sumOf 6 wsX10_sumOf (some .long)) {Q : Int64 → jM → Prop}  (n : Nat) : ∀ {x1 : Int32} {x2 : Int32} {x3 : Int64} {x5 : Int32} {μ : jM} {H : Heap} {locs : List Loc} {ls : Array Slot} {cells slots : Nat}, wX10_sumOf_5 z b Q n x1 x2 x3 x5 μ → jIz D z A s.heap μ H locs → lv_has ls 6 [(0, va_rf (some b)), (1, .int x1), (2, .int x2), (3, .long x3), (5, .int x5)] → cells + 0 ≤ 0 → slots + 0 ≤ 0 → W p l e rmX10_sumOf s m args below meth c H locs cells slots (MQ below (jRz jfJ Q D z A) args s 0 0 A) (F0 m 5 ls []) := by
  induction n with
  | zero =>
    intros
    rename_i hw _ _ _ _
    exact (show False from hw).elim
  | succ n ih =>
    intro x1 x2 x3 x5 μ H locs ls cells slots hw hI hl hcn hsn
    have hw : wX10_sumOf_5_b z b Q (wX10_sumOf_5 z b Q n) x1 x2 x3 x5 μ := hw
    unfold wX10_sumOf_5_b at hw
    obtain ⟨hx, hb, hml, hown, hts, hr, hlocks, hnm, hK, hG, hfl⟩ := id hX
    have hown : s.vm.findClass RX10 = some m.cls := hown
    have hfX10 : ∀ w ∈ wsX100, w.before args s = true := fun w h => hts w (List.mem_cons_of_mem _ (List.mem_append_right _ h))
    refine lv_iload hx hb dX10_sumOf_5 (lv_at hl 4 rfl) ?_
    refine j_aload_n (r := (some b)) hx hb dX10_sumOf_7 rfl (lv_at hl 0 rfl) ?_
    obtain ⟨v1, hv1, hw⟩ := hw
    refine j_getz (C := RX10) (T := TX10) (N := 25) (ci := 12) (r := (some b)) (v := .int v1) hx hb hfX10 hown hK hI rfl 0 (by decide) (hts (.fieldLink RX10 79 "CashPoolsModel" "accounts" "I") (List.mem_of_getElem? (i := 1) (by decide +kernel))) (fun _ h => h) hv1 dX10_sumOf_8 ?_
    refine lv_icmp_ge (tgt := 57) hx hb dX10_sumOf_11 (by decide) (fun hc => ?_) (fun hc => ?_)
    · have hw := hw.1 hc
      refine lv_lload_n hx hb dX10_sumOf_57 rfl (lv_at hl 3 rfl) ?_
      exact j_lretz hx hb hr hlocks hI hw (by omega) (by omega) dX10_sumOf_58
    · have hw := hw.2 hc
      refine lv_lload_n hx hb dX10_sumOf_14 rfl (lv_at hl 3 rfl) ?_
      refine j_aload_n (r := (some b)) hx hb dX10_sumOf_15 rfl (lv_at hl 0 rfl) ?_
      obtain ⟨v2, hv2, hw⟩ := hw
      refine j_getz (C := RX10) (T := TX10) (N := 25) (ci := 12) (r := (some b)) (v := va_rf v2) hx hb hfX10 hown hK hI rfl 6 (by decide) (hts (.fieldLink RX10 20 "CashPoolsModel" "top" "[I") (List.mem_of_getElem? (i := 2) (by decide +kernel))) (fun _ h => h) hv2 dX10_sumOf_16 ?_
      refine lv_iload hx hb dX10_sumOf_19 (lv_at hl 4 rfl) ?_
      obtain ⟨v3, hv3, hw⟩ := hw
      refine j_ialdz (r := v2) hx hb hK hI hv3 dX10_sumOf_21 ?_
      refine lv_iload_n hx hb dX10_sumOf_22 rfl (lv_at hl 1 rfl) ?_
      refine lv_icmp_ne (tgt := 48) hx hb dX10_sumOf_23 (by decide) (fun hc => ?_) (fun hc => ?_)
      · have hw := hw.1 hc
        refine lv_lconst (v := (0)) hx hb dX10_sumOf_48 (by decide) ?_
        refine lv_ladd hx hb dX10_sumOf_49 ?_
        refine lv_topl (fun v4 ev4 => ?_)
        have hw := hw v4 ev4
        refine lv_lstore_n (lv' := [(3, .long v4), (0, va_rf (some b)), (1, .int x1), (2, .int x2), (5, .int x5)]) hx hb dX10_sumOf_50 rfl hl (by decide) rfl (fun ls hl => ?_)
        obtain ⟨v5, ev5⟩ : ∃ y : Int32, y = x5 + (1 : Int32) := ⟨_, rfl⟩
        have hw := hw v5 ev5
        refine lv_iinc (v := v5) (lv' := [(5, .int v5), (3, .long v4), (0, va_rf (some b)), (1, .int x1), (2, .int x2)]) hx hb dX10_sumOf_51 hl (k := 4) rfl (by rw [ev5]; rfl) (by decide) rfl (fun ls hl => ?_)
        refine lv_goto (tgt := 5) hx hb dX10_sumOf_54 (by decide) ?_
        exact ih hw hI (lv_sub hl [2, 3, 4, 1, 0] rfl) (by omega) (by omega)
      · have hw := hw.2 hc
        refine j_aload_n (r := (some b)) hx hb dX10_sumOf_26 rfl (lv_at hl 0 rfl) ?_
        refine lv_iload hx hb dX10_sumOf_27 (lv_at hl 4 rfl) ?_
        refine lv_iload_n hx hb dX10_sumOf_29 rfl (lv_at hl 2 rfl) ?_
        obtain ⟨hfs, hw⟩ := hw
        refine j_goz hI (va_runV (As := [.int x5, .int x2]) (rest := [.long x3]) ⟨hx, hb, hml, hown, hts⟩ (kX10_isBelow l hfl D z b x5 x2 μ H.size _) (cwV 2 hts gX10_sumOf_X10_isBelow rfl rfl rfl (by decide +kernel) ⟨Nat.le_of_ble_eq_true rfl, Nat.le_of_ble_eq_true rfl⟩) (j_prV2z hK hG hI hw (ci := 12) rfl hfs) rfl rfl hl.1 rfl (lv_room (Nat.le_of_ble_eq_true rfl)) dX10_sumOf_30 ⟨by show _ ≤ 0; omega, by show _ ≤ 0; omega⟩) (fun v6 μ7 H locs hw hI => ?_)
        refine W.eq (g2 := F0 m 33 ls [.int v6, .long x3]) rfl ?_
        refine lv_if_eq (tgt := 48) hx hb dX10_sumOf_33 (by decide) (fun hc => ?_) (fun hc => ?_)
        · have hw := hw.1 hc
          refine lv_lconst (v := (0)) hx hb dX10_sumOf_48 (by decide) ?_
          refine lv_ladd hx hb dX10_sumOf_49 ?_
          refine lv_topl (fun v8 ev8 => ?_)
          have hw := hw v8 ev8
          refine lv_lstore_n (lv' := [(3, .long v8), (0, va_rf (some b)), (1, .int x1), (2, .int x2), (5, .int x5)]) hx hb dX10_sumOf_50 rfl hl (by decide) rfl (fun ls hl => ?_)
          obtain ⟨v9, ev9⟩ : ∃ y : Int32, y = x5 + (1 : Int32) := ⟨_, rfl⟩
          have hw := hw v9 ev9
          refine lv_iinc (v := v9) (lv' := [(5, .int v9), (3, .long v8), (0, va_rf (some b)), (1, .int x1), (2, .int x2)]) hx hb dX10_sumOf_51 hl (k := 4) rfl (by rw [ev9]; rfl) (by decide) rfl (fun ls hl => ?_)
          refine lv_goto (tgt := 5) hx hb dX10_sumOf_54 (by decide) ?_
          exact ih hw hI (lv_sub hl [2, 3, 4, 1, 0] rfl) (by omega) (by omega)
        · have hw := hw.2 hc
          refine j_aload_n (r := (some b)) hx hb dX10_sumOf_36 rfl (lv_at hl 0 rfl) ?_
          obtain ⟨v10, hv10, hw⟩ := hw
          refine j_getz (C := RX10) (T := TX10) (N := 25) (ci := 12) (r := (some b)) (v := va_rf v10) hx hb hfX10 hown hK hI rfl 3 (by decide) (hts (.fieldLink RX10 7 "CashPoolsModel" "z" "[J") (List.mem_of_getElem? (i := 3) (by decide +kernel))) (fun _ h => h) hv10 dX10_sumOf_37 ?_
          refine lv_iconst (v := (0)) hx hb dX10_sumOf_40 (by decide) ?_
          refine lv_iload hx hb dX10_sumOf_41 (lv_at hl 4 rfl) ?_
          refine lv_iadd hx hb dX10_sumOf_43 ?_
          obtain ⟨v11, hv11, hw⟩ := hw
          refine j_laldz (r := v10) hx hb hK hI hv11 dX10_sumOf_44 ?_
          refine lv_goto (tgt := 49) hx hb dX10_sumOf_45 (by decide) ?_
          refine lv_ladd hx hb dX10_sumOf_49 ?_
          refine lv_topl (fun v12 ev12 => ?_)
          have hw := hw v12 ev12
          refine lv_lstore_n (lv' := [(3, .long v12), (0, va_rf (some b)), (1, .int x1), (2, .int x2), (5, .int x5)]) hx hb dX10_sumOf_50 rfl hl (by decide) rfl (fun ls hl => ?_)
          obtain ⟨v13, ev13⟩ : ∃ y : Int32, y = x5 + (1 : Int32) := ⟨_, rfl⟩
          have hw := hw v13 ev13
          refine lv_iinc (v := v13) (lv' := [(5, .int v13), (3, .long v12), (0, va_rf (some b)), (1, .int x1), (2, .int x2)]) hx hb dX10_sumOf_51 hl (k := 4) rfl (by rw [ev13]; rfl) (by decide) rfl (fun ls hl => ?_)
          refine lv_goto (tgt := 5) hx hb dX10_sumOf_54 (by decide) ?_
          exact ih hw hI (lv_sub hl [2, 3, 4, 1, 0] rfl) (by omega) (by omega)
set_option maxHeartbeats 4000000 in
set_option maxRecDepth 100000 in
theorem kX10_sumOf_0 {b : Nat} (hX : jX2 D z A p l s m args meth c yX10_sumOf cX10_sumOf 6 wsX10_sumOf (some .long)) {Q : Int64 → jM → Prop}  {x1 : Int32} {x2 : Int32} {μ : jM} {H : Heap} {locs : List Loc} {ls : Array Slot} {cells slots : Nat} (hw : wX10_sumOf_0 z b Q x1 x2 μ) (hI : jIz D z A s.heap μ H locs) (hl : lv_has ls 6 [(0, va_rf (some b)), (1, .int x1), (2, .int x2)]) (hcn : cells + 0 ≤ 0) (hsn : slots + 0 ≤ 0) : W p l e rmX10_sumOf s m args below meth c H locs cells slots (MQ below (jRz jfJ Q D z A) args s 0 0 A) (F0 m 0 ls []) := by
  unfold wX10_sumOf_0 at hw
  obtain ⟨hx, hb, hml, hown, hts, hr, hlocks, hnm, hK, hG, hfl⟩ := id hX
  have hown : s.vm.findClass RX10 = some m.cls := hown
  refine lv_lconst (v := (0)) hx hb dX10_sumOf_0 (by decide) ?_
  refine lv_topl (fun v1 ev1 => ?_)
  have hw := hw v1 ev1
  refine lv_lstore_n (lv' := [(3, .long v1), (0, va_rf (some b)), (1, .int x1), (2, .int x2)]) hx hb dX10_sumOf_1 rfl hl (by decide) rfl (fun ls hl => ?_)
  refine lv_iconst (v := (0)) hx hb dX10_sumOf_2 (by decide) ?_
  refine lv_topi (fun v2 ev2 => ?_)
  have hw := hw v2 ev2
  refine lv_istore (lv' := [(5, .int v2), (3, .long v1), (0, va_rf (some b)), (1, .int x1), (2, .int x2)]) hx hb dX10_sumOf_3 hl (by decide) rfl (fun ls hl => ?_)
  obtain ⟨n3, hw⟩ := hw
  exact kX10_sumOf_5 hX  n3 hw hI (lv_sub hl [2, 3, 4, 1, 0] rfl) (by omega) (by omega)
set_option maxHeartbeats 4000000 in
set_option maxRecDepth 100000 in
theorem kX10_sumOf (l : Launch) (hfl : l.stackTraces = false) (D : jD) (z : Nat × Nat) (b : Nat) (x1 : Int32) (x2 : Int32) (μ : jM) (sz : Nat) (Q : Int64 → jM → Prop) : Met l yX10_sumOf wsX10_sumOf rmX10_sumOf (jPre2z D z μ sz [.ref b, .int x1, .int x2] (wX10_sumOf z b x1 x2 μ Q)) (jRz jfJ Q D z (jA z μ sz)) 0 0 (jA z μ sz) := by
  refine Met.ofW (cc := cX10_sumOf) (maxL := 6) (ret := (some .long)) (by decide) rfl ?_
  intro p e s m args below meth c s₁ B hml hv
  obtain ⟨rfl, hsz, hH, hz0, hK, hG, hw⟩ := hv
  subst hsz
  have hX : jX2 D z (jA z μ s.heap.size) p l s m _ meth c yX10_sumOf cX10_sumOf 6 wsX10_sumOf (some .long) := ⟨B.exec, B.bytes, hml, findClass_of_methodNamed B.named, atoms_spec (ws := wsX10_sumOf) B.pre, B.returns, B.notSynchronized, (name_of_methodNamed B.named B.method).1, hK, hG, hfl⟩
  obtain ⟨ls, hg, hl⟩ : ∃ ls : Array Slot, entryFrame m ([.ref b, .int x1, .int x2] : List Value).toArray 6 = F0 m 0 ls [] ∧ lv_has ls 6 [(0, va_rf (some b)), (1, .int x1), (2, .int x2)] := by
    exact ⟨_, lg_entry_eq .., lv_entry _ (n := 6) (Nat.le_of_ble_eq_true rfl)⟩
  rw [hg]
  exact kX10_sumOf_0 hX hw (jIz.start hH hz0) (lv_sub hl [0, 1, 2] rfl) (by decide) (by decide)
set_option maxHeartbeats 4000000 in
set_option maxRecDepth 100000 in
theorem kX10_accrue_156 {b : Nat} (hX : jX2 D z A p l s m args meth c yX10_accrue cX10_accrue 7 wsX10_accrue none) {Q : Unit → jM → Prop} {K2 : Int32 → jM → Prop} (hK2 : ∀ {x1 : Int32} {μ : jM} {H : Heap} {locs : List Loc} {ls : Array Slot} {cells slots : Nat}, K2 x1 μ → jIz D z A s.heap μ H locs → lv_has ls 7 [(0, va_rf (some b)), (1, .int x1)] → cells + 0 ≤ 0 → slots + 0 ≤ 0 → W p l e rmX10_accrue s m args below meth c H locs cells slots (MQ below (jRz jfV Q D z A) args s 0 0 A) (F0 m 2 ls [])) {K91 : Int32 → Int64 → Int32 → jM → Prop} (hK91 : ∀ {x1 : Int32} {x2 : Int64} {x4 : Int32} {μ : jM} {H : Heap} {locs : List Loc} {ls : Array Slot} {cells slots : Nat}, K91 x1 x2 x4 μ → jIz D z A s.heap μ H locs → lv_has ls 7 [(0, va_rf (some b)), (1, .int x1), (2, .long x2), (4, .int x4)] → cells + 0 ≤ 0 → slots + 0 ≤ 0 → W p l e rmX10_accrue s m args below meth c H locs cells slots (MQ below (jRz jfV Q D z A) args s 0 0 A) (F0 m 91 ls [])) {x1 : Int32} {x2 : Int64} {x4 : Int32} {x5 : Int64} {t0 : Option Nat} {t1 : Int32} {t2 : Int64} {t3 : Int64} {μ : jM} {H : Heap} {locs : List Loc} {ls : Array Slot} {cells slots : Nat} (hw : wX10_accrue_156 z b K2 K91 Q x1 x2 x4 x5 t0 t1 t2 t3 μ) (hI : jIz D z A s.heap μ H locs) (hl : lv_has ls 7 [(0, va_rf (some b)), (1, .int x1), (2, .long x2), (4, .int x4), (5, .long x5)]) (hcn : cells + 0 ≤ 0) (hsn : slots + 0 ≤ 0) : W p l e rmX10_accrue s m args below meth c H locs cells slots (MQ below (jRz jfV Q D z A) args s 0 0 A) (F0 m 156 ls [.long t3, .long t2, .int t1, va_rf t0]) := by
  unfold wX10_accrue_156 at hw
  obtain ⟨hx, hb, hml, hown, hts, hr, hlocks, hnm, hK, hG, hfl⟩ := id hX
  have hown : s.vm.findClass RX10 = some m.cls := hown
  have hfX10 : ∀ w ∈ wsX100, w.before args s = true := fun w h => hts w (List.mem_cons_of_mem _ (List.mem_append_right _ h))
  refine lv_ladd hx hb dX10_accrue_156 ?_
  obtain ⟨μ1, hμ1, hw⟩ := hw
  refine j_lastz (r := t0) hx hb hK hI hμ1 dX10_accrue_157 (fun H locs hI => ?_)
  refine j_aload_n (r := (some b)) hx hb dX10_accrue_158 rfl (lv_at hl 0 rfl) ?_
  obtain ⟨v2, hv2, hw⟩ := hw
  refine j_getz (C := RX10) (T := TX10) (N := 25) (ci := 12) (r := (some b)) (v := va_rf v2) hx hb hfX10 hown hK hI rfl 3 (by decide) (hts (.fieldLink RX10 7 "CashPoolsModel" "z" "[J") (List.mem_of_getElem? (i := 2) (by decide +kernel))) (fun _ h => h) hv2 dX10_accrue_159 ?_
  refine lv_bipush (v := (40)) hx hb dX10_accrue_162 (by decide) ?_
  refine lv_iload hx hb dX10_accrue_164 (lv_at hl 3 rfl) ?_
  refine lv_iadd hx hb dX10_accrue_166 ?_
  refine lv_dup2_11 hx hb dX10_accrue_167 rfl (jrc v2) ?_
  obtain ⟨v3, hv3, hw⟩ := hw
  refine j_laldz (r := v2) hx hb hK hI hv3 dX10_accrue_168 ?_
  refine lv_lload_n hx hb dX10_accrue_169 rfl (lv_at hl 2 rfl) ?_
  refine lv_lconst (v := (0)) hx hb dX10_accrue_170 (by decide) ?_
  refine j_lcmp_ge (tgt := 188) hx hb dX10_accrue_171 dX10_accrue_172 (by decide) (fun hc => ?_) (fun hc => ?_)
  · have hw := hw.1 hc
    refine lv_lconst (v := (0)) hx hb dX10_accrue_188 (by decide) ?_
    refine lv_ladd hx hb dX10_accrue_189 ?_
    obtain ⟨μ4, hμ4, hw⟩ := hw
    refine j_lastz (r := v2) hx hb hK hI hμ4 dX10_accrue_190 (fun H locs hI => ?_)
    obtain ⟨v5, ev5⟩ : ∃ y : Int32, y = x4 + (1 : Int32) := ⟨_, rfl⟩
    have hw := hw v5 ev5
    refine lv_iinc (v := v5) (lv' := [(4, .int v5), (0, va_rf (some b)), (1, .int x1), (2, .long x2), (5, .long x5)]) hx hb dX10_accrue_191 hl (k := 3) rfl (by rw [ev5]; rfl) (by decide) rfl (fun ls hl => ?_)
    refine lv_goto (tgt := 91) hx hb dX10_accrue_194 (by decide) ?_
    exact hK91 hw hI (lv_sub hl [1, 2, 3, 0] rfl) (by omega) (by omega)
  · have hw := hw.2 hc
    refine lv_lload hx hb dX10_accrue_175 (lv_at hl 4 rfl) ?_
    refine lv_lconst (v := (0)) hx hb dX10_accrue_177 (by decide) ?_
    refine j_lcmp_ge (tgt := 188) hx hb dX10_accrue_178 dX10_accrue_179 (by decide) (fun hc => ?_) (fun hc => ?_)
    · have hw := hw.1 hc
      refine lv_lconst (v := (0)) hx hb dX10_accrue_188 (by decide) ?_
      refine lv_ladd hx hb dX10_accrue_189 ?_
      obtain ⟨μ6, hμ6, hw⟩ := hw
      refine j_lastz (r := v2) hx hb hK hI hμ6 dX10_accrue_190 (fun H locs hI => ?_)
      obtain ⟨v7, ev7⟩ : ∃ y : Int32, y = x4 + (1 : Int32) := ⟨_, rfl⟩
      have hw := hw v7 ev7
      refine lv_iinc (v := v7) (lv' := [(4, .int v7), (0, va_rf (some b)), (1, .int x1), (2, .long x2), (5, .long x5)]) hx hb dX10_accrue_191 hl (k := 3) rfl (by rw [ev7]; rfl) (by decide) rfl (fun ls hl => ?_)
      refine lv_goto (tgt := 91) hx hb dX10_accrue_194 (by decide) ?_
      exact hK91 hw hI (lv_sub hl [1, 2, 3, 0] rfl) (by omega) (by omega)
    · have hw := hw.2 hc
      refine lv_lload hx hb dX10_accrue_182 (lv_at hl 4 rfl) ?_
      refine lv_lneg hx hb dX10_accrue_184 ?_
      refine lv_goto (tgt := 189) hx hb dX10_accrue_185 (by decide) ?_
      refine lv_ladd hx hb dX10_accrue_189 ?_
      obtain ⟨μ8, hμ8, hw⟩ := hw
      refine j_lastz (r := v2) hx hb hK hI hμ8 dX10_accrue_190 (fun H locs hI => ?_)
      obtain ⟨v9, ev9⟩ : ∃ y : Int32, y = x4 + (1 : Int32) := ⟨_, rfl⟩
      have hw := hw v9 ev9
      refine lv_iinc (v := v9) (lv' := [(4, .int v9), (0, va_rf (some b)), (1, .int x1), (2, .long x2), (5, .long x5)]) hx hb dX10_accrue_191 hl (k := 3) rfl (by rw [ev9]; rfl) (by decide) rfl (fun ls hl => ?_)
      refine lv_goto (tgt := 91) hx hb dX10_accrue_194 (by decide) ?_
      exact hK91 hw hI (lv_sub hl [1, 2, 3, 0] rfl) (by omega) (by omega)
set_option maxHeartbeats 4000000 in
set_option maxRecDepth 100000 in
theorem kX10_accrue_155 {b : Nat} (hX : jX2 D z A p l s m args meth c yX10_accrue cX10_accrue 7 wsX10_accrue none) {Q : Unit → jM → Prop} {K2 : Int32 → jM → Prop} (hK2 : ∀ {x1 : Int32} {μ : jM} {H : Heap} {locs : List Loc} {ls : Array Slot} {cells slots : Nat}, K2 x1 μ → jIz D z A s.heap μ H locs → lv_has ls 7 [(0, va_rf (some b)), (1, .int x1)] → cells + 0 ≤ 0 → slots + 0 ≤ 0 → W p l e rmX10_accrue s m args below meth c H locs cells slots (MQ below (jRz jfV Q D z A) args s 0 0 A) (F0 m 2 ls [])) {K91 : Int32 → Int64 → Int32 → jM → Prop} (hK91 : ∀ {x1 : Int32} {x2 : Int64} {x4 : Int32} {μ : jM} {H : Heap} {locs : List Loc} {ls : Array Slot} {cells slots : Nat}, K91 x1 x2 x4 μ → jIz D z A s.heap μ H locs → lv_has ls 7 [(0, va_rf (some b)), (1, .int x1), (2, .long x2), (4, .int x4)] → cells + 0 ≤ 0 → slots + 0 ≤ 0 → W p l e rmX10_accrue s m args below meth c H locs cells slots (MQ below (jRz jfV Q D z A) args s 0 0 A) (F0 m 91 ls [])) {x1 : Int32} {x2 : Int64} {x4 : Int32} {x5 : Int64} {t0 : Option Nat} {t1 : Int32} {t2 : Int64} {μ : jM} {H : Heap} {locs : List Loc} {ls : Array Slot} {cells slots : Nat} (hw : wX10_accrue_155 z b K2 K91 Q x1 x2 x4 x5 t0 t1 t2 μ) (hI : jIz D z A s.heap μ H locs) (hl : lv_has ls 7 [(0, va_rf (some b)), (1, .int x1), (2, .long x2), (4, .int x4), (5, .long x5)]) (hcn : cells + 0 ≤ 0) (hsn : slots + 0 ≤ 0) : W p l e rmX10_accrue s m args below meth c H locs cells slots (MQ below (jRz jfV Q D z A) args s 0 0 A) (F0 m 155 ls [.long t2, .int t1, va_rf t0]) := by
  unfold wX10_accrue_155 at hw
  obtain ⟨hx, hb, hml, hown, hts, hr, hlocks, hnm, hK, hG, hfl⟩ := id hX
  have hown : s.vm.findClass RX10 = some m.cls := hown
  refine lv_lconst (v := (0)) hx hb dX10_accrue_155 (by decide) ?_
  exact kX10_accrue_156 hX hK2 hK91 hw hI (lv_sub hl [0, 1, 2, 3, 4] rfl) (by omega) (by omega)
set_option maxHeartbeats 4000000 in
set_option maxRecDepth 100000 in
theorem kX10_accrue_124 {b : Nat} (hX : jX2 D z A p l s m args meth c yX10_accrue cX10_accrue 7 wsX10_accrue none) {Q : Unit → jM → Prop} {K2 : Int32 → jM → Prop} (hK2 : ∀ {x1 : Int32} {μ : jM} {H : Heap} {locs : List Loc} {ls : Array Slot} {cells slots : Nat}, K2 x1 μ → jIz D z A s.heap μ H locs → lv_has ls 7 [(0, va_rf (some b)), (1, .int x1)] → cells + 0 ≤ 0 → slots + 0 ≤ 0 → W p l e rmX10_accrue s m args below meth c H locs cells slots (MQ below (jRz jfV Q D z A) args s 0 0 A) (F0 m 2 ls [])) {K91 : Int32 → Int64 → Int32 → jM → Prop} (hK91 : ∀ {x1 : Int32} {x2 : Int64} {x4 : Int32} {μ : jM} {H : Heap} {locs : List Loc} {ls : Array Slot} {cells slots : Nat}, K91 x1 x2 x4 μ → jIz D z A s.heap μ H locs → lv_has ls 7 [(0, va_rf (some b)), (1, .int x1), (2, .long x2), (4, .int x4)] → cells + 0 ≤ 0 → slots + 0 ≤ 0 → W p l e rmX10_accrue s m args below meth c H locs cells slots (MQ below (jRz jfV Q D z A) args s 0 0 A) (F0 m 91 ls [])) {x1 : Int32} {x2 : Int64} {x4 : Int32} {t0 : Int64} {μ : jM} {H : Heap} {locs : List Loc} {ls : Array Slot} {cells slots : Nat} (hw : wX10_accrue_124 z b K2 K91 Q x1 x2 x4 t0 μ) (hI : jIz D z A s.heap μ H locs) (hl : lv_has ls 7 [(0, va_rf (some b)), (1, .int x1), (2, .long x2), (4, .int x4)]) (hcn : cells + 0 ≤ 0) (hsn : slots + 0 ≤ 0) : W p l e rmX10_accrue s m args below meth c H locs cells slots (MQ below (jRz jfV Q D z A) args s 0 0 A) (F0 m 124 ls [.long t0]) := by
  unfold wX10_accrue_124 at hw
  obtain ⟨hx, hb, hml, hown, hts, hr, hlocks, hnm, hK, hG, hfl⟩ := id hX
  have hown : s.vm.findClass RX10 = some m.cls := hown
  have hfX10 : ∀ w ∈ wsX100, w.before args s = true := fun w h => hts w (List.mem_cons_of_mem _ (List.mem_append_right _ h))
  refine lv_lstore (lv' := [(5, .long t0), (0, va_rf (some b)), (1, .int x1), (2, .long x2), (4, .int x4)]) hx hb dX10_accrue_124 hl (by decide) rfl (fun ls hl => ?_)
  refine j_aload_n (r := (some b)) hx hb dX10_accrue_126 rfl (lv_at hl 1 rfl) ?_
  obtain ⟨v1, hv1, hw⟩ := hw
  refine j_getz (C := RX10) (T := TX10) (N := 25) (ci := 12) (r := (some b)) (v := va_rf v1) hx hb hfX10 hown hK hI rfl 3 (by decide) (hts (.fieldLink RX10 7 "CashPoolsModel" "z" "[J") (List.mem_of_getElem? (i := 2) (by decide +kernel))) (fun _ h => h) hv1 dX10_accrue_127 ?_
  refine lv_bipush (v := (30)) hx hb dX10_accrue_130 (by decide) ?_
  refine lv_iload hx hb dX10_accrue_132 (lv_at hl 4 rfl) ?_
  refine lv_iadd hx hb dX10_accrue_134 ?_
  refine lv_dup2_11 hx hb dX10_accrue_135 rfl (jrc v1) ?_
  obtain ⟨v2, hv2, hw⟩ := hw
  refine j_laldz (r := v1) hx hb hK hI hv2 dX10_accrue_136 ?_
  refine lv_lload_n hx hb dX10_accrue_137 rfl (lv_at hl 3 rfl) ?_
  refine lv_lconst (v := (0)) hx hb dX10_accrue_138 (by decide) ?_
  refine j_lcmp_le (tgt := 155) hx hb dX10_accrue_139 dX10_accrue_140 (by decide) (fun hc => ?_) (fun hc => ?_)
  · have hw := hw.1 hc
    exact kX10_accrue_155 hX hK2 hK91 hw hI (lv_sub hl [1, 2, 3, 4, 0] rfl) (by omega) (by omega)
  · have hw := hw.2 hc
    refine lv_lload hx hb dX10_accrue_143 (lv_at hl 0 rfl) ?_
    refine lv_lconst (v := (0)) hx hb dX10_accrue_145 (by decide) ?_
    refine j_lcmp_le (tgt := 155) hx hb dX10_accrue_146 dX10_accrue_147 (by decide) (fun hc => ?_) (fun hc => ?_)
    · have hw := hw.1 hc
      exact kX10_accrue_155 hX hK2 hK91 hw hI (lv_sub hl [1, 2, 3, 4, 0] rfl) (by omega) (by omega)
    · have hw := hw.2 hc
      refine lv_lload hx hb dX10_accrue_150 (lv_at hl 0 rfl) ?_
      refine lv_goto (tgt := 156) hx hb dX10_accrue_152 (by decide) ?_
      exact kX10_accrue_156 hX hK2 hK91 hw hI (lv_sub hl [1, 2, 3, 4, 0] rfl) (by omega) (by omega)
set_option maxHeartbeats 4000000 in
set_option maxRecDepth 100000 in
theorem kX10_accrue_91 {b : Nat} (hX : jX2 D z A p l s m args meth c yX10_accrue cX10_accrue 7 wsX10_accrue none) {Q : Unit → jM → Prop} {K2 : Int32 → jM → Prop} (hK2 : ∀ {x1 : Int32} {μ : jM} {H : Heap} {locs : List Loc} {ls : Array Slot} {cells slots : Nat}, K2 x1 μ → jIz D z A s.heap μ H locs → lv_has ls 7 [(0, va_rf (some b)), (1, .int x1)] → cells + 0 ≤ 0 → slots + 0 ≤ 0 → W p l e rmX10_accrue s m args below meth c H locs cells slots (MQ below (jRz jfV Q D z A) args s 0 0 A) (F0 m 2 ls [])) (n : Nat) : ∀ {x1 : Int32} {x2 : Int64} {x4 : Int32} {μ : jM} {H : Heap} {locs : List Loc} {ls : Array Slot} {cells slots : Nat}, wX10_accrue_91 z b K2 Q n x1 x2 x4 μ → jIz D z A s.heap μ H locs → lv_has ls 7 [(0, va_rf (some b)), (1, .int x1), (2, .long x2), (4, .int x4)] → cells + 0 ≤ 0 → slots + 0 ≤ 0 → W p l e rmX10_accrue s m args below meth c H locs cells slots (MQ below (jRz jfV Q D z A) args s 0 0 A) (F0 m 91 ls []) := by
  induction n with
  | zero =>
    intros
    rename_i hw _ _ _ _
    exact (show False from hw).elim
  | succ n ih =>
    intro x1 x2 x4 μ H locs ls cells slots hw hI hl hcn hsn
    have hw : wX10_accrue_91_b z b K2 Q (wX10_accrue_91 z b K2 Q n) x1 x2 x4 μ := hw
    unfold wX10_accrue_91_b at hw
    obtain ⟨hx, hb, hml, hown, hts, hr, hlocks, hnm, hK, hG, hfl⟩ := id hX
    have hown : s.vm.findClass RX10 = some m.cls := hown
    have hfX10 : ∀ w ∈ wsX100, w.before args s = true := fun w h => hts w (List.mem_cons_of_mem _ (List.mem_append_right _ h))
    refine lv_iload hx hb dX10_accrue_91 (lv_at hl 3 rfl) ?_
    refine j_aload_n (r := (some b)) hx hb dX10_accrue_93 rfl (lv_at hl 0 rfl) ?_
    obtain ⟨v1, hv1, hw⟩ := hw
    refine j_getz (C := RX10) (T := TX10) (N := 25) (ci := 12) (r := (some b)) (v := .int v1) hx hb hfX10 hown hK hI rfl 0 (by decide) (hts (.fieldLink RX10 79 "CashPoolsModel" "accounts" "I") (List.mem_of_getElem? (i := 1) (by decide +kernel))) (fun _ h => h) hv1 dX10_accrue_94 ?_
    refine lv_icmp_ge (tgt := 197) hx hb dX10_accrue_97 (by decide) (fun hc => ?_) (fun hc => ?_)
    · have hw := hw.1 hc
      obtain ⟨v2, ev2⟩ : ∃ y : Int32, y = x1 + (1 : Int32) := ⟨_, rfl⟩
      have hw := hw v2 ev2
      refine lv_iinc (v := v2) (lv' := [(1, .int v2), (0, va_rf (some b)), (2, .long x2), (4, .int x4)]) hx hb dX10_accrue_197 hl (k := 1) rfl (by rw [ev2]; rfl) (by decide) rfl (fun ls hl => ?_)
      refine lv_goto (tgt := 2) hx hb dX10_accrue_200 (by decide) ?_
      exact hK2 hw hI (lv_sub hl [1, 0] rfl) (by omega) (by omega)
    · have hw := hw.2 hc
      refine j_aload_n (r := (some b)) hx hb dX10_accrue_100 rfl (lv_at hl 0 rfl) ?_
      obtain ⟨v3, hv3, hw⟩ := hw
      refine j_getz (C := RX10) (T := TX10) (N := 25) (ci := 12) (r := (some b)) (v := va_rf v3) hx hb hfX10 hown hK hI rfl 6 (by decide) (hts (.fieldLink RX10 20 "CashPoolsModel" "top" "[I") (List.mem_of_getElem? (i := 5) (by decide +kernel))) (fun _ h => h) hv3 dX10_accrue_101 ?_
      refine lv_iload hx hb dX10_accrue_104 (lv_at hl 3 rfl) ?_
      obtain ⟨v4, hv4, hw⟩ := hw
      refine j_ialdz (r := v3) hx hb hK hI hv4 dX10_accrue_106 ?_
      refine lv_iload_n hx hb dX10_accrue_107 rfl (lv_at hl 1 rfl) ?_
      refine lv_icmp_ne (tgt := 123) hx hb dX10_accrue_108 (by decide) (fun hc => ?_) (fun hc => ?_)
      · have hw := hw.1 hc
        refine lv_lconst (v := (0)) hx hb dX10_accrue_123 (by decide) ?_
        exact kX10_accrue_124 hX hK2 ih hw hI (lv_sub hl [0, 1, 2, 3] rfl) (by omega) (by omega)
      · have hw := hw.2 hc
        refine j_aload_n (r := (some b)) hx hb dX10_accrue_111 rfl (lv_at hl 0 rfl) ?_
        obtain ⟨v5, hv5, hw⟩ := hw
        refine j_getz (C := RX10) (T := TX10) (N := 25) (ci := 12) (r := (some b)) (v := va_rf v5) hx hb hfX10 hown hK hI rfl 3 (by decide) (hts (.fieldLink RX10 7 "CashPoolsModel" "z" "[J") (List.mem_of_getElem? (i := 2) (by decide +kernel))) (fun _ h => h) hv5 dX10_accrue_112 ?_
        refine lv_iconst (v := (0)) hx hb dX10_accrue_115 (by decide) ?_
        refine lv_iload hx hb dX10_accrue_116 (lv_at hl 3 rfl) ?_
        refine lv_iadd hx hb dX10_accrue_118 ?_
        obtain ⟨v6, hv6, hw⟩ := hw
        refine j_laldz (r := v5) hx hb hK hI hv6 dX10_accrue_119 ?_
        refine lv_goto (tgt := 124) hx hb dX10_accrue_120 (by decide) ?_
        exact kX10_accrue_124 hX hK2 ih hw hI (lv_sub hl [0, 1, 2, 3] rfl) (by omega) (by omega)
set_option maxHeartbeats 4000000 in
set_option maxRecDepth 100000 in
theorem kX10_accrue_54 {b : Nat} (hX : jX2 D z A p l s m args meth c yX10_accrue cX10_accrue 7 wsX10_accrue none) {Q : Unit → jM → Prop} {K2 : Int32 → jM → Prop} (hK2 : ∀ {x1 : Int32} {μ : jM} {H : Heap} {locs : List Loc} {ls : Array Slot} {cells slots : Nat}, K2 x1 μ → jIz D z A s.heap μ H locs → lv_has ls 7 [(0, va_rf (some b)), (1, .int x1)] → cells + 0 ≤ 0 → slots + 0 ≤ 0 → W p l e rmX10_accrue s m args below meth c H locs cells slots (MQ below (jRz jfV Q D z A) args s 0 0 A) (F0 m 2 ls [])) {x1 : Int32} {x2 : Int64} {t0 : Option Nat} {t1 : Int32} {t2 : Int64} {t3 : Int64} {μ : jM} {H : Heap} {locs : List Loc} {ls : Array Slot} {cells slots : Nat} (hw : wX10_accrue_54 z b K2 Q x1 x2 t0 t1 t2 t3 μ) (hI : jIz D z A s.heap μ H locs) (hl : lv_has ls 7 [(0, va_rf (some b)), (1, .int x1), (2, .long x2)]) (hcn : cells + 0 ≤ 0) (hsn : slots + 0 ≤ 0) : W p l e rmX10_accrue s m args below meth c H locs cells slots (MQ below (jRz jfV Q D z A) args s 0 0 A) (F0 m 54 ls [.long t3, .long t2, .int t1, va_rf t0]) := by
  unfold wX10_accrue_54 at hw
  obtain ⟨hx, hb, hml, hown, hts, hr, hlocks, hnm, hK, hG, hfl⟩ := id hX
  have hown : s.vm.findClass RX10 = some m.cls := hown
  have hfX10 : ∀ w ∈ wsX100, w.before args s = true := fun w h => hts w (List.mem_cons_of_mem _ (List.mem_append_right _ h))
  refine lv_ladd hx hb dX10_accrue_54 ?_
  obtain ⟨μ1, hμ1, hw⟩ := hw
  refine j_lastz (r := t0) hx hb hK hI hμ1 dX10_accrue_55 (fun H locs hI => ?_)
  refine j_aload_n (r := (some b)) hx hb dX10_accrue_56 rfl (lv_at hl 0 rfl) ?_
  obtain ⟨v2, hv2, hw⟩ := hw
  refine j_getz (C := RX10) (T := TX10) (N := 25) (ci := 12) (r := (some b)) (v := va_rf v2) hx hb hfX10 hown hK hI rfl 3 (by decide) (hts (.fieldLink RX10 7 "CashPoolsModel" "z" "[J") (List.mem_of_getElem? (i := 2) (by decide +kernel))) (fun _ h => h) hv2 dX10_accrue_57 ?_
  refine lv_bipush (v := (20)) hx hb dX10_accrue_60 (by decide) ?_
  refine lv_iload_n hx hb dX10_accrue_62 rfl (lv_at hl 1 rfl) ?_
  refine lv_iadd hx hb dX10_accrue_63 ?_
  refine lv_dup2_11 hx hb dX10_accrue_64 rfl (jrc v2) ?_
  obtain ⟨v3, hv3, hw⟩ := hw
  refine j_laldz (r := v2) hx hb hK hI hv3 dX10_accrue_65 ?_
  refine lv_lload_n hx hb dX10_accrue_66 rfl (lv_at hl 2 rfl) ?_
  refine lv_lconst (v := (0)) hx hb dX10_accrue_67 (by decide) ?_
  refine j_lcmp_ge (tgt := 85) hx hb dX10_accrue_68 dX10_accrue_69 (by decide) (fun hc => ?_) (fun hc => ?_)
  · have hw := hw.1 hc
    refine lv_lconst (v := (0)) hx hb dX10_accrue_85 (by decide) ?_
    refine lv_ladd hx hb dX10_accrue_86 ?_
    obtain ⟨μ4, hμ4, hw⟩ := hw
    refine j_lastz (r := v2) hx hb hK hI hμ4 dX10_accrue_87 (fun H locs hI => ?_)
    refine lv_iconst (v := (0)) hx hb dX10_accrue_88 (by decide) ?_
    refine lv_topi (fun v5 ev5 => ?_)
    have hw := hw v5 ev5
    refine lv_istore (lv' := [(4, .int v5), (0, va_rf (some b)), (1, .int x1), (2, .long x2)]) hx hb dX10_accrue_89 hl (by decide) rfl (fun ls hl => ?_)
    obtain ⟨n6, hw⟩ := hw
    exact kX10_accrue_91 hX hK2 n6 hw hI (lv_sub hl [1, 2, 3, 0] rfl) (by omega) (by omega)
  · have hw := hw.2 hc
    refine lv_lload_n hx hb dX10_accrue_72 rfl (lv_at hl 2 rfl) ?_
    refine lv_lneg hx hb dX10_accrue_73 ?_
    refine j_aload_n (r := (some b)) hx hb dX10_accrue_74 rfl (lv_at hl 0 rfl) ?_
    obtain ⟨v7, hv7, hw⟩ := hw
    refine j_getz (C := RX10) (T := TX10) (N := 25) (ci := 12) (r := (some b)) (v := va_rf v7) hx hb hfX10 hown hK hI rfl 12 (by decide) (hts (.fieldLink RX10 38 "CashPoolsModel" "debitRate" "[I") (List.mem_of_getElem? (i := 4) (by decide +kernel))) (fun _ h => h) hv7 dX10_accrue_75 ?_
    refine lv_iload_n hx hb dX10_accrue_78 rfl (lv_at hl 1 rfl) ?_
    obtain ⟨v8, hv8, hw⟩ := hw
    refine j_ialdz (r := v7) hx hb hK hI hv8 dX10_accrue_79 ?_
    refine lv_i2l hx hb dX10_accrue_80 rfl ?_
    refine lv_lmul hx hb dX10_accrue_81 ?_
    refine lv_goto (tgt := 86) hx hb dX10_accrue_82 (by decide) ?_
    refine lv_ladd hx hb dX10_accrue_86 ?_
    obtain ⟨μ9, hμ9, hw⟩ := hw
    refine j_lastz (r := v2) hx hb hK hI hμ9 dX10_accrue_87 (fun H locs hI => ?_)
    refine lv_iconst (v := (0)) hx hb dX10_accrue_88 (by decide) ?_
    refine lv_topi (fun v10 ev10 => ?_)
    have hw := hw v10 ev10
    refine lv_istore (lv' := [(4, .int v10), (0, va_rf (some b)), (1, .int x1), (2, .long x2)]) hx hb dX10_accrue_89 hl (by decide) rfl (fun ls hl => ?_)
    obtain ⟨n11, hw⟩ := hw
    exact kX10_accrue_91 hX hK2 n11 hw hI (lv_sub hl [1, 2, 3, 0] rfl) (by omega) (by omega)
set_option maxHeartbeats 4000000 in
set_option maxRecDepth 100000 in
theorem kX10_accrue_205 {b : Nat} (hX : jX2 D z A p l s m args meth c yX10_accrue cX10_accrue 7 wsX10_accrue none) {Q : Unit → jM → Prop}  (n : Nat) : ∀ {x1 : Int32} {μ : jM} {H : Heap} {locs : List Loc} {ls : Array Slot} {cells slots : Nat}, wX10_accrue_205 z b Q n x1 μ → jIz D z A s.heap μ H locs → lv_has ls 7 [(0, va_rf (some b)), (1, .int x1)] → cells + 0 ≤ 0 → slots + 0 ≤ 0 → W p l e rmX10_accrue s m args below meth c H locs cells slots (MQ below (jRz jfV Q D z A) args s 0 0 A) (F0 m 205 ls []) := by
  induction n with
  | zero =>
    intros
    rename_i hw _ _ _ _
    exact (show False from hw).elim
  | succ n ih =>
    intro x1 μ H locs ls cells slots hw hI hl hcn hsn
    have hw : wX10_accrue_205_b z b Q (wX10_accrue_205 z b Q n) x1 μ := hw
    unfold wX10_accrue_205_b at hw
    obtain ⟨hx, hb, hml, hown, hts, hr, hlocks, hnm, hK, hG, hfl⟩ := id hX
    have hown : s.vm.findClass RX10 = some m.cls := hown
    have hfX10 : ∀ w ∈ wsX100, w.before args s = true := fun w h => hts w (List.mem_cons_of_mem _ (List.mem_append_right _ h))
    refine lv_iload_n hx hb dX10_accrue_205 rfl (lv_at hl 1 rfl) ?_
    refine j_aload_n (r := (some b)) hx hb dX10_accrue_206 rfl (lv_at hl 0 rfl) ?_
    obtain ⟨v1, hv1, hw⟩ := hw
    refine j_getz (C := RX10) (T := TX10) (N := 25) (ci := 12) (r := (some b)) (v := .int v1) hx hb hfX10 hown hK hI rfl 1 (by decide) (hts (.fieldLink RX10 106 "CashPoolsModel" "lines" "I") (List.mem_of_getElem? (i := 6) (by decide +kernel))) (fun _ h => h) hv1 dX10_accrue_207 ?_
    refine lv_icmp_ge (tgt := 248) hx hb dX10_accrue_210 (by decide) (fun hc => ?_) (fun hc => ?_)
    · have hw := hw.1 hc
      exact j_vretz hx hb hr hlocks hI hw (by omega) (by omega) dX10_accrue_248
    · have hw := hw.2 hc
      refine j_aload_n (r := (some b)) hx hb dX10_accrue_213 rfl (lv_at hl 0 rfl) ?_
      obtain ⟨v2, hv2, hw⟩ := hw
      refine j_getz (C := RX10) (T := TX10) (N := 25) (ci := 12) (r := (some b)) (v := va_rf v2) hx hb hfX10 hown hK hI rfl 3 (by decide) (hts (.fieldLink RX10 7 "CashPoolsModel" "z" "[J") (List.mem_of_getElem? (i := 2) (by decide +kernel))) (fun _ h => h) hv2 dX10_accrue_214 ?_
      refine lv_bipush (v := (76)) hx hb dX10_accrue_217 (by decide) ?_
      refine lv_iload_n hx hb dX10_accrue_219 rfl (lv_at hl 1 rfl) ?_
      refine lv_iadd hx hb dX10_accrue_220 ?_
      refine lv_dup2_11 hx hb dX10_accrue_221 rfl (jrc v2) ?_
      obtain ⟨v3, hv3, hw⟩ := hw
      refine j_laldz (r := v2) hx hb hK hI hv3 dX10_accrue_222 ?_
      refine j_aload_n (r := (some b)) hx hb dX10_accrue_223 rfl (lv_at hl 0 rfl) ?_
      obtain ⟨v4, hv4, hw⟩ := hw
      refine j_getz (C := RX10) (T := TX10) (N := 25) (ci := 12) (r := (some b)) (v := va_rf v4) hx hb hfX10 hown hK hI rfl 3 (by decide) (hts (.fieldLink RX10 7 "CashPoolsModel" "z" "[J") (List.mem_of_getElem? (i := 2) (by decide +kernel))) (fun _ h => h) hv4 dX10_accrue_224 ?_
      refine lv_bipush (v := (70)) hx hb dX10_accrue_227 (by decide) ?_
      refine lv_iload_n hx hb dX10_accrue_229 rfl (lv_at hl 1 rfl) ?_
      refine lv_iadd hx hb dX10_accrue_230 ?_
      obtain ⟨v5, hv5, hw⟩ := hw
      refine j_laldz (r := v4) hx hb hK hI hv5 dX10_accrue_231 ?_
      refine j_aload_n (r := (some b)) hx hb dX10_accrue_232 rfl (lv_at hl 0 rfl) ?_
      obtain ⟨v6, hv6, hw⟩ := hw
      refine j_getz (C := RX10) (T := TX10) (N := 25) (ci := 12) (r := (some b)) (v := va_rf v6) hx hb hfX10 hown hK hI rfl 15 (by decide) (hts (.fieldLink RX10 47 "CashPoolsModel" "lineRate" "[I") (List.mem_of_getElem? (i := 7) (by decide +kernel))) (fun _ h => h) hv6 dX10_accrue_233 ?_
      refine lv_iload_n hx hb dX10_accrue_236 rfl (lv_at hl 1 rfl) ?_
      obtain ⟨v7, hv7, hw⟩ := hw
      refine j_ialdz (r := v6) hx hb hK hI hv7 dX10_accrue_237 ?_
      refine lv_i2l hx hb dX10_accrue_238 rfl ?_
      refine lv_lmul hx hb dX10_accrue_239 ?_
      refine lv_ladd hx hb dX10_accrue_240 ?_
      obtain ⟨μ8, hμ8, hw⟩ := hw
      refine j_lastz (r := v2) hx hb hK hI hμ8 dX10_accrue_241 (fun H locs hI => ?_)
      obtain ⟨v9, ev9⟩ : ∃ y : Int32, y = x1 + (1 : Int32) := ⟨_, rfl⟩
      have hw := hw v9 ev9
      refine lv_iinc (v := v9) (lv' := [(1, .int v9), (0, va_rf (some b))]) hx hb dX10_accrue_242 hl (k := 1) rfl (by rw [ev9]; rfl) (by decide) rfl (fun ls hl => ?_)
      refine lv_goto (tgt := 205) hx hb dX10_accrue_245 (by decide) ?_
      exact ih hw hI (lv_sub hl [1, 0] rfl) (by omega) (by omega)
set_option maxHeartbeats 4000000 in
set_option maxRecDepth 100000 in
theorem kX10_accrue_2 {b : Nat} (hX : jX2 D z A p l s m args meth c yX10_accrue cX10_accrue 7 wsX10_accrue none) {Q : Unit → jM → Prop}  (n : Nat) : ∀ {x1 : Int32} {μ : jM} {H : Heap} {locs : List Loc} {ls : Array Slot} {cells slots : Nat}, wX10_accrue_2 z b Q n x1 μ → jIz D z A s.heap μ H locs → lv_has ls 7 [(0, va_rf (some b)), (1, .int x1)] → cells + 0 ≤ 0 → slots + 0 ≤ 0 → W p l e rmX10_accrue s m args below meth c H locs cells slots (MQ below (jRz jfV Q D z A) args s 0 0 A) (F0 m 2 ls []) := by
  induction n with
  | zero =>
    intros
    rename_i hw _ _ _ _
    exact (show False from hw).elim
  | succ n ih =>
    intro x1 μ H locs ls cells slots hw hI hl hcn hsn
    have hw : wX10_accrue_2_b z b Q (wX10_accrue_2 z b Q n) x1 μ := hw
    unfold wX10_accrue_2_b at hw
    obtain ⟨hx, hb, hml, hown, hts, hr, hlocks, hnm, hK, hG, hfl⟩ := id hX
    have hown : s.vm.findClass RX10 = some m.cls := hown
    have hfX10 : ∀ w ∈ wsX100, w.before args s = true := fun w h => hts w (List.mem_cons_of_mem _ (List.mem_append_right _ h))
    refine lv_iload_n hx hb dX10_accrue_2 rfl (lv_at hl 1 rfl) ?_
    refine j_aload_n (r := (some b)) hx hb dX10_accrue_3 rfl (lv_at hl 0 rfl) ?_
    obtain ⟨v1, hv1, hw⟩ := hw
    refine j_getz (C := RX10) (T := TX10) (N := 25) (ci := 12) (r := (some b)) (v := .int v1) hx hb hfX10 hown hK hI rfl 0 (by decide) (hts (.fieldLink RX10 79 "CashPoolsModel" "accounts" "I") (List.mem_of_getElem? (i := 1) (by decide +kernel))) (fun _ h => h) hv1 dX10_accrue_4 ?_
    refine lv_icmp_ge (tgt := 203) hx hb dX10_accrue_7 (by decide) (fun hc => ?_) (fun hc => ?_)
    · have hw := hw.1 hc
      refine lv_iconst (v := (0)) hx hb dX10_accrue_203 (by decide) ?_
      refine lv_topi (fun v2 ev2 => ?_)
      have hw := hw v2 ev2
      refine lv_istore_n (lv' := [(1, .int v2), (0, va_rf (some b))]) hx hb dX10_accrue_204 rfl hl (by decide) rfl (fun ls hl => ?_)
      obtain ⟨n3, hw⟩ := hw
      exact kX10_accrue_205 hX  n3 hw hI (lv_sub hl [1, 0] rfl) (by omega) (by omega)
    · have hw := hw.2 hc
      refine j_aload_n (r := (some b)) hx hb dX10_accrue_10 rfl (lv_at hl 0 rfl) ?_
      refine lv_iload_n hx hb dX10_accrue_11 rfl (lv_at hl 1 rfl) ?_
      obtain ⟨hfs, hw⟩ := hw
      refine j_goz hI (va_runV (As := [.int x1]) (rest := []) ⟨hx, hb, hml, hown, hts⟩ (kX10_isTop l hfl D z b x1 μ H.size _) (cwV 1 hts gX10_accrue_X10_isTop rfl rfl rfl (by decide +kernel) ⟨Nat.le_of_ble_eq_true rfl, Nat.le_of_ble_eq_true rfl⟩) (j_prV2z hK hG hI hw (ci := 12) rfl hfs) rfl rfl hl.1 rfl (lv_room (Nat.le_of_ble_eq_true rfl)) dX10_accrue_12 ⟨by show _ ≤ 0; omega, by show _ ≤ 0; omega⟩) (fun v4 μ5 H locs hw hI => ?_)
      refine W.eq (g2 := F0 m 15 ls [.int v4]) rfl ?_
      refine lv_if_eq (tgt := 197) hx hb dX10_accrue_15 (by decide) (fun hc => ?_) (fun hc => ?_)
      · have hw := hw.1 hc
        obtain ⟨v6, ev6⟩ : ∃ y : Int32, y = x1 + (1 : Int32) := ⟨_, rfl⟩
        have hw := hw v6 ev6
        refine lv_iinc (v := v6) (lv' := [(1, .int v6), (0, va_rf (some b))]) hx hb dX10_accrue_197 hl (k := 1) rfl (by rw [ev6]; rfl) (by decide) rfl (fun ls hl => ?_)
        refine lv_goto (tgt := 2) hx hb dX10_accrue_200 (by decide) ?_
        exact ih hw hI (lv_sub hl [1, 0] rfl) (by omega) (by omega)
      · have hw := hw.2 hc
        refine j_aload_n (r := (some b)) hx hb dX10_accrue_18 rfl (lv_at hl 0 rfl) ?_
        refine lv_iload_n hx hb dX10_accrue_19 rfl (lv_at hl 1 rfl) ?_
        refine lv_iload_n hx hb dX10_accrue_20 rfl (lv_at hl 1 rfl) ?_
        obtain ⟨hfs, hw⟩ := hw
        refine j_goz hI (va_runV (As := [.int x1, .int x1]) (rest := []) ⟨hx, hb, hml, hown, hts⟩ (kX10_sumOf l hfl D z b x1 x1 μ5 H.size _) (cwV 2 hts gX10_accrue_X10_sumOf rfl rfl rfl (by decide +kernel) ⟨Nat.le_of_ble_eq_true rfl, Nat.le_of_ble_eq_true rfl⟩) (j_prV2z hK hG hI hw (ci := 12) rfl hfs) rfl rfl hl.1 rfl (lv_room (Nat.le_of_ble_eq_true rfl)) dX10_accrue_21 ⟨by show _ ≤ 0; omega, by show _ ≤ 0; omega⟩) (fun v7 μ8 H locs hw hI => ?_)
        refine W.eq (g2 := F0 m 24 ls [.long v7]) rfl ?_
        refine lv_lstore_n (lv' := [(2, .long v7), (0, va_rf (some b)), (1, .int x1)]) hx hb dX10_accrue_24 rfl hl (by decide) rfl (fun ls hl => ?_)
        refine j_aload_n (r := (some b)) hx hb dX10_accrue_25 rfl (lv_at hl 1 rfl) ?_
        obtain ⟨v9, hv9, hw⟩ := hw
        refine j_getz (C := RX10) (T := TX10) (N := 25) (ci := 12) (r := (some b)) (v := va_rf v9) hx hb hfX10 hown hK hI rfl 3 (by decide) (hts (.fieldLink RX10 7 "CashPoolsModel" "z" "[J") (List.mem_of_getElem? (i := 2) (by decide +kernel))) (fun _ h => h) hv9 dX10_accrue_26 ?_
        refine lv_bipush (v := (10)) hx hb dX10_accrue_29 (by decide) ?_
        refine lv_iload_n hx hb dX10_accrue_31 rfl (lv_at hl 2 rfl) ?_
        refine lv_iadd hx hb dX10_accrue_32 ?_
        refine lv_dup2_11 hx hb dX10_accrue_33 rfl (jrc v9) ?_
        obtain ⟨v10, hv10, hw⟩ := hw
        refine j_laldz (r := v9) hx hb hK hI hv10 dX10_accrue_34 ?_
        refine lv_lload_n hx hb dX10_accrue_35 rfl (lv_at hl 0 rfl) ?_
        refine lv_lconst (v := (0)) hx hb dX10_accrue_36 (by decide) ?_
        refine j_lcmp_le (tgt := 53) hx hb dX10_accrue_37 dX10_accrue_38 (by decide) (fun hc => ?_) (fun hc => ?_)
        · have hw := hw.1 hc
          refine lv_lconst (v := (0)) hx hb dX10_accrue_53 (by decide) ?_
          exact kX10_accrue_54 hX ih hw hI (lv_sub hl [1, 2, 0] rfl) (by omega) (by omega)
        · have hw := hw.2 hc
          refine lv_lload_n hx hb dX10_accrue_41 rfl (lv_at hl 0 rfl) ?_
          refine j_aload_n (r := (some b)) hx hb dX10_accrue_42 rfl (lv_at hl 1 rfl) ?_
          obtain ⟨v11, hv11, hw⟩ := hw
          refine j_getz (C := RX10) (T := TX10) (N := 25) (ci := 12) (r := (some b)) (v := va_rf v11) hx hb hfX10 hown hK hI rfl 11 (by decide) (hts (.fieldLink RX10 35 "CashPoolsModel" "creditRate" "[I") (List.mem_of_getElem? (i := 3) (by decide +kernel))) (fun _ h => h) hv11 dX10_accrue_43 ?_
          refine lv_iload_n hx hb dX10_accrue_46 rfl (lv_at hl 2 rfl) ?_
          obtain ⟨v12, hv12, hw⟩ := hw
          refine j_ialdz (r := v11) hx hb hK hI hv12 dX10_accrue_47 ?_
          refine lv_i2l hx hb dX10_accrue_48 rfl ?_
          refine lv_lmul hx hb dX10_accrue_49 ?_
          refine lv_goto (tgt := 54) hx hb dX10_accrue_50 (by decide) ?_
          exact kX10_accrue_54 hX ih hw hI (lv_sub hl [1, 2, 0] rfl) (by omega) (by omega)
set_option maxHeartbeats 4000000 in
set_option maxRecDepth 100000 in
theorem kX10_accrue_0 {b : Nat} (hX : jX2 D z A p l s m args meth c yX10_accrue cX10_accrue 7 wsX10_accrue none) {Q : Unit → jM → Prop}   {μ : jM} {H : Heap} {locs : List Loc} {ls : Array Slot} {cells slots : Nat} (hw : wX10_accrue_0 z b Q  μ) (hI : jIz D z A s.heap μ H locs) (hl : lv_has ls 7 [(0, va_rf (some b))]) (hcn : cells + 0 ≤ 0) (hsn : slots + 0 ≤ 0) : W p l e rmX10_accrue s m args below meth c H locs cells slots (MQ below (jRz jfV Q D z A) args s 0 0 A) (F0 m 0 ls []) := by
  unfold wX10_accrue_0 at hw
  obtain ⟨hx, hb, hml, hown, hts, hr, hlocks, hnm, hK, hG, hfl⟩ := id hX
  have hown : s.vm.findClass RX10 = some m.cls := hown
  refine lv_iconst (v := (0)) hx hb dX10_accrue_0 (by decide) ?_
  refine lv_topi (fun v1 ev1 => ?_)
  have hw := hw v1 ev1
  refine lv_istore_n (lv' := [(1, .int v1), (0, va_rf (some b))]) hx hb dX10_accrue_1 rfl hl (by decide) rfl (fun ls hl => ?_)
  obtain ⟨n2, hw⟩ := hw
  exact kX10_accrue_2 hX  n2 hw hI (lv_sub hl [1, 0] rfl) (by omega) (by omega)
set_option maxHeartbeats 4000000 in
set_option maxRecDepth 100000 in
theorem kX10_accrue (l : Launch) (hfl : l.stackTraces = false) (D : jD) (z : Nat × Nat) (b : Nat)  (μ : jM) (sz : Nat) (Q : Unit → jM → Prop) : Met l yX10_accrue wsX10_accrue rmX10_accrue (jPre2z D z μ sz [.ref b] (wX10_accrue z b  μ Q)) (jRz jfV Q D z (jA z μ sz)) 0 0 (jA z μ sz) := by
  refine Met.ofW (cc := cX10_accrue) (maxL := 7) (ret := none) (by decide) rfl ?_
  intro p e s m args below meth c s₁ B hml hv
  obtain ⟨rfl, hsz, hH, hz0, hK, hG, hw⟩ := hv
  subst hsz
  have hX : jX2 D z (jA z μ s.heap.size) p l s m _ meth c yX10_accrue cX10_accrue 7 wsX10_accrue none := ⟨B.exec, B.bytes, hml, findClass_of_methodNamed B.named, atoms_spec (ws := wsX10_accrue) B.pre, B.returns, B.notSynchronized, (name_of_methodNamed B.named B.method).1, hK, hG, hfl⟩
  obtain ⟨ls, hg, hl⟩ : ∃ ls : Array Slot, entryFrame m ([.ref b] : List Value).toArray 7 = F0 m 0 ls [] ∧ lv_has ls 7 [(0, va_rf (some b))] := by
    exact ⟨_, lg_entry_eq .., lv_entry _ (n := 7) (Nat.le_of_ble_eq_true rfl)⟩
  rw [hg]
  exact kX10_accrue_0 hX hw (jIz.start hH hz0) (lv_sub hl [0] rfl) (by decide) (by decide)
set_option maxHeartbeats 4000000 in
set_option maxRecDepth 100000 in
theorem kX10_gets_0 {b : Nat} (hX : jX2 D z A p l s m args meth c yX10_gets cX10_gets 4 wsX10_gets none) {Q : Unit → jM → Prop}  {x1 : Int32} {x2 : Int64} {μ : jM} {H : Heap} {locs : List Loc} {ls : Array Slot} {cells slots : Nat} (hw : wX10_gets_0 z b Q x1 x2 μ) (hI : jIz D z A s.heap μ H locs) (hl : lv_has ls 4 [(0, va_rf (some b)), (1, .int x1), (2, .long x2)]) (hcn : cells + 0 ≤ 0) (hsn : slots + 0 ≤ 0) : W p l e rmX10_gets s m args below meth c H locs cells slots (MQ below (jRz jfV Q D z A) args s 0 0 A) (F0 m 0 ls []) := by
  unfold wX10_gets_0 at hw
  obtain ⟨hx, hb, hml, hown, hts, hr, hlocks, hnm, hK, hG, hfl⟩ := id hX
  have hown : s.vm.findClass RX10 = some m.cls := hown
  have hfX10 : ∀ w ∈ wsX100, w.before args s = true := fun w h => hts w (List.mem_cons_of_mem _ (List.mem_append_right _ h))
  refine j_aload_n (r := (some b)) hx hb dX10_gets_0 rfl (lv_at hl 0 rfl) ?_
  obtain ⟨v1, hv1, hw⟩ := hw
  refine j_getz (C := RX10) (T := TX10) (N := 25) (ci := 12) (r := (some b)) (v := va_rf v1) hx hb hfX10 hown hK hI rfl 3 (by decide) (hts (.fieldLink RX10 7 "CashPoolsModel" "z" "[J") (List.mem_of_getElem? (i := 1) (by decide +kernel))) (fun _ h => h) hv1 dX10_gets_1 ?_
  refine lv_iconst (v := (0)) hx hb dX10_gets_4 (by decide) ?_
  refine lv_iload_n hx hb dX10_gets_5 rfl (lv_at hl 1 rfl) ?_
  refine lv_iadd hx hb dX10_gets_6 ?_
  refine lv_dup2_11 hx hb dX10_gets_7 rfl (jrc v1) ?_
  obtain ⟨v2, hv2, hw⟩ := hw
  refine j_laldz (r := v1) hx hb hK hI hv2 dX10_gets_8 ?_
  refine lv_lload_n hx hb dX10_gets_9 rfl (lv_at hl 2 rfl) ?_
  refine lv_ladd hx hb dX10_gets_10 ?_
  obtain ⟨μ3, hμ3, hw⟩ := hw
  refine j_lastz (r := v1) hx hb hK hI hμ3 dX10_gets_11 (fun H locs hI => ?_)
  refine j_aload_n (r := (some b)) hx hb dX10_gets_12 rfl (lv_at hl 0 rfl) ?_
  obtain ⟨v4, hv4, hw⟩ := hw
  refine j_getz (C := RX10) (T := TX10) (N := 25) (ci := 12) (r := (some b)) (v := va_rf v4) hx hb hfX10 hown hK hI rfl 3 (by decide) (hts (.fieldLink RX10 7 "CashPoolsModel" "z" "[J") (List.mem_of_getElem? (i := 1) (by decide +kernel))) (fun _ h => h) hv4 dX10_gets_13 ?_
  refine lv_bipush (v := (50)) hx hb dX10_gets_16 (by decide) ?_
  refine lv_iload_n hx hb dX10_gets_18 rfl (lv_at hl 1 rfl) ?_
  refine lv_iadd hx hb dX10_gets_19 ?_
  refine lv_dup2_11 hx hb dX10_gets_20 rfl (jrc v4) ?_
  obtain ⟨v5, hv5, hw⟩ := hw
  refine j_laldz (r := v4) hx hb hK hI hv5 dX10_gets_21 ?_
  refine lv_lload_n hx hb dX10_gets_22 rfl (lv_at hl 2 rfl) ?_
  refine lv_ladd hx hb dX10_gets_23 ?_
  obtain ⟨μ6, hμ6, hw⟩ := hw
  refine j_lastz (r := v4) hx hb hK hI hμ6 dX10_gets_24 (fun H locs hI => ?_)
  exact j_vretz hx hb hr hlocks hI hw (by omega) (by omega) dX10_gets_25
set_option maxHeartbeats 4000000 in
set_option maxRecDepth 100000 in
theorem kX10_gets (l : Launch) (hfl : l.stackTraces = false) (D : jD) (z : Nat × Nat) (b : Nat) (x1 : Int32) (x2 : Int64) (μ : jM) (sz : Nat) (Q : Unit → jM → Prop) : Met l yX10_gets wsX10_gets rmX10_gets (jPre2z D z μ sz [.ref b, .int x1, .long x2] (wX10_gets z b x1 x2 μ Q)) (jRz jfV Q D z (jA z μ sz)) 0 0 (jA z μ sz) := by
  refine Met.ofW (cc := cX10_gets) (maxL := 4) (ret := none) (by decide) rfl ?_
  intro p e s m args below meth c s₁ B hml hv
  obtain ⟨rfl, hsz, hH, hz0, hK, hG, hw⟩ := hv
  subst hsz
  have hX : jX2 D z (jA z μ s.heap.size) p l s m _ meth c yX10_gets cX10_gets 4 wsX10_gets none := ⟨B.exec, B.bytes, hml, findClass_of_methodNamed B.named, atoms_spec (ws := wsX10_gets) B.pre, B.returns, B.notSynchronized, (name_of_methodNamed B.named B.method).1, hK, hG, hfl⟩
  obtain ⟨ls, hg, hl⟩ : ∃ ls : Array Slot, entryFrame m ([.ref b, .int x1, .long x2] : List Value).toArray 4 = F0 m 0 ls [] ∧ lv_has ls 4 [(0, va_rf (some b)), (1, .int x1), (2, .long x2)] := by
    exact ⟨_, lg_entry_eq .., lv_entry _ (n := 4) (Nat.le_of_ble_eq_true rfl)⟩
  rw [hg]
  exact kX10_gets_0 hX hw (jIz.start hH hz0) (lv_sub hl [0, 1, 2] rfl) (by decide) (by decide)
end
