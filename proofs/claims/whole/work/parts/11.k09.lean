section
variable {p : Program} {l : Launch} {e : Env} {s : State} {m : MethodId} {args : Array Value} {below : List Frame} {meth : Method} {c : Code} {D : jD} {z : Nat × Nat} {A : Nat → Prop}
set_option maxHeartbeats 4000000 in
set_option maxRecDepth 100000 in
theorem kX3_goBack_112 {b : Nat} (hX : jX2 D z A p l s m args meth c yX3_goBack cX3_goBack 2 wsX3_goBack none) {Q : Unit → jM → Prop}  (n : Nat) : ∀ {x1 : Int32} {μ : jM} {H : Heap} {locs : List Loc} {ls : Array Slot} {cells slots : Nat}, wX3_goBack_112 z b Q n x1 μ → jIz D z A s.heap μ H locs → lv_has ls 2 [(0, va_rf (some b)), (1, .int x1)] → cells + 0 ≤ 0 → slots + 0 ≤ 0 → W p l e rmX3_goBack s m args below meth c H locs cells slots (MQ below (jRz jfV Q D z A) args s 0 0 A) (F0 m 112 ls []) := by
  induction n with
  | zero =>
    intros
    rename_i hw _ _ _ _
    exact (show False from hw).elim
  | succ n ih =>
    intro x1 μ H locs ls cells slots hw hI hl hcn hsn
    have hw : wX3_goBack_112_b z b Q (wX3_goBack_112 z b Q n) x1 μ := hw
    unfold wX3_goBack_112_b at hw
    obtain ⟨hx, hb, hml, hown, hts, hr, hlocks, hnm, hK, hG, hfl⟩ := id hX
    have hown : s.vm.findClass RX3 = some m.cls := hown
    have hfX3 : ∀ w ∈ wsX30, w.before args s = true := fun w h => hts w (List.mem_cons_of_mem _ (List.mem_append_left _ (List.mem_append_left _ (List.mem_append_left _ (List.mem_append_left _ (List.mem_append_left _ (List.mem_append_left _ (List.mem_append_right _ h))))))))
    refine lv_iload_n hx hb dX3_goBack_112 rfl (lv_at hl 1 rfl) ?_
    refine j_aload_n (r := (some b)) hx hb dX3_goBack_113 rfl (lv_at hl 0 rfl) ?_
    obtain ⟨v1, hv1, hw⟩ := hw
    refine j_getz (C := RX3) (T := TX3) (N := 8) (ci := 6) (r := (some b)) (v := va_rf v1) hx hb hfX3 hown hK hI rfl 3 (by decide) (hts (.fieldLink RX3 24 "CashPools$Desk" "everyFlow" "Ljava/util/ArrayList;") (List.mem_of_getElem? (i := 9) (by decide +kernel))) (fun _ h => h) hv1 dX3_goBack_114 ?_
    obtain ⟨b4, ⟨hrb4, hfs⟩, hw⟩ := hw
    refine j_goz hI (va_runV (As := []) (rest := [.int x1]) ⟨hx, hb, hml, hown, hts⟩ (kJx4a65c_size_8abf5 l hfl D z b4  μ H.size _) (cwV 0 hts gX3_goBack_Jx4a65c_size_8abf5 rfl rfl rfl (by decide +kernel) ⟨Nat.le_of_ble_eq_true rfl, Nat.le_of_ble_eq_true rfl⟩) (j_prV2z hK hG hI hw (ci := 2) rfl hfs) rfl rfl hl.1 (by rw [hrb4]; rfl) (lv_room (Nat.le_of_ble_eq_true rfl)) dX3_goBack_117 ⟨by show _ ≤ 0; omega, by show _ ≤ 0; omega⟩) (fun v2 μ3 H locs hw hI => ?_)
    refine W.eq (g2 := F0 m 120 ls [.int v2, .int x1]) rfl ?_
    refine lv_icmp_ge (tgt := 143) hx hb dX3_goBack_120 (by decide) (fun hc => ?_) (fun hc => ?_)
    · have hw := hw.1 hc
      exact j_vretz hx hb hr hlocks hI hw (by omega) (by omega) dX3_goBack_143
    · have hw := hw.2 hc
      refine j_aload_n (r := (some b)) hx hb dX3_goBack_123 rfl (lv_at hl 0 rfl) ?_
      obtain ⟨v5, hv5, hw⟩ := hw
      refine j_getz (C := RX3) (T := TX3) (N := 8) (ci := 6) (r := (some b)) (v := va_rf v5) hx hb hfX3 hown hK hI rfl 3 (by decide) (hts (.fieldLink RX3 24 "CashPools$Desk" "everyFlow" "Ljava/util/ArrayList;") (List.mem_of_getElem? (i := 9) (by decide +kernel))) (fun _ h => h) hv5 dX3_goBack_124 ?_
      refine lv_iload_n hx hb dX3_goBack_127 rfl (lv_at hl 1 rfl) ?_
      obtain ⟨b8, ⟨hrb8, hfs⟩, hw⟩ := hw
      refine j_goz hI (va_runV (As := [.int x1]) (rest := []) ⟨hx, hb, hml, hown, hts⟩ (kJx4a65c_get_915e3 l hfl D z b8 x1 μ3 H.size _) (cwV 1 hts gX3_goBack_Jx4a65c_get_915e3 rfl rfl rfl (by decide +kernel) ⟨Nat.le_of_ble_eq_true rfl, Nat.le_of_ble_eq_true rfl⟩) (j_prV2z hK hG hI hw (ci := 2) rfl hfs) rfl rfl hl.1 (by rw [hrb8]; rfl) (lv_room (Nat.le_of_ble_eq_true rfl)) dX3_goBack_128 ⟨by show _ ≤ 0; omega, by show _ ≤ 0; omega⟩) (fun v6 μ7 H locs hw hI => ?_)
      refine W.eq (g2 := F0 m 131 ls [va_rf v6]) rfl ?_
      obtain ⟨h9, hw⟩ := hw
      refine j_castz (C := RX4) (T := TX4) (N := 7) (ci := 7) (r := v6) hx hb hown (hts (.classLink RX3 113 "CashPools$Flow") (List.mem_of_getElem? (i := 10) (by decide +kernel))) hK hI rfl h9 dX3_goBack_131 ?_
      obtain ⟨b12, ⟨hrb12, hfs⟩, hw⟩ := hw
      refine j_goz hI (va_runV (As := []) (rest := []) ⟨hx, hb, hml, hown, hts⟩ (kX4_goBack l hfl D z b12  μ7 H.size _) (cwV 0 hts gX3_goBack_X4_goBack rfl rfl rfl (by decide +kernel) ⟨Nat.le_of_ble_eq_true rfl, Nat.le_of_ble_eq_true rfl⟩) (j_prV2z hK hG hI hw (ci := 7) rfl hfs) rfl rfl hl.1 (by rw [hrb12]; rfl) (lv_room (Nat.le_of_ble_eq_true rfl)) dX3_goBack_134 ⟨by show _ ≤ 0; omega, by show _ ≤ 0; omega⟩) (fun u10 μ11 H locs hw hI => ?_)
      refine W.eq (g2 := F0 m 137 ls []) rfl ?_
      obtain ⟨v13, ev13⟩ : ∃ y : Int32, y = x1 + (1 : Int32) := ⟨_, rfl⟩
      have hw := hw v13 ev13
      refine lv_iinc (v := v13) (lv' := [(1, .int v13), (0, va_rf (some b))]) hx hb dX3_goBack_137 hl (k := 1) rfl (by rw [ev13]; rfl) (by decide) rfl (fun ls hl => ?_)
      refine lv_goto (tgt := 112) hx hb dX3_goBack_140 (by decide) ?_
      exact ih hw hI (lv_sub hl [1, 0] rfl) (by omega) (by omega)
set_option maxHeartbeats 4000000 in
set_option maxRecDepth 100000 in
theorem kX3_goBack_79 {b : Nat} (hX : jX2 D z A p l s m args meth c yX3_goBack cX3_goBack 2 wsX3_goBack none) {Q : Unit → jM → Prop}  (n : Nat) : ∀ {x1 : Int32} {μ : jM} {H : Heap} {locs : List Loc} {ls : Array Slot} {cells slots : Nat}, wX3_goBack_79 z b Q n x1 μ → jIz D z A s.heap μ H locs → lv_has ls 2 [(0, va_rf (some b)), (1, .int x1)] → cells + 0 ≤ 0 → slots + 0 ≤ 0 → W p l e rmX3_goBack s m args below meth c H locs cells slots (MQ below (jRz jfV Q D z A) args s 0 0 A) (F0 m 79 ls []) := by
  induction n with
  | zero =>
    intros
    rename_i hw _ _ _ _
    exact (show False from hw).elim
  | succ n ih =>
    intro x1 μ H locs ls cells slots hw hI hl hcn hsn
    have hw : wX3_goBack_79_b z b Q (wX3_goBack_79 z b Q n) x1 μ := hw
    unfold wX3_goBack_79_b at hw
    obtain ⟨hx, hb, hml, hown, hts, hr, hlocks, hnm, hK, hG, hfl⟩ := id hX
    have hown : s.vm.findClass RX3 = some m.cls := hown
    have hfX3 : ∀ w ∈ wsX30, w.before args s = true := fun w h => hts w (List.mem_cons_of_mem _ (List.mem_append_left _ (List.mem_append_left _ (List.mem_append_left _ (List.mem_append_left _ (List.mem_append_left _ (List.mem_append_left _ (List.mem_append_right _ h))))))))
    refine lv_iload_n hx hb dX3_goBack_79 rfl (lv_at hl 1 rfl) ?_
    refine j_aload_n (r := (some b)) hx hb dX3_goBack_80 rfl (lv_at hl 0 rfl) ?_
    obtain ⟨v1, hv1, hw⟩ := hw
    refine j_getz (C := RX3) (T := TX3) (N := 8) (ci := 6) (r := (some b)) (v := va_rf v1) hx hb hfX3 hown hK hI rfl 2 (by decide) (hts (.fieldLink RX3 21 "CashPools$Desk" "everyLine" "Ljava/util/ArrayList;") (List.mem_of_getElem? (i := 7) (by decide +kernel))) (fun _ h => h) hv1 dX3_goBack_81 ?_
    obtain ⟨b4, ⟨hrb4, hfs⟩, hw⟩ := hw
    refine j_goz hI (va_runV (As := []) (rest := [.int x1]) ⟨hx, hb, hml, hown, hts⟩ (kJx4a65c_size_8abf5 l hfl D z b4  μ H.size _) (cwV 0 hts gX3_goBack_Jx4a65c_size_8abf5 rfl rfl rfl (by decide +kernel) ⟨Nat.le_of_ble_eq_true rfl, Nat.le_of_ble_eq_true rfl⟩) (j_prV2z hK hG hI hw (ci := 2) rfl hfs) rfl rfl hl.1 (by rw [hrb4]; rfl) (lv_room (Nat.le_of_ble_eq_true rfl)) dX3_goBack_84 ⟨by show _ ≤ 0; omega, by show _ ≤ 0; omega⟩) (fun v2 μ3 H locs hw hI => ?_)
    refine W.eq (g2 := F0 m 87 ls [.int v2, .int x1]) rfl ?_
    refine lv_icmp_ge (tgt := 110) hx hb dX3_goBack_87 (by decide) (fun hc => ?_) (fun hc => ?_)
    · have hw := hw.1 hc
      refine lv_iconst (v := (0)) hx hb dX3_goBack_110 (by decide) ?_
      refine lv_topi (fun v5 ev5 => ?_)
      have hw := hw v5 ev5
      refine lv_istore_n (lv' := [(1, .int v5), (0, va_rf (some b))]) hx hb dX3_goBack_111 rfl hl (by decide) rfl (fun ls hl => ?_)
      obtain ⟨n6, hw⟩ := hw
      exact kX3_goBack_112 hX  n6 hw hI (lv_sub hl [1, 0] rfl) (by omega) (by omega)
    · have hw := hw.2 hc
      refine j_aload_n (r := (some b)) hx hb dX3_goBack_90 rfl (lv_at hl 0 rfl) ?_
      obtain ⟨v7, hv7, hw⟩ := hw
      refine j_getz (C := RX3) (T := TX3) (N := 8) (ci := 6) (r := (some b)) (v := va_rf v7) hx hb hfX3 hown hK hI rfl 2 (by decide) (hts (.fieldLink RX3 21 "CashPools$Desk" "everyLine" "Ljava/util/ArrayList;") (List.mem_of_getElem? (i := 7) (by decide +kernel))) (fun _ h => h) hv7 dX3_goBack_91 ?_
      refine lv_iload_n hx hb dX3_goBack_94 rfl (lv_at hl 1 rfl) ?_
      obtain ⟨b10, ⟨hrb10, hfs⟩, hw⟩ := hw
      refine j_goz hI (va_runV (As := [.int x1]) (rest := []) ⟨hx, hb, hml, hown, hts⟩ (kJx4a65c_get_915e3 l hfl D z b10 x1 μ3 H.size _) (cwV 1 hts gX3_goBack_Jx4a65c_get_915e3 rfl rfl rfl (by decide +kernel) ⟨Nat.le_of_ble_eq_true rfl, Nat.le_of_ble_eq_true rfl⟩) (j_prV2z hK hG hI hw (ci := 2) rfl hfs) rfl rfl hl.1 (by rw [hrb10]; rfl) (lv_room (Nat.le_of_ble_eq_true rfl)) dX3_goBack_95 ⟨by show _ ≤ 0; omega, by show _ ≤ 0; omega⟩) (fun v8 μ9 H locs hw hI => ?_)
      refine W.eq (g2 := F0 m 98 ls [va_rf v8]) rfl ?_
      obtain ⟨h11, hw⟩ := hw
      refine j_castz (C := RX5) (T := TX5) (N := 9) (ci := 8) (r := v8) hx hb hown (hts (.classLink RX3 74 "CashPools$Line") (List.mem_of_getElem? (i := 8) (by decide +kernel))) hK hI rfl h11 dX3_goBack_98 ?_
      obtain ⟨b14, ⟨hrb14, hfs⟩, hw⟩ := hw
      refine j_goz hI (va_runV (As := []) (rest := []) ⟨hx, hb, hml, hown, hts⟩ (kX5_goBack l hfl D z b14  μ9 H.size _) (cwV 0 hts gX3_goBack_X5_goBack rfl rfl rfl (by decide +kernel) ⟨Nat.le_of_ble_eq_true rfl, Nat.le_of_ble_eq_true rfl⟩) (j_prV2z hK hG hI hw (ci := 8) rfl hfs) rfl rfl hl.1 (by rw [hrb14]; rfl) (lv_room (Nat.le_of_ble_eq_true rfl)) dX3_goBack_101 ⟨by show _ ≤ 0; omega, by show _ ≤ 0; omega⟩) (fun u12 μ13 H locs hw hI => ?_)
      refine W.eq (g2 := F0 m 104 ls []) rfl ?_
      obtain ⟨v15, ev15⟩ : ∃ y : Int32, y = x1 + (1 : Int32) := ⟨_, rfl⟩
      have hw := hw v15 ev15
      refine lv_iinc (v := v15) (lv' := [(1, .int v15), (0, va_rf (some b))]) hx hb dX3_goBack_104 hl (k := 1) rfl (by rw [ev15]; rfl) (by decide) rfl (fun ls hl => ?_)
      refine lv_goto (tgt := 79) hx hb dX3_goBack_107 (by decide) ?_
      exact ih hw hI (lv_sub hl [1, 0] rfl) (by omega) (by omega)
set_option maxHeartbeats 4000000 in
set_option maxRecDepth 100000 in
theorem kX3_goBack_43 {b : Nat} (hX : jX2 D z A p l s m args meth c yX3_goBack cX3_goBack 2 wsX3_goBack none) {Q : Unit → jM → Prop}  (n : Nat) : ∀ {x1 : Int32} {μ : jM} {H : Heap} {locs : List Loc} {ls : Array Slot} {cells slots : Nat}, wX3_goBack_43 z b Q n x1 μ → jIz D z A s.heap μ H locs → lv_has ls 2 [(0, va_rf (some b)), (1, .int x1)] → cells + 0 ≤ 0 → slots + 0 ≤ 0 → W p l e rmX3_goBack s m args below meth c H locs cells slots (MQ below (jRz jfV Q D z A) args s 0 0 A) (F0 m 43 ls []) := by
  induction n with
  | zero =>
    intros
    rename_i hw _ _ _ _
    exact (show False from hw).elim
  | succ n ih =>
    intro x1 μ H locs ls cells slots hw hI hl hcn hsn
    have hw : wX3_goBack_43_b z b Q (wX3_goBack_43 z b Q n) x1 μ := hw
    unfold wX3_goBack_43_b at hw
    obtain ⟨hx, hb, hml, hown, hts, hr, hlocks, hnm, hK, hG, hfl⟩ := id hX
    have hown : s.vm.findClass RX3 = some m.cls := hown
    have hfX0 : ∀ w ∈ wsX00, w.before args s = true := fun w h => hts w (List.mem_cons_of_mem _ (List.mem_append_left _ (List.mem_append_left _ (List.mem_append_left _ (List.mem_append_left _ (List.mem_append_left _ (List.mem_append_right _ h)))))))
    have hfX3 : ∀ w ∈ wsX30, w.before args s = true := fun w h => hts w (List.mem_cons_of_mem _ (List.mem_append_left _ (List.mem_append_left _ (List.mem_append_left _ (List.mem_append_left _ (List.mem_append_left _ (List.mem_append_left _ (List.mem_append_right _ h))))))))
    refine lv_iload_n hx hb dX3_goBack_43 rfl (lv_at hl 1 rfl) ?_
    refine j_aload_n (r := (some b)) hx hb dX3_goBack_44 rfl (lv_at hl 0 rfl) ?_
    obtain ⟨v1, hv1, hw⟩ := hw
    refine j_getz (C := RX3) (T := TX3) (N := 8) (ci := 6) (r := (some b)) (v := va_rf v1) hx hb hfX3 hown hK hI rfl 1 (by decide) (hts (.fieldLink RX3 18 "CashPools$Desk" "tops" "Ljava/util/ArrayList;") (List.mem_of_getElem? (i := 5) (by decide +kernel))) (fun _ h => h) hv1 dX3_goBack_45 ?_
    obtain ⟨b4, ⟨hrb4, hfs⟩, hw⟩ := hw
    refine j_goz hI (va_runV (As := []) (rest := [.int x1]) ⟨hx, hb, hml, hown, hts⟩ (kJx4a65c_size_8abf5 l hfl D z b4  μ H.size _) (cwV 0 hts gX3_goBack_Jx4a65c_size_8abf5 rfl rfl rfl (by decide +kernel) ⟨Nat.le_of_ble_eq_true rfl, Nat.le_of_ble_eq_true rfl⟩) (j_prV2z hK hG hI hw (ci := 2) rfl hfs) rfl rfl hl.1 (by rw [hrb4]; rfl) (lv_room (Nat.le_of_ble_eq_true rfl)) dX3_goBack_48 ⟨by show _ ≤ 0; omega, by show _ ≤ 0; omega⟩) (fun v2 μ3 H locs hw hI => ?_)
    refine W.eq (g2 := F0 m 51 ls [.int v2, .int x1]) rfl ?_
    refine lv_icmp_ge (tgt := 77) hx hb dX3_goBack_51 (by decide) (fun hc => ?_) (fun hc => ?_)
    · have hw := hw.1 hc
      refine lv_iconst (v := (0)) hx hb dX3_goBack_77 (by decide) ?_
      refine lv_topi (fun v5 ev5 => ?_)
      have hw := hw v5 ev5
      refine lv_istore_n (lv' := [(1, .int v5), (0, va_rf (some b))]) hx hb dX3_goBack_78 rfl hl (by decide) rfl (fun ls hl => ?_)
      obtain ⟨n6, hw⟩ := hw
      exact kX3_goBack_79 hX  n6 hw hI (lv_sub hl [1, 0] rfl) (by omega) (by omega)
    · have hw := hw.2 hc
      refine j_aload_n (r := (some b)) hx hb dX3_goBack_54 rfl (lv_at hl 0 rfl) ?_
      obtain ⟨v7, hv7, hw⟩ := hw
      refine j_getz (C := RX3) (T := TX3) (N := 8) (ci := 6) (r := (some b)) (v := va_rf v7) hx hb hfX3 hown hK hI rfl 1 (by decide) (hts (.fieldLink RX3 18 "CashPools$Desk" "tops" "Ljava/util/ArrayList;") (List.mem_of_getElem? (i := 5) (by decide +kernel))) (fun _ h => h) hv7 dX3_goBack_55 ?_
      refine lv_iload_n hx hb dX3_goBack_58 rfl (lv_at hl 1 rfl) ?_
      obtain ⟨b10, ⟨hrb10, hfs⟩, hw⟩ := hw
      refine j_goz hI (va_runV (As := [.int x1]) (rest := []) ⟨hx, hb, hml, hown, hts⟩ (kJx4a65c_get_915e3 l hfl D z b10 x1 μ3 H.size _) (cwV 1 hts gX3_goBack_Jx4a65c_get_915e3 rfl rfl rfl (by decide +kernel) ⟨Nat.le_of_ble_eq_true rfl, Nat.le_of_ble_eq_true rfl⟩) (j_prV2z hK hG hI hw (ci := 2) rfl hfs) rfl rfl hl.1 (by rw [hrb10]; rfl) (lv_room (Nat.le_of_ble_eq_true rfl)) dX3_goBack_59 ⟨by show _ ≤ 0; omega, by show _ ≤ 0; omega⟩) (fun v8 μ9 H locs hw hI => ?_)
      refine W.eq (g2 := F0 m 62 ls [va_rf v8]) rfl ?_
      obtain ⟨h11, hw⟩ := hw
      refine j_castz (C := RX0) (T := TX0) (N := 12) (ci := 3) (r := v8) hx hb hown (hts (.classLink RX3 55 "CashPools$Account") (List.mem_of_getElem? (i := 4) (by decide +kernel))) hK hI rfl h11 dX3_goBack_62 ?_
      obtain ⟨v12, hv12, hw⟩ := hw
      refine j_getz (C := RX0) (T := TX0) (N := 12) (ci := 3) (r := v8) (v := va_rf v12) hx hb hfX0 hown hK hI rfl 2 (by decide) (hts (.fieldLink RX3 64 "CashPools$Account" "pool" "LCashPools$Pool;") (List.mem_of_getElem? (i := 6) (by decide +kernel))) (fun _ h => h) hv12 dX3_goBack_65 ?_
      obtain ⟨b15, ⟨hrb15, hfs⟩, hw⟩ := hw
      refine j_goz hI (va_runV (As := []) (rest := []) ⟨hx, hb, hml, hown, hts⟩ (kX6_goBack l hfl D z b15  μ9 H.size _) (cwV 0 hts gX3_goBack_X6_goBack rfl rfl rfl (by decide +kernel) ⟨Nat.le_of_ble_eq_true rfl, Nat.le_of_ble_eq_true rfl⟩) (j_prV2z hK hG hI hw (ci := 9) rfl hfs) rfl rfl hl.1 (by rw [hrb15]; rfl) (lv_room (Nat.le_of_ble_eq_true rfl)) dX3_goBack_68 ⟨by show _ ≤ 0; omega, by show _ ≤ 0; omega⟩) (fun u13 μ14 H locs hw hI => ?_)
      refine W.eq (g2 := F0 m 71 ls []) rfl ?_
      obtain ⟨v16, ev16⟩ : ∃ y : Int32, y = x1 + (1 : Int32) := ⟨_, rfl⟩
      have hw := hw v16 ev16
      refine lv_iinc (v := v16) (lv' := [(1, .int v16), (0, va_rf (some b))]) hx hb dX3_goBack_71 hl (k := 1) rfl (by rw [ev16]; rfl) (by decide) rfl (fun ls hl => ?_)
      refine lv_goto (tgt := 43) hx hb dX3_goBack_74 (by decide) ?_
      exact ih hw hI (lv_sub hl [1, 0] rfl) (by omega) (by omega)
set_option maxHeartbeats 4000000 in
set_option maxRecDepth 100000 in
theorem kX3_goBack_10 {b : Nat} (hX : jX2 D z A p l s m args meth c yX3_goBack cX3_goBack 2 wsX3_goBack none) {Q : Unit → jM → Prop}  (n : Nat) : ∀ {x1 : Int32} {μ : jM} {H : Heap} {locs : List Loc} {ls : Array Slot} {cells slots : Nat}, wX3_goBack_10 z b Q n x1 μ → jIz D z A s.heap μ H locs → lv_has ls 2 [(0, va_rf (some b)), (1, .int x1)] → cells + 0 ≤ 0 → slots + 0 ≤ 0 → W p l e rmX3_goBack s m args below meth c H locs cells slots (MQ below (jRz jfV Q D z A) args s 0 0 A) (F0 m 10 ls []) := by
  induction n with
  | zero =>
    intros
    rename_i hw _ _ _ _
    exact (show False from hw).elim
  | succ n ih =>
    intro x1 μ H locs ls cells slots hw hI hl hcn hsn
    have hw : wX3_goBack_10_b z b Q (wX3_goBack_10 z b Q n) x1 μ := hw
    unfold wX3_goBack_10_b at hw
    obtain ⟨hx, hb, hml, hown, hts, hr, hlocks, hnm, hK, hG, hfl⟩ := id hX
    have hown : s.vm.findClass RX3 = some m.cls := hown
    have hfX3 : ∀ w ∈ wsX30, w.before args s = true := fun w h => hts w (List.mem_cons_of_mem _ (List.mem_append_left _ (List.mem_append_left _ (List.mem_append_left _ (List.mem_append_left _ (List.mem_append_left _ (List.mem_append_left _ (List.mem_append_right _ h))))))))
    refine lv_iload_n hx hb dX3_goBack_10 rfl (lv_at hl 1 rfl) ?_
    refine j_aload_n (r := (some b)) hx hb dX3_goBack_11 rfl (lv_at hl 0 rfl) ?_
    obtain ⟨v1, hv1, hw⟩ := hw
    refine j_getz (C := RX3) (T := TX3) (N := 8) (ci := 6) (r := (some b)) (v := va_rf v1) hx hb hfX3 hown hK hI rfl 0 (by decide) (hts (.fieldLink RX3 12 "CashPools$Desk" "everyAccount" "Ljava/util/ArrayList;") (List.mem_of_getElem? (i := 3) (by decide +kernel))) (fun _ h => h) hv1 dX3_goBack_12 ?_
    obtain ⟨b4, ⟨hrb4, hfs⟩, hw⟩ := hw
    refine j_goz hI (va_runV (As := []) (rest := [.int x1]) ⟨hx, hb, hml, hown, hts⟩ (kJx4a65c_size_8abf5 l hfl D z b4  μ H.size _) (cwV 0 hts gX3_goBack_Jx4a65c_size_8abf5 rfl rfl rfl (by decide +kernel) ⟨Nat.le_of_ble_eq_true rfl, Nat.le_of_ble_eq_true rfl⟩) (j_prV2z hK hG hI hw (ci := 2) rfl hfs) rfl rfl hl.1 (by rw [hrb4]; rfl) (lv_room (Nat.le_of_ble_eq_true rfl)) dX3_goBack_15 ⟨by show _ ≤ 0; omega, by show _ ≤ 0; omega⟩) (fun v2 μ3 H locs hw hI => ?_)
    refine W.eq (g2 := F0 m 18 ls [.int v2, .int x1]) rfl ?_
    refine lv_icmp_ge (tgt := 41) hx hb dX3_goBack_18 (by decide) (fun hc => ?_) (fun hc => ?_)
    · have hw := hw.1 hc
      refine lv_iconst (v := (0)) hx hb dX3_goBack_41 (by decide) ?_
      refine lv_topi (fun v5 ev5 => ?_)
      have hw := hw v5 ev5
      refine lv_istore_n (lv' := [(1, .int v5), (0, va_rf (some b))]) hx hb dX3_goBack_42 rfl hl (by decide) rfl (fun ls hl => ?_)
      obtain ⟨n6, hw⟩ := hw
      exact kX3_goBack_43 hX  n6 hw hI (lv_sub hl [1, 0] rfl) (by omega) (by omega)
    · have hw := hw.2 hc
      refine j_aload_n (r := (some b)) hx hb dX3_goBack_21 rfl (lv_at hl 0 rfl) ?_
      obtain ⟨v7, hv7, hw⟩ := hw
      refine j_getz (C := RX3) (T := TX3) (N := 8) (ci := 6) (r := (some b)) (v := va_rf v7) hx hb hfX3 hown hK hI rfl 0 (by decide) (hts (.fieldLink RX3 12 "CashPools$Desk" "everyAccount" "Ljava/util/ArrayList;") (List.mem_of_getElem? (i := 3) (by decide +kernel))) (fun _ h => h) hv7 dX3_goBack_22 ?_
      refine lv_iload_n hx hb dX3_goBack_25 rfl (lv_at hl 1 rfl) ?_
      obtain ⟨b10, ⟨hrb10, hfs⟩, hw⟩ := hw
      refine j_goz hI (va_runV (As := [.int x1]) (rest := []) ⟨hx, hb, hml, hown, hts⟩ (kJx4a65c_get_915e3 l hfl D z b10 x1 μ3 H.size _) (cwV 1 hts gX3_goBack_Jx4a65c_get_915e3 rfl rfl rfl (by decide +kernel) ⟨Nat.le_of_ble_eq_true rfl, Nat.le_of_ble_eq_true rfl⟩) (j_prV2z hK hG hI hw (ci := 2) rfl hfs) rfl rfl hl.1 (by rw [hrb10]; rfl) (lv_room (Nat.le_of_ble_eq_true rfl)) dX3_goBack_26 ⟨by show _ ≤ 0; omega, by show _ ≤ 0; omega⟩) (fun v8 μ9 H locs hw hI => ?_)
      refine W.eq (g2 := F0 m 29 ls [va_rf v8]) rfl ?_
      obtain ⟨h11, hw⟩ := hw
      refine j_castz (C := RX0) (T := TX0) (N := 12) (ci := 3) (r := v8) hx hb hown (hts (.classLink RX3 55 "CashPools$Account") (List.mem_of_getElem? (i := 4) (by decide +kernel))) hK hI rfl h11 dX3_goBack_29 ?_
      obtain ⟨b14, ⟨hrb14, hfs⟩, hw⟩ := hw
      refine j_goz hI (va_runV (As := []) (rest := []) ⟨hx, hb, hml, hown, hts⟩ (kX0_goBack l hfl D z b14  μ9 H.size _) (cwV 0 hts gX3_goBack_X0_goBack rfl rfl rfl (by decide +kernel) ⟨Nat.le_of_ble_eq_true rfl, Nat.le_of_ble_eq_true rfl⟩) (j_prV2z hK hG hI hw (ci := 3) rfl hfs) rfl rfl hl.1 (by rw [hrb14]; rfl) (lv_room (Nat.le_of_ble_eq_true rfl)) dX3_goBack_32 ⟨by show _ ≤ 0; omega, by show _ ≤ 0; omega⟩) (fun u12 μ13 H locs hw hI => ?_)
      refine W.eq (g2 := F0 m 35 ls []) rfl ?_
      obtain ⟨v15, ev15⟩ : ∃ y : Int32, y = x1 + (1 : Int32) := ⟨_, rfl⟩
      have hw := hw v15 ev15
      refine lv_iinc (v := v15) (lv' := [(1, .int v15), (0, va_rf (some b))]) hx hb dX3_goBack_35 hl (k := 1) rfl (by rw [ev15]; rfl) (by decide) rfl (fun ls hl => ?_)
      refine lv_goto (tgt := 10) hx hb dX3_goBack_38 (by decide) ?_
      exact ih hw hI (lv_sub hl [1, 0] rfl) (by omega) (by omega)
set_option maxHeartbeats 4000000 in
set_option maxRecDepth 100000 in
theorem kX3_goBack_0 {b : Nat} (hX : jX2 D z A p l s m args meth c yX3_goBack cX3_goBack 2 wsX3_goBack none) {Q : Unit → jM → Prop}   {μ : jM} {H : Heap} {locs : List Loc} {ls : Array Slot} {cells slots : Nat} (hw : wX3_goBack_0 z b Q  μ) (hI : jIz D z A s.heap μ H locs) (hl : lv_has ls 2 [(0, va_rf (some b))]) (hcn : cells + 0 ≤ 0) (hsn : slots + 0 ≤ 0) : W p l e rmX3_goBack s m args below meth c H locs cells slots (MQ below (jRz jfV Q D z A) args s 0 0 A) (F0 m 0 ls []) := by
  unfold wX3_goBack_0 at hw
  obtain ⟨hx, hb, hml, hown, hts, hr, hlocks, hnm, hK, hG, hfl⟩ := id hX
  have hown : s.vm.findClass RX3 = some m.cls := hown
  have hfX3 : ∀ w ∈ wsX30, w.before args s = true := fun w h => hts w (List.mem_cons_of_mem _ (List.mem_append_left _ (List.mem_append_left _ (List.mem_append_left _ (List.mem_append_left _ (List.mem_append_left _ (List.mem_append_left _ (List.mem_append_right _ h))))))))
  refine j_aload_n (r := (some b)) hx hb dX3_goBack_0 rfl (lv_at hl 0 rfl) ?_
  refine j_aload_n (r := (some b)) hx hb dX3_goBack_1 rfl (lv_at hl 0 rfl) ?_
  obtain ⟨v1, hv1, hw⟩ := hw
  refine j_getz (C := RX3) (T := TX3) (N := 8) (ci := 6) (r := (some b)) (v := .int v1) hx hb hfX3 hown hK hI rfl 7 (by decide) (hts (.fieldLink RX3 193 "CashPools$Desk" "keptDay" "I") (List.mem_of_getElem? (i := 1) (by decide +kernel))) (fun _ h => h) hv1 dX3_goBack_2 ?_
  obtain ⟨μ2, hμ2, hw⟩ := hw
  refine j_putz (C := RX3) (T := TX3) (N := 8) (ci := 6) (r := (some b)) (v := .int v1) hx hb hfX3 tyX3 tyX3_ok nmX3 hown hK hI rfl 6 (by decide) (hts (.fieldLink RX3 83 "CashPools$Desk" "day" "I") (List.mem_of_getElem? (i := 2) (by decide +kernel))) (fun _ h => h) rfl (tyX3_ok 6 (by decide)) rfl rfl hμ2 dX3_goBack_5 (fun H locs hI => ?_)
  refine lv_iconst (v := (0)) hx hb dX3_goBack_8 (by decide) ?_
  refine lv_topi (fun v3 ev3 => ?_)
  have hw := hw v3 ev3
  refine lv_istore_n (lv' := [(1, .int v3), (0, va_rf (some b))]) hx hb dX3_goBack_9 rfl hl (by decide) rfl (fun ls hl => ?_)
  obtain ⟨n4, hw⟩ := hw
  exact kX3_goBack_10 hX  n4 hw hI (lv_sub hl [1, 0] rfl) (by omega) (by omega)
set_option maxHeartbeats 4000000 in
set_option maxRecDepth 100000 in
theorem kX3_goBack (l : Launch) (hfl : l.stackTraces = false) (D : jD) (z : Nat × Nat) (b : Nat)  (μ : jM) (sz : Nat) (Q : Unit → jM → Prop) : Met l yX3_goBack wsX3_goBack rmX3_goBack (jPre2z D z μ sz [.ref b] (wX3_goBack z b  μ Q)) (jRz jfV Q D z (jA z μ sz)) 0 0 (jA z μ sz) := by
  refine Met.ofW (cc := cX3_goBack) (maxL := 2) (ret := none) (by decide) rfl ?_
  intro p e s m args below meth c s₁ B hml hv
  obtain ⟨rfl, hsz, hH, hz0, hK, hG, hw⟩ := hv
  subst hsz
  have hX : jX2 D z (jA z μ s.heap.size) p l s m _ meth c yX3_goBack cX3_goBack 2 wsX3_goBack none := ⟨B.exec, B.bytes, hml, findClass_of_methodNamed B.named, atoms_spec (ws := wsX3_goBack) B.pre, B.returns, B.notSynchronized, (name_of_methodNamed B.named B.method).1, hK, hG, hfl⟩
  obtain ⟨ls, hg, hl⟩ : ∃ ls : Array Slot, entryFrame m ([.ref b] : List Value).toArray 2 = F0 m 0 ls [] ∧ lv_has ls 2 [(0, va_rf (some b))] := by
    exact ⟨_, lg_entry_eq .., lv_entry _ (n := 2) (Nat.le_of_ble_eq_true rfl)⟩
  rw [hg]
  exact kX3_goBack_0 hX hw (jIz.start hH hz0) (lv_sub hl [0] rfl) (by decide) (by decide)
set_option maxHeartbeats 4000000 in
set_option maxRecDepth 100000 in
theorem kX9_afterSweepByMoves_0 {b : Nat} (hX : jX2 D z A p l s m args meth c yX9_afterSweepByMoves cX9_afterSweepByMoves 5 wsX9_afterSweepByMoves (some .long)) (hno : ∀ x ∈ c.exceptionTable.toList, False) {Q : Int64 → jM → Prop} {X : String → jM → Prop}  {x1 : Int32} {μ : jM} {H : Heap} {locs : List Loc} {ls : Array Slot} {cells slots : Nat} (hw : wX9_afterSweepByMoves_0 z b Q X x1 μ) (hI : jIz D z A s.heap μ H locs) (hl : lv_has ls 5 [(0, va_rf (some b)), (1, .int x1)]) (hcn : cells + 1 ≤ 1) (hsn : slots + 6 ≤ 6) : W p l e rmX9_afterSweepByMoves s m args below meth c H locs cells slots (vx_MQ below (jRz jfJ Q D z A) (jXCz X D z A) args s 1 6 A) (F0 m 0 ls []) := by
  unfold wX9_afterSweepByMoves_0 at hw
  obtain ⟨hx, hb, hml, hown, hts, hr, hlocks, hnm, hK, hG, hfl⟩ := id hX
  have hown : s.vm.findClass RX9 = some m.cls := hown
  have hfX0 : ∀ w ∈ wsX00, w.before args s = true := fun w h => hts w (List.mem_cons_of_mem _ (List.mem_append_left _ (List.mem_append_left _ (List.mem_append_left _ (List.mem_append_left _ (List.mem_append_left _ (List.mem_append_left _ (List.mem_append_left _ (List.mem_append_right _ h)))))))))
  have hfX9 : ∀ w ∈ wsX90, w.before args s = true := fun w h => hts w (List.mem_cons_of_mem _ (List.mem_append_left _ (List.mem_append_left _ (List.mem_append_left _ (List.mem_append_left _ (List.mem_append_left _ (List.mem_append_left _ (List.mem_append_left _ (List.mem_append_left _ (List.mem_append_right _ h))))))))))
  refine j_aload_n (r := (some b)) hx hb dX9_afterSweepByMoves_0 rfl (lv_at hl 0 rfl) ?_
  refine lv_iload_n hx hb dX9_afterSweepByMoves_1 rfl (lv_at hl 1 rfl) ?_
  obtain ⟨hfs, hw⟩ := hw
  refine j_goXz hI (vx_runV (As := [.int x1]) (rest := []) ⟨hx, hb, hml, hown, hts⟩ (kX9_accountAt l hfl D z b x1 μ H.size _ _) (cwV 1 hts gX9_afterSweepByMoves_X9_accountAt rfl rfl rfl (by decide +kernel) ⟨Nat.le_of_ble_eq_true rfl, Nat.le_of_ble_eq_true rfl⟩) (j_prV2z hK hG hI hw (ci := 11) rfl hfs) rfl rfl hl.1 rfl (lv_room (Nat.le_of_ble_eq_true rfl)) dX9_afterSweepByMoves_2 ⟨by show _ ≤ 1; omega, by show _ ≤ 6; omega⟩) (fun E ce q9 μX H locs hw hI hce hcv hcl => ?_) (fun v1 μ2 H locs hw hI => ?_)
  · exact j_outz hno hlocks hI hce hcv hcl hw (by omega) (by omega)
  refine W.eq (g2 := F0 m 5 ls [va_rf v1]) rfl ?_
  refine j_astore_n (r := v1) (lv' := [(2, va_rf v1), (0, va_rf (some b)), (1, .int x1)]) hx hb dX9_afterSweepByMoves_5 rfl hl (by decide) rfl (fun ls hl => ?_)
  refine j_aload_n (r := (some b)) hx hb dX9_afterSweepByMoves_6 rfl (lv_at hl 1 rfl) ?_
  obtain ⟨v3, hv3, hw⟩ := hw
  refine j_getz (C := RX9) (T := TX9) (N := 1) (ci := 11) (r := (some b)) (v := va_rf v3) hx hb hfX9 hown hK hI rfl 0 (by decide) (hts (.fieldLink RX9 10 "CashPools" "desk" "LCashPools$Desk;") (List.mem_of_getElem? (i := 1) (by decide +kernel))) (fun _ h => h) hv3 dX9_afterSweepByMoves_7 ?_
  obtain ⟨b6, ⟨hrb6, hfs⟩, hw⟩ := hw
  refine j_goz hI (va_runV (As := []) (rest := []) ⟨hx, hb, hml, hown, hts⟩ (kX3_keep l hfl D z b6  μ2 H.size _) (cwV 0 hts gX9_afterSweepByMoves_X3_keep rfl rfl rfl (by decide +kernel) ⟨Nat.le_of_ble_eq_true rfl, Nat.le_of_ble_eq_true rfl⟩) (j_prV2z hK hG hI hw (ci := 6) rfl hfs) rfl rfl hl.1 (by rw [hrb6]; rfl) (lv_room (Nat.le_of_ble_eq_true rfl)) dX9_afterSweepByMoves_10 ⟨by show _ ≤ 1; omega, by show _ ≤ 6; omega⟩) (fun u4 μ5 H locs hw hI => ?_)
  refine W.eq (g2 := F0 m 13 ls []) rfl ?_
  refine j_aload_n (r := (some b)) hx hb dX9_afterSweepByMoves_13 rfl (lv_at hl 1 rfl) ?_
  obtain ⟨v7, hv7, hw⟩ := hw
  refine j_getz (C := RX9) (T := TX9) (N := 1) (ci := 11) (r := (some b)) (v := va_rf v7) hx hb hfX9 hown hK hI rfl 0 (by decide) (hts (.fieldLink RX9 10 "CashPools" "desk" "LCashPools$Desk;") (List.mem_of_getElem? (i := 1) (by decide +kernel))) (fun _ h => h) hv7 dX9_afterSweepByMoves_14 ?_
  obtain ⟨b10, ⟨hrb10, hfs⟩, hw⟩ := hw
  refine j_goz hI (va_runV (As := []) (rest := []) ⟨hx, hb, hml, hown, hts⟩ (kX3_sweepPools l hfl D z b10  μ5 H.size _) (cwV 0 hts gX9_afterSweepByMoves_X3_sweepPools rfl rfl rfl (by decide +kernel) ⟨Nat.le_of_ble_eq_true rfl, Nat.le_of_ble_eq_true rfl⟩) (j_prV2z hK hG hI hw (ci := 6) rfl hfs) rfl rfl hl.1 (by rw [hrb10]; rfl) (lv_room (Nat.le_of_ble_eq_true rfl)) dX9_afterSweepByMoves_17 ⟨by show _ ≤ 1; omega, by show _ ≤ 6; omega⟩) (fun u8 μ9 H locs hw hI => ?_)
  refine W.eq (g2 := F0 m 20 ls []) rfl ?_
  refine j_aload_n (r := v1) hx hb dX9_afterSweepByMoves_20 rfl (lv_at hl 0 rfl) ?_
  obtain ⟨v11, hv11, hw⟩ := hw
  refine j_getz (C := RX0) (T := TX0) (N := 12) (ci := 3) (r := v1) (v := .long v11) hx hb hfX0 hown hK hI rfl 8 (by decide) (hts (.fieldLink RX9 119 "CashPools$Account" "cash" "J") (List.mem_of_getElem? (i := 2) (by decide +kernel))) (fun _ h => h) hv11 dX9_afterSweepByMoves_21 ?_
  refine j_lstore_nA (r := v1) (F := fun w => [(2, w), (0, va_rf (some b)), (1, .int x1)]) (F2 := fun w => [(3, .long v11), (2, w), (0, va_rf (some b)), (1, .int x1)]) hx hb dX9_afterSweepByMoves_24 rfl hl (by decide) (fun w hw => by rcases hw with rfl | ⟨_, rfl⟩ <;> rfl) (fun ls hl => ?_)
  refine j_aload_n (r := (some b)) hx hb dX9_afterSweepByMoves_25 rfl (lv_at hl 2 rfl) ?_
  obtain ⟨v12, hv12, hw⟩ := hw
  refine j_getz (C := RX9) (T := TX9) (N := 1) (ci := 11) (r := (some b)) (v := va_rf v12) hx hb hfX9 hown hK hI rfl 0 (by decide) (hts (.fieldLink RX9 10 "CashPools" "desk" "LCashPools$Desk;") (List.mem_of_getElem? (i := 1) (by decide +kernel))) (fun _ h => h) hv12 dX9_afterSweepByMoves_26 ?_
  obtain ⟨b15, ⟨hrb15, hfs⟩, hw⟩ := hw
  refine j_goz hI (va_runV (As := []) (rest := []) ⟨hx, hb, hml, hown, hts⟩ (kX3_goBack l hfl D z b15  μ9 H.size _) (cwV 0 hts gX9_afterSweepByMoves_X3_goBack rfl rfl rfl (by decide +kernel) ⟨Nat.le_of_ble_eq_true rfl, Nat.le_of_ble_eq_true rfl⟩) (j_prV2z hK hG hI hw (ci := 6) rfl hfs) rfl rfl hl.1 (by rw [hrb15]; rfl) (lv_room (Nat.le_of_ble_eq_true rfl)) dX9_afterSweepByMoves_29 ⟨by show _ ≤ 1; omega, by show _ ≤ 6; omega⟩) (fun u13 μ14 H locs hw hI => ?_)
  refine W.eq (g2 := F0 m 32 ls []) rfl ?_
  refine lv_lload_n hx hb dX9_afterSweepByMoves_32 rfl (lv_at hl 0 rfl) ?_
  exact vx_ret (j_lretz hx hb hr hlocks hI hw (by omega) (by omega) dX9_afterSweepByMoves_33)
set_option maxHeartbeats 4000000 in
set_option maxRecDepth 100000 in
theorem kX9_afterSweepByMoves (l : Launch) (hfl : l.stackTraces = false) (D : jD) (z : Nat × Nat) (b : Nat) (x1 : Int32) (μ : jM) (sz : Nat) (Q : Int64 → jM → Prop) (X : String → jM → Prop) : vx_Met l yX9_afterSweepByMoves wsX9_afterSweepByMoves rmX9_afterSweepByMoves (jPre2z D z μ sz [.ref b, .int x1] (wX9_afterSweepByMoves z b x1 μ Q X)) (jRz jfJ Q D z (jA z μ sz)) (jXCz X D z (jA z μ sz)) 1 6 (jA z μ sz) := by
  refine vx_ofW (cc := cX9_afterSweepByMoves) (maxL := 5) (ret := (some .long)) (by decide) rfl ?_
  intro p e s m args below meth c s₁ B hml hno hv
  obtain ⟨rfl, hsz, hH, hz0, hK, hG, hw⟩ := hv
  subst hsz
  have hX : jX2 D z (jA z μ s.heap.size) p l s m _ meth c yX9_afterSweepByMoves cX9_afterSweepByMoves 5 wsX9_afterSweepByMoves (some .long) := ⟨B.exec, B.bytes, hml, findClass_of_methodNamed B.named, atoms_spec (ws := wsX9_afterSweepByMoves) B.pre, B.returns, B.notSynchronized, (name_of_methodNamed B.named B.method).1, hK, hG, hfl⟩
  obtain ⟨ls, hg, hl⟩ : ∃ ls : Array Slot, entryFrame m ([.ref b, .int x1] : List Value).toArray 5 = F0 m 0 ls [] ∧ lv_has ls 5 [(0, va_rf (some b)), (1, .int x1)] := by
    exact ⟨_, lg_entry_eq .., lv_entry _ (n := 5) (Nat.le_of_ble_eq_true rfl)⟩
  rw [hg]
  exact kX9_afterSweepByMoves_0 hX hno hw (jIz.start hH hz0) (lv_sub hl [0, 1] rfl) (by decide) (by decide)
set_option maxHeartbeats 4000000 in
set_option maxRecDepth 100000 in
theorem kL_afterSweepByMoves_0 (hX : jX2 D z A p l s m args meth c yL_afterSweepByMoves cL_afterSweepByMoves 4 wsL_afterSweepByMoves (some .int)) (htab : c.exceptionTable.toList = ([⟨0, 8, 11, 21⟩] : List ExceptionTableEntry)) {Q : Int32 → jM → Prop}  {x0 : Option Nat} {x1 : Int32} {x2 : Option Nat} {μ : jM} {H : Heap} {locs : List Loc} {ls : Array Slot} {cells slots : Nat} (hw : wL_afterSweepByMoves_0 z Q x0 x1 x2 μ) (hI : jIz D z A s.heap μ H locs) (hl : lv_has ls 4 [(0, va_rf x0), (1, .int x1), (2, va_rf x2)]) (hcn : cells + 1 ≤ 1) (hsn : slots + 6 ≤ 6) : W p l e rmL_afterSweepByMoves s m args below meth c H locs cells slots (vx_MQ below (jRz jfI Q D z A) (jXCz (fun _ _ => False) D z A) args s 1 6 A) (F0 m 0 ls []) := by
  unfold wL_afterSweepByMoves_0 at hw
  obtain ⟨hx, hb, hml, hown, hts, hr, hlocks, hnm, hK, hG, hfl⟩ := id hX
  have hown : s.vm.findClass RL = some m.cls := hown
  refine j_aload_n (r := x2) hx hb dL_afterSweepByMoves_0 rfl (lv_at hl 2 rfl) ?_
  refine lv_iconst (v := (0)) hx hb dL_afterSweepByMoves_1 (by decide) ?_
  refine j_aload_n (r := x0) hx hb dL_afterSweepByMoves_2 rfl (lv_at hl 0 rfl) ?_
  refine lv_iload_n hx hb dL_afterSweepByMoves_3 rfl (lv_at hl 1 rfl) ?_
  obtain ⟨b3, ⟨hrb3, hfs⟩, hw⟩ := hw
  refine j_goXz hI (vx_runV (As := [.int x1]) (rest := [.int (0 : Int32), va_rf x2]) ⟨hx, hb, hml, hown, hts⟩ (kX9_afterSweepByMoves l hfl D z b3 x1 μ H.size _ _) (cwV 1 hts gL_afterSweepByMoves_X9_afterSweepByMoves rfl rfl rfl (by decide +kernel) ⟨Nat.le_of_ble_eq_true rfl, Nat.le_of_ble_eq_true rfl⟩) (j_prV2z hK hG hI hw (ci := 11) rfl hfs) rfl rfl hl.1 (by rw [hrb3]; rfl) (lv_room (by simp only [List.map, List.sum_cons, List.sum_nil, jrc, jci, jcl, jcr, jcn]; exact Nat.le_of_ble_eq_true rfl)) dL_afterSweepByMoves_4 ⟨by show _ ≤ 1; omega, by show _ ≤ 6; omega⟩) (fun E ce q9 μX H locs hw hI hce hcv hcl => ?_) (fun v1 μ2 H locs hw hI => ?_)
  · obtain ⟨hw, rfl⟩ := hw
    · have hw := hw rfl
      refine vx_catch hown [] ⟨0, 8, 11, 21⟩ [] (name := "java/lang/IndexOutOfBoundsException") htab (fun z hz => absurd hz List.not_mem_nil) (by decide) (by decide) (hts (.classLink RL 21 "java/lang/IndexOutOfBoundsException") (List.mem_of_getElem? (i := 1) (by decide +kernel))) (va_Nw.use rfl (hG.2.2.2.2.2.2.2.2.1 _ (by decide +kernel))) hce hcv hcl ?_
      refine W.eq (g2 := F0 m 11 ls [va_rf (some q9)]) rfl ?_
      refine j_astore_nA (r := x2) (r0 := (some q9)) (F := fun w => [(0, va_rf x0), (1, .int x1), (2, w)]) (F2 := fun w => [(3, va_rf (some q9)), (0, va_rf x0), (1, .int x1), (2, w)]) hx hb dL_afterSweepByMoves_11 rfl hl (by decide) (fun w hw => by rcases hw with rfl | ⟨_, rfl⟩ <;> rfl) (fun ls hl => ?_)
      refine lv_iconst (v := (1)) hx hb dL_afterSweepByMoves_12 (by decide) ?_
      exact vx_ret (j_iretz hx hb hr hlocks hI hw (by omega) (by omega) dL_afterSweepByMoves_13)
  refine W.eq (g2 := F0 m 7 ls [.long v1, .int (0 : Int32), va_rf x2]) rfl ?_
  obtain ⟨μ4, hμ4, hw⟩ := hw
  refine j_lastz (r := x2) hx hb hK hI hμ4 dL_afterSweepByMoves_7 (fun H locs hI => ?_)
  refine lv_goto (tgt := 14) hx hb dL_afterSweepByMoves_8 (by decide) ?_
  refine lv_iconst (v := (0)) hx hb dL_afterSweepByMoves_14 (by decide) ?_
  exact vx_ret (j_iretz hx hb hr hlocks hI hw (by omega) (by omega) dL_afterSweepByMoves_15)
set_option maxHeartbeats 4000000 in
set_option maxRecDepth 100000 in
theorem kL_afterSweepByMoves (l : Launch) (hfl : l.stackTraces = false) (D : jD) (z : Nat × Nat) (x0 : Option Nat) (x1 : Int32) (x2 : Option Nat) (μ : jM) (sz : Nat) (Q : Int32 → jM → Prop) : vx_Met l yL_afterSweepByMoves wsL_afterSweepByMoves rmL_afterSweepByMoves (jPre2z D z μ sz [va_rf x0, .int x1, va_rf x2] (wL_afterSweepByMoves z x0 x1 x2 μ Q)) (jRz jfI Q D z (jA z μ sz)) (jXCz (fun _ _ => False) D z (jA z μ sz)) 1 6 (jA z μ sz) := by
  refine vx_ofWH (cc := cL_afterSweepByMoves) (maxL := 4) (ret := (some .int)) (by decide) rfl ?_
  intro p e s m args below meth c s₁ B hml hv
  obtain ⟨rfl, hsz, hH, hz0, hK, hG, hw⟩ := hv
  subst hsz
  have hX : jX2 D z (jA z μ s.heap.size) p l s m _ meth c yL_afterSweepByMoves cL_afterSweepByMoves 4 wsL_afterSweepByMoves (some .int) := ⟨B.exec, B.bytes, hml, findClass_of_methodNamed B.named, atoms_spec (ws := wsL_afterSweepByMoves) B.pre, B.returns, B.notSynchronized, (name_of_methodNamed B.named B.method).1, hK, hG, hfl⟩
  obtain ⟨ls, hg, hl⟩ : ∃ ls : Array Slot, entryFrame m ([va_rf x0, .int x1, va_rf x2] : List Value).toArray 4 = F0 m 0 ls [] ∧ lv_has ls 4 [(0, va_rf x0), (1, .int x1), (2, va_rf x2)] := by
    cases x0 <;> cases x2 <;> exact ⟨_, lg_entry_eq .., lv_entry _ (n := 4) (Nat.le_of_ble_eq_true rfl)⟩
  rw [hg]
  exact kL_afterSweepByMoves_0 hX ((vx_table (x := yL_afterSweepByMoves) B (atoms_spec (ws := wsL_afterSweepByMoves) B.pre _ (List.mem_of_getElem? (i := 0) rfl))).trans rfl) hw (jIz.start hH hz0) (lv_sub hl [0, 1, 2] rfl) (by decide) (by decide)
set_option maxHeartbeats 4000000 in
set_option maxRecDepth 100000 in
theorem kX9_forecast_23 {b : Nat} (hX : jX2 D z A p l s m args meth c yX9_forecast cX9_forecast 6 wsX9_forecast (some .long)) (hno : ∀ x ∈ c.exceptionTable.toList, False) {Q : Int64 → jM → Prop} {X : String → jM → Prop}  (n : Nat) : ∀ {x2 : Int32} {x3 : Option Nat} {x4 : Int32} {μ : jM} {H : Heap} {locs : List Loc} {ls : Array Slot} {cells slots : Nat}, wX9_forecast_23 z b Q X n x2 x3 x4 μ → jIz D z A s.heap μ H locs → lv_has ls 6 [(0, va_rf (some b)), (2, .int x2), (3, va_rf x3), (4, .int x4)] → cells + 0 ≤ 2 → slots + 0 ≤ 12 → W p l e rmX9_forecast s m args below meth c H locs cells slots (vx_MQ below (jRz jfJ Q D z A) (jXCz X D z A) args s 2 12 A) (F0 m 23 ls []) := by
  induction n with
  | zero =>
    intros
    rename_i hw _ _ _ _
    exact (show False from hw).elim
  | succ n ih =>
    intro x2 x3 x4 μ H locs ls cells slots hw hI hl hcn hsn
    have hw : wX9_forecast_23_b z b Q X (wX9_forecast_23 z b Q X n) x2 x3 x4 μ := hw
    unfold wX9_forecast_23_b at hw
    obtain ⟨hx, hb, hml, hown, hts, hr, hlocks, hnm, hK, hG, hfl⟩ := id hX
    have hown : s.vm.findClass RX9 = some m.cls := hown
    have hfX0 : ∀ w ∈ wsX00, w.before args s = true := fun w h => hts w (List.mem_cons_of_mem _ (List.mem_append_left _ (List.mem_append_left _ (List.mem_append_left _ (List.mem_append_left _ (List.mem_append_left _ (List.mem_append_left _ (List.mem_append_left _ (List.mem_append_left _ (List.mem_append_left _ (List.mem_append_left _ (List.mem_append_right _ h))))))))))))
    have hfX9 : ∀ w ∈ wsX90, w.before args s = true := fun w h => hts w (List.mem_cons_of_mem _ (List.mem_append_left _ (List.mem_append_left _ (List.mem_append_left _ (List.mem_append_left _ (List.mem_append_left _ (List.mem_append_left _ (List.mem_append_left _ (List.mem_append_left _ (List.mem_append_left _ (List.mem_append_left _ (List.mem_append_left _ (List.mem_append_right _ h)))))))))))))
    refine lv_iload hx hb dX9_forecast_23 (lv_at hl 3 rfl) ?_
    refine lv_iload_n hx hb dX9_forecast_25 rfl (lv_at hl 1 rfl) ?_
    refine lv_icmp_ge (tgt := 42) hx hb dX9_forecast_26 (by decide) (fun hc => ?_) (fun hc => ?_)
    · have hw := hw.1 hc
      refine j_aload_n (r := x3) hx hb dX9_forecast_42 rfl (lv_at hl 2 rfl) ?_
      obtain ⟨v1, hv1, hw⟩ := hw
      refine j_getz (C := RX0) (T := TX0) (N := 12) (ci := 3) (r := x3) (v := .long v1) hx hb hfX0 hown hK hI rfl 8 (by decide) (hts (.fieldLink RX9 119 "CashPools$Account" "cash" "J") (List.mem_of_getElem? (i := 2) (by decide +kernel))) (fun _ h => h) hv1 dX9_forecast_43 ?_
      refine j_lstoreA (r := x3) (F := fun w => [(0, va_rf (some b)), (2, .int x2), (3, w), (4, .int x4)]) (F2 := fun w => [(4, .long v1), (0, va_rf (some b)), (2, .int x2), (3, w)]) hx hb dX9_forecast_46 hl (by decide) (fun w hw => by rcases hw with rfl | ⟨_, rfl⟩ <;> rfl) (fun ls hl => ?_)
      refine j_aload_n (r := (some b)) hx hb dX9_forecast_48 rfl (lv_at hl 1 rfl) ?_
      obtain ⟨v2, hv2, hw⟩ := hw
      refine j_getz (C := RX9) (T := TX9) (N := 1) (ci := 11) (r := (some b)) (v := va_rf v2) hx hb hfX9 hown hK hI rfl 0 (by decide) (hts (.fieldLink RX9 10 "CashPools" "desk" "LCashPools$Desk;") (List.mem_of_getElem? (i := 1) (by decide +kernel))) (fun _ h => h) hv2 dX9_forecast_49 ?_
      obtain ⟨b5, ⟨hrb5, hfs⟩, hw⟩ := hw
      refine j_goz hI (va_runV (As := []) (rest := []) ⟨hx, hb, hml, hown, hts⟩ (kX3_goBack l hfl D z b5  μ H.size _) (cwV 0 hts gX9_forecast_X3_goBack rfl rfl rfl (by decide +kernel) ⟨Nat.le_of_ble_eq_true rfl, Nat.le_of_ble_eq_true rfl⟩) (j_prV2z hK hG hI hw (ci := 6) rfl hfs) rfl rfl hl.1 (by rw [hrb5]; rfl) (lv_room (Nat.le_of_ble_eq_true rfl)) dX9_forecast_52 ⟨by show _ ≤ 2; omega, by show _ ≤ 12; omega⟩) (fun u3 μ4 H locs hw hI => ?_)
      refine W.eq (g2 := F0 m 55 ls []) rfl ?_
      refine lv_lload hx hb dX9_forecast_55 (lv_at hl 0 rfl) ?_
      exact vx_ret (j_lretz hx hb hr hlocks hI hw (by omega) (by omega) dX9_forecast_57)
    · have hw := hw.2 hc
      refine j_aload_n (r := (some b)) hx hb dX9_forecast_29 rfl (lv_at hl 0 rfl) ?_
      obtain ⟨v6, hv6, hw⟩ := hw
      refine j_getz (C := RX9) (T := TX9) (N := 1) (ci := 11) (r := (some b)) (v := va_rf v6) hx hb hfX9 hown hK hI rfl 0 (by decide) (hts (.fieldLink RX9 10 "CashPools" "desk" "LCashPools$Desk;") (List.mem_of_getElem? (i := 1) (by decide +kernel))) (fun _ h => h) hv6 dX9_forecast_30 ?_
      obtain ⟨b9, ⟨hrb9, hfs⟩, hw⟩ := hw
      refine j_goz hI (va_runV (As := []) (rest := []) ⟨hx, hb, hml, hown, hts⟩ (kX3_passDay l hfl D z b9  μ H.size _) (cwV 0 hts gX9_forecast_X3_passDay rfl rfl rfl (by decide +kernel) ⟨Nat.le_of_ble_eq_true rfl, Nat.le_of_ble_eq_true rfl⟩) (j_prV2z hK hG hI hw (ci := 6) rfl hfs) rfl rfl hl.1 (by rw [hrb9]; rfl) (lv_room (Nat.le_of_ble_eq_true rfl)) dX9_forecast_33 ⟨by show _ ≤ 2; omega, by show _ ≤ 12; omega⟩) (fun u7 μ8 H locs hw hI => ?_)
      refine W.eq (g2 := F0 m 36 ls []) rfl ?_
      obtain ⟨v10, ev10⟩ : ∃ y : Int32, y = x4 + (1 : Int32) := ⟨_, rfl⟩
      have hw := hw v10 ev10
      refine j_iincA (r := x3) (F := fun w => [(0, va_rf (some b)), (2, .int x2), (3, w), (4, .int x4)]) (F2 := fun w => [(4, .int v10), (0, va_rf (some b)), (2, .int x2), (3, w)]) (v := v10) hx hb dX9_forecast_36 hl (k := 3) (fun _ => rfl) (by rw [ev10]; rfl) (by decide) (fun w hw => by rcases hw with rfl | ⟨_, rfl⟩ <;> rfl) (fun ls hl => ?_)
      refine lv_goto (tgt := 23) hx hb dX9_forecast_39 (by decide) ?_
      exact ih hw hI (lv_sub hl [1, 2, 3, 0] rfl) (by omega) (by omega)
set_option maxHeartbeats 4000000 in
set_option maxRecDepth 100000 in
theorem kX9_forecast_0 {b : Nat} (hX : jX2 D z A p l s m args meth c yX9_forecast cX9_forecast 6 wsX9_forecast (some .long)) (hno : ∀ x ∈ c.exceptionTable.toList, False) {Q : Int64 → jM → Prop} {X : String → jM → Prop}  {x1 : Int32} {x2 : Int32} {μ : jM} {H : Heap} {locs : List Loc} {ls : Array Slot} {cells slots : Nat} (hw : wX9_forecast_0 z b Q X x1 x2 μ) (hI : jIz D z A s.heap μ H locs) (hl : lv_has ls 6 [(0, va_rf (some b)), (1, .int x1), (2, .int x2)]) (hcn : cells + 2 ≤ 2) (hsn : slots + 12 ≤ 12) : W p l e rmX9_forecast s m args below meth c H locs cells slots (vx_MQ below (jRz jfJ Q D z A) (jXCz X D z A) args s 2 12 A) (F0 m 0 ls []) := by
  unfold wX9_forecast_0 at hw
  obtain ⟨hx, hb, hml, hown, hts, hr, hlocks, hnm, hK, hG, hfl⟩ := id hX
  have hown : s.vm.findClass RX9 = some m.cls := hown
  have hfX9 : ∀ w ∈ wsX90, w.before args s = true := fun w h => hts w (List.mem_cons_of_mem _ (List.mem_append_left _ (List.mem_append_left _ (List.mem_append_left _ (List.mem_append_left _ (List.mem_append_left _ (List.mem_append_left _ (List.mem_append_left _ (List.mem_append_left _ (List.mem_append_left _ (List.mem_append_left _ (List.mem_append_left _ (List.mem_append_right _ h)))))))))))))
  refine j_aload_n (r := (some b)) hx hb dX9_forecast_0 rfl (lv_at hl 0 rfl) ?_
  refine lv_iload_n hx hb dX9_forecast_1 rfl (lv_at hl 1 rfl) ?_
  obtain ⟨hfs, hw⟩ := hw
  refine j_goXz hI (vx_runV (As := [.int x1]) (rest := []) ⟨hx, hb, hml, hown, hts⟩ (kX9_accountAt l hfl D z b x1 μ H.size _ _) (cwV 1 hts gX9_forecast_X9_accountAt rfl rfl rfl (by decide +kernel) ⟨Nat.le_of_ble_eq_true rfl, Nat.le_of_ble_eq_true rfl⟩) (j_prV2z hK hG hI hw (ci := 11) rfl hfs) rfl rfl hl.1 rfl (lv_room (Nat.le_of_ble_eq_true rfl)) dX9_forecast_2 ⟨by show _ ≤ 2; omega, by show _ ≤ 12; omega⟩) (fun E ce q9 μX H locs hw hI hce hcv hcl => ?_) (fun v1 μ2 H locs hw hI => ?_)
  · exact j_outz hno hlocks hI hce hcv hcl hw (by omega) (by omega)
  refine W.eq (g2 := F0 m 5 ls [va_rf v1]) rfl ?_
  refine j_astore_n (r := v1) (lv' := [(3, va_rf v1), (0, va_rf (some b)), (1, .int x1), (2, .int x2)]) hx hb dX9_forecast_5 rfl hl (by decide) rfl (fun ls hl => ?_)
  refine lv_iload_n hx hb dX9_forecast_6 rfl (lv_at hl 3 rfl) ?_
  refine lv_iconst (v := (1)) hx hb dX9_forecast_7 (by decide) ?_
  refine lv_bipush (v := (60)) hx hb dX9_forecast_8 (by decide) ?_
  refine j_goXz hI (vx_runS (As := [.int x2, .int (1 : Int32), .int (60 : Int32)]) (rest := []) ⟨hx, hb, hml, hown, hts⟩ (kX9_requireWithin l hfl D z x2 (1 : Int32) (60 : Int32) μ2 H.size _ _) (va_cwS 3 hts gX9_forecast_X9_requireWithin rfl rfl rfl (by decide +kernel) ⟨Nat.le_of_ble_eq_true rfl, Nat.le_of_ble_eq_true rfl⟩) (j_prS2z hK hG hI hw) rfl rfl hl.1 rfl (lv_room (Nat.le_of_ble_eq_true rfl)) dX9_forecast_10 ⟨by show _ ≤ 2; omega, by show _ ≤ 12; omega⟩) (fun E ce q9 μX H locs hw hI hce hcv hcl => ?_) (fun u3 μ4 H locs hw hI => ?_)
  · exact j_outz hno hlocks hI hce hcv hcl hw (by omega) (by omega)
  refine W.eq (g2 := F0 m 13 ls []) rfl ?_
  refine j_aload_n (r := (some b)) hx hb dX9_forecast_13 rfl (lv_at hl 1 rfl) ?_
  obtain ⟨v5, hv5, hw⟩ := hw
  refine j_getz (C := RX9) (T := TX9) (N := 1) (ci := 11) (r := (some b)) (v := va_rf v5) hx hb hfX9 hown hK hI rfl 0 (by decide) (hts (.fieldLink RX9 10 "CashPools" "desk" "LCashPools$Desk;") (List.mem_of_getElem? (i := 1) (by decide +kernel))) (fun _ h => h) hv5 dX9_forecast_14 ?_
  obtain ⟨b8, ⟨hrb8, hfs⟩, hw⟩ := hw
  refine j_goz hI (va_runV (As := []) (rest := []) ⟨hx, hb, hml, hown, hts⟩ (kX3_keep l hfl D z b8  μ4 H.size _) (cwV 0 hts gX9_forecast_X3_keep rfl rfl rfl (by decide +kernel) ⟨Nat.le_of_ble_eq_true rfl, Nat.le_of_ble_eq_true rfl⟩) (j_prV2z hK hG hI hw (ci := 6) rfl hfs) rfl rfl hl.1 (by rw [hrb8]; rfl) (lv_room (Nat.le_of_ble_eq_true rfl)) dX9_forecast_17 ⟨by show _ ≤ 2; omega, by show _ ≤ 12; omega⟩) (fun u6 μ7 H locs hw hI => ?_)
  refine W.eq (g2 := F0 m 20 ls []) rfl ?_
  refine lv_iconst (v := (0)) hx hb dX9_forecast_20 (by decide) ?_
  refine lv_topi (fun v9 ev9 => ?_)
  have hw := hw v9 ev9
  refine j_istoreA (r := v1) (F := fun w => [(3, w), (0, va_rf (some b)), (1, .int x1), (2, .int x2)]) (F2 := fun w => [(4, .int v9), (3, w), (0, va_rf (some b)), (1, .int x1), (2, .int x2)]) hx hb dX9_forecast_21 hl (by decide) (fun w hw => by rcases hw with rfl | ⟨_, rfl⟩ <;> rfl) (fun ls hl => ?_)
  obtain ⟨n10, hw⟩ := hw
  exact kX9_forecast_23 hX hno  n10 hw hI (lv_sub hl [2, 4, 1, 0] rfl) (by omega) (by omega)
set_option maxHeartbeats 4000000 in
set_option maxRecDepth 100000 in
theorem kX9_forecast (l : Launch) (hfl : l.stackTraces = false) (D : jD) (z : Nat × Nat) (b : Nat) (x1 : Int32) (x2 : Int32) (μ : jM) (sz : Nat) (Q : Int64 → jM → Prop) (X : String → jM → Prop) : vx_Met l yX9_forecast wsX9_forecast rmX9_forecast (jPre2z D z μ sz [.ref b, .int x1, .int x2] (wX9_forecast z b x1 x2 μ Q X)) (jRz jfJ Q D z (jA z μ sz)) (jXCz X D z (jA z μ sz)) 2 12 (jA z μ sz) := by
  refine vx_ofW (cc := cX9_forecast) (maxL := 6) (ret := (some .long)) (by decide) rfl ?_
  intro p e s m args below meth c s₁ B hml hno hv
  obtain ⟨rfl, hsz, hH, hz0, hK, hG, hw⟩ := hv
  subst hsz
  have hX : jX2 D z (jA z μ s.heap.size) p l s m _ meth c yX9_forecast cX9_forecast 6 wsX9_forecast (some .long) := ⟨B.exec, B.bytes, hml, findClass_of_methodNamed B.named, atoms_spec (ws := wsX9_forecast) B.pre, B.returns, B.notSynchronized, (name_of_methodNamed B.named B.method).1, hK, hG, hfl⟩
  obtain ⟨ls, hg, hl⟩ : ∃ ls : Array Slot, entryFrame m ([.ref b, .int x1, .int x2] : List Value).toArray 6 = F0 m 0 ls [] ∧ lv_has ls 6 [(0, va_rf (some b)), (1, .int x1), (2, .int x2)] := by
    exact ⟨_, lg_entry_eq .., lv_entry _ (n := 6) (Nat.le_of_ble_eq_true rfl)⟩
  rw [hg]
  exact kX9_forecast_0 hX hno hw (jIz.start hH hz0) (lv_sub hl [0, 1, 2] rfl) (by decide) (by decide)
set_option maxHeartbeats 4000000 in
set_option maxRecDepth 100000 in
theorem kL_forecast_0 (hX : jX2 D z A p l s m args meth c yL_forecast cL_forecast 5 wsL_forecast (some .int)) (htab : c.exceptionTable.toList = ([⟨0, 9, 12, 21⟩, ⟨0, 9, 16, 13⟩] : List ExceptionTableEntry)) {Q : Int32 → jM → Prop}  {x0 : Option Nat} {x1 : Int32} {x2 : Int32} {x3 : Option Nat} {μ : jM} {H : Heap} {locs : List Loc} {ls : Array Slot} {cells slots : Nat} (hw : wL_forecast_0 z Q x0 x1 x2 x3 μ) (hI : jIz D z A s.heap μ H locs) (hl : lv_has ls 5 [(0, va_rf x0), (1, .int x1), (2, .int x2), (3, va_rf x3)]) (hcn : cells + 2 ≤ 2) (hsn : slots + 12 ≤ 12) : W p l e rmL_forecast s m args below meth c H locs cells slots (vx_MQ below (jRz jfI Q D z A) (jXCz (fun _ _ => False) D z A) args s 2 12 A) (F0 m 0 ls []) := by
  unfold wL_forecast_0 at hw
  obtain ⟨hx, hb, hml, hown, hts, hr, hlocks, hnm, hK, hG, hfl⟩ := id hX
  have hown : s.vm.findClass RL = some m.cls := hown
  refine j_aload_n (r := x3) hx hb dL_forecast_0 rfl (lv_at hl 3 rfl) ?_
  refine lv_iconst (v := (0)) hx hb dL_forecast_1 (by decide) ?_
  refine j_aload_n (r := x0) hx hb dL_forecast_2 rfl (lv_at hl 0 rfl) ?_
  refine lv_iload_n hx hb dL_forecast_3 rfl (lv_at hl 1 rfl) ?_
  refine lv_iload_n hx hb dL_forecast_4 rfl (lv_at hl 2 rfl) ?_
  obtain ⟨b3, ⟨hrb3, hfs⟩, hw⟩ := hw
  refine j_goXz hI (vx_runV (As := [.int x1, .int x2]) (rest := [.int (0 : Int32), va_rf x3]) ⟨hx, hb, hml, hown, hts⟩ (kX9_forecast l hfl D z b3 x1 x2 μ H.size _ _) (cwV 2 hts gL_forecast_X9_forecast rfl rfl rfl (by decide +kernel) ⟨Nat.le_of_ble_eq_true rfl, Nat.le_of_ble_eq_true rfl⟩) (j_prV2z hK hG hI hw (ci := 11) rfl hfs) rfl rfl hl.1 (by rw [hrb3]; rfl) (lv_room (by simp only [List.map, List.sum_cons, List.sum_nil, jrc, jci, jcl, jcr, jcn]; exact Nat.le_of_ble_eq_true rfl)) dL_forecast_5 ⟨by show _ ≤ 2; omega, by show _ ≤ 12; omega⟩) (fun E ce q9 μX H locs hw hI hce hcv hcl => ?_) (fun v1 μ2 H locs hw hI => ?_)
  · rcases hw.2.2 with rfl | rfl
    · have hw := hw.1 rfl
      refine vx_catch hown [] ⟨0, 9, 12, 21⟩ [⟨0, 9, 16, 13⟩] (name := "java/lang/IndexOutOfBoundsException") htab (fun z hz => absurd hz List.not_mem_nil) (by decide) (by decide) (hts (.classLink RL 21 "java/lang/IndexOutOfBoundsException") (List.mem_of_getElem? (i := 1) (by decide +kernel))) (va_Nw.use rfl (hG.2.2.2.2.2.2.2.2.1 _ (by decide +kernel))) hce hcv hcl ?_
      refine W.eq (g2 := F0 m 12 ls [va_rf (some q9)]) rfl ?_
      refine j_astoreA (r := x3) (r0 := (some q9)) (F := fun w => [(0, va_rf x0), (1, .int x1), (2, .int x2), (3, w)]) (F2 := fun w => [(4, va_rf (some q9)), (0, va_rf x0), (1, .int x1), (2, .int x2), (3, w)]) hx hb dL_forecast_12 hl (by decide) (fun w hw => by rcases hw with rfl | ⟨_, rfl⟩ <;> rfl) (fun ls hl => ?_)
      refine lv_iconst (v := (1)) hx hb dL_forecast_14 (by decide) ?_
      exact vx_ret (j_iretz hx hb hr hlocks hI hw (by omega) (by omega) dL_forecast_15)
    · have hw := hw.2.1 rfl
      refine vx_catch hown [⟨0, 9, 12, 21⟩] ⟨0, 9, 16, 13⟩ [] (name := "java/lang/IllegalArgumentException") htab (List.forall_mem_cons.mpr ⟨Or.inr ⟨by decide, "java/lang/IndexOutOfBoundsException", (hts (.classLink RL 21 "java/lang/IndexOutOfBoundsException") (List.mem_of_getElem? (i := 1) (by decide +kernel))), hG.2.2.2.2.2.2.2.2.2.1 _ (by decide +kernel) _ (by decide +kernel) (by decide +kernel)⟩, (fun z hz => absurd hz List.not_mem_nil)⟩) (by decide) (by decide) (hts (.classLink RL 13 "java/lang/IllegalArgumentException") (List.mem_of_getElem? (i := 2) (by decide +kernel))) (va_Nw.use rfl (hG.2.2.2.2.2.2.2.2.1 _ (by decide +kernel))) hce hcv hcl ?_
      refine W.eq (g2 := F0 m 16 ls [va_rf (some q9)]) rfl ?_
      refine j_astoreA (r := x3) (r0 := (some q9)) (F := fun w => [(0, va_rf x0), (1, .int x1), (2, .int x2), (3, w)]) (F2 := fun w => [(4, va_rf (some q9)), (0, va_rf x0), (1, .int x1), (2, .int x2), (3, w)]) hx hb dL_forecast_16 hl (by decide) (fun w hw => by rcases hw with rfl | ⟨_, rfl⟩ <;> rfl) (fun ls hl => ?_)
      refine lv_iconst (v := (2)) hx hb dL_forecast_18 (by decide) ?_
      exact vx_ret (j_iretz hx hb hr hlocks hI hw (by omega) (by omega) dL_forecast_19)
  refine W.eq (g2 := F0 m 8 ls [.long v1, .int (0 : Int32), va_rf x3]) rfl ?_
  obtain ⟨μ4, hμ4, hw⟩ := hw
  refine j_lastz (r := x3) hx hb hK hI hμ4 dL_forecast_8 (fun H locs hI => ?_)
  refine lv_goto (tgt := 20) hx hb dL_forecast_9 (by decide) ?_
  refine lv_iconst (v := (0)) hx hb dL_forecast_20 (by decide) ?_
  exact vx_ret (j_iretz hx hb hr hlocks hI hw (by omega) (by omega) dL_forecast_21)
set_option maxHeartbeats 4000000 in
set_option maxRecDepth 100000 in
theorem kL_forecast (l : Launch) (hfl : l.stackTraces = false) (D : jD) (z : Nat × Nat) (x0 : Option Nat) (x1 : Int32) (x2 : Int32) (x3 : Option Nat) (μ : jM) (sz : Nat) (Q : Int32 → jM → Prop) : vx_Met l yL_forecast wsL_forecast rmL_forecast (jPre2z D z μ sz [va_rf x0, .int x1, .int x2, va_rf x3] (wL_forecast z x0 x1 x2 x3 μ Q)) (jRz jfI Q D z (jA z μ sz)) (jXCz (fun _ _ => False) D z (jA z μ sz)) 2 12 (jA z μ sz) := by
  refine vx_ofWH (cc := cL_forecast) (maxL := 5) (ret := (some .int)) (by decide) rfl ?_
  intro p e s m args below meth c s₁ B hml hv
  obtain ⟨rfl, hsz, hH, hz0, hK, hG, hw⟩ := hv
  subst hsz
  have hX : jX2 D z (jA z μ s.heap.size) p l s m _ meth c yL_forecast cL_forecast 5 wsL_forecast (some .int) := ⟨B.exec, B.bytes, hml, findClass_of_methodNamed B.named, atoms_spec (ws := wsL_forecast) B.pre, B.returns, B.notSynchronized, (name_of_methodNamed B.named B.method).1, hK, hG, hfl⟩
  obtain ⟨ls, hg, hl⟩ : ∃ ls : Array Slot, entryFrame m ([va_rf x0, .int x1, .int x2, va_rf x3] : List Value).toArray 5 = F0 m 0 ls [] ∧ lv_has ls 5 [(0, va_rf x0), (1, .int x1), (2, .int x2), (3, va_rf x3)] := by
    cases x0 <;> cases x3 <;> exact ⟨_, lg_entry_eq .., lv_entry _ (n := 5) (Nat.le_of_ble_eq_true rfl)⟩
  rw [hg]
  exact kL_forecast_0 hX ((vx_table (x := yL_forecast) B (atoms_spec (ws := wsL_forecast) B.pre _ (List.mem_of_getElem? (i := 0) rfl))).trans rfl) hw (jIz.start hH hz0) (lv_sub hl [0, 1, 2, 3] rfl) (by decide) (by decide)
set_option maxHeartbeats 4000000 in
set_option maxRecDepth 100000 in
theorem kX9_daysToShort_67 {b : Nat} (hX : jX2 D z A p l s m args meth c yX9_daysToShort cX9_daysToShort 6 wsX9_daysToShort (some .int)) (hno : ∀ x ∈ c.exceptionTable.toList, False) {Q : Int32 → jM → Prop} {X : String → jM → Prop}  {x4 : Int32} {μ : jM} {H : Heap} {locs : List Loc} {ls : Array Slot} {cells slots : Nat} (hw : wX9_daysToShort_67 z b Q X x4 μ) (hI : jIz D z A s.heap μ H locs) (hl : lv_has ls 6 [(0, va_rf (some b)), (4, .int x4)]) (hcn : cells + 0 ≤ 3) (hsn : slots + 0 ≤ 18) : W p l e rmX9_daysToShort s m args below meth c H locs cells slots (vx_MQ below (jRz jfI Q D z A) (jXCz X D z A) args s 3 18 A) (F0 m 67 ls []) := by
  unfold wX9_daysToShort_67 at hw
  obtain ⟨hx, hb, hml, hown, hts, hr, hlocks, hnm, hK, hG, hfl⟩ := id hX
  have hown : s.vm.findClass RX9 = some m.cls := hown
  have hfX9 : ∀ w ∈ wsX90, w.before args s = true := fun w h => hts w (List.mem_cons_of_mem _ (List.mem_append_left _ (List.mem_append_left _ (List.mem_append_left _ (List.mem_append_left _ (List.mem_append_left _ (List.mem_append_left _ (List.mem_append_left _ (List.mem_append_left _ (List.mem_append_left _ (List.mem_append_left _ (List.mem_append_left _ (List.mem_append_left _ (List.mem_append_right _ h))))))))))))))
  refine j_aload_n (r := (some b)) hx hb dX9_daysToShort_67 rfl (lv_at hl 0 rfl) ?_
  obtain ⟨v1, hv1, hw⟩ := hw
  refine j_getz (C := RX9) (T := TX9) (N := 1) (ci := 11) (r := (some b)) (v := va_rf v1) hx hb hfX9 hown hK hI rfl 0 (by decide) (hts (.fieldLink RX9 10 "CashPools" "desk" "LCashPools$Desk;") (List.mem_of_getElem? (i := 1) (by decide +kernel))) (fun _ h => h) hv1 dX9_daysToShort_68 ?_
  obtain ⟨b4, ⟨hrb4, hfs⟩, hw⟩ := hw
  refine j_goz hI (va_runV (As := []) (rest := []) ⟨hx, hb, hml, hown, hts⟩ (kX3_goBack l hfl D z b4  μ H.size _) (cwV 0 hts gX9_daysToShort_X3_goBack rfl rfl rfl (by decide +kernel) ⟨Nat.le_of_ble_eq_true rfl, Nat.le_of_ble_eq_true rfl⟩) (j_prV2z hK hG hI hw (ci := 6) rfl hfs) rfl rfl hl.1 (by rw [hrb4]; rfl) (lv_room (Nat.le_of_ble_eq_true rfl)) dX9_daysToShort_71 ⟨by show _ ≤ 3; omega, by show _ ≤ 18; omega⟩) (fun u2 μ3 H locs hw hI => ?_)
  refine W.eq (g2 := F0 m 74 ls []) rfl ?_
  refine lv_iload hx hb dX9_daysToShort_74 (lv_at hl 1 rfl) ?_
  exact vx_ret (j_iretz hx hb hr hlocks hI hw (by omega) (by omega) dX9_daysToShort_76)
set_option maxHeartbeats 4000000 in
set_option maxRecDepth 100000 in
theorem kX9_daysToShort_30 {b : Nat} (hX : jX2 D z A p l s m args meth c yX9_daysToShort cX9_daysToShort 6 wsX9_daysToShort (some .int)) (hno : ∀ x ∈ c.exceptionTable.toList, False) {Q : Int32 → jM → Prop} {X : String → jM → Prop}  (n : Nat) : ∀ {x2 : Int32} {x3 : Option Nat} {x4 : Int32} {x5 : Int32} {μ : jM} {H : Heap} {locs : List Loc} {ls : Array Slot} {cells slots : Nat}, wX9_daysToShort_30 z b Q X n x2 x3 x4 x5 μ → jIz D z A s.heap μ H locs → lv_has ls 6 [(0, va_rf (some b)), (2, .int x2), (3, va_rf x3), (4, .int x4), (5, .int x5)] → cells + 0 ≤ 3 → slots + 0 ≤ 18 → W p l e rmX9_daysToShort s m args below meth c H locs cells slots (vx_MQ below (jRz jfI Q D z A) (jXCz X D z A) args s 3 18 A) (F0 m 30 ls []) := by
  induction n with
  | zero =>
    intros
    rename_i hw _ _ _ _
    exact (show False from hw).elim
  | succ n ih =>
    intro x2 x3 x4 x5 μ H locs ls cells slots hw hI hl hcn hsn
    have hw : wX9_daysToShort_30_b z b Q X (wX9_daysToShort_30 z b Q X n) x2 x3 x4 x5 μ := hw
    unfold wX9_daysToShort_30_b at hw
    obtain ⟨hx, hb, hml, hown, hts, hr, hlocks, hnm, hK, hG, hfl⟩ := id hX
    have hown : s.vm.findClass RX9 = some m.cls := hown
    have hfX0 : ∀ w ∈ wsX00, w.before args s = true := fun w h => hts w (List.mem_cons_of_mem _ (List.mem_append_left _ (List.mem_append_left _ (List.mem_append_left _ (List.mem_append_left _ (List.mem_append_left _ (List.mem_append_left _ (List.mem_append_left _ (List.mem_append_left _ (List.mem_append_left _ (List.mem_append_left _ (List.mem_append_left _ (List.mem_append_right _ h)))))))))))))
    have hfX9 : ∀ w ∈ wsX90, w.before args s = true := fun w h => hts w (List.mem_cons_of_mem _ (List.mem_append_left _ (List.mem_append_left _ (List.mem_append_left _ (List.mem_append_left _ (List.mem_append_left _ (List.mem_append_left _ (List.mem_append_left _ (List.mem_append_left _ (List.mem_append_left _ (List.mem_append_left _ (List.mem_append_left _ (List.mem_append_left _ (List.mem_append_right _ h))))))))))))))
    refine lv_iload hx hb dX9_daysToShort_30 (lv_at hl 3 rfl) ?_
    refine lv_if_ge (tgt := 67) hx hb dX9_daysToShort_32 (by decide) (fun hc => ?_) (fun hc => ?_)
    · have hw := hw.1 hc
      exact kX9_daysToShort_67 hX hno  hw hI (lv_sub hl [0, 3] rfl) (by omega) (by omega)
    · have hw := hw.2 hc
      refine lv_iload hx hb dX9_daysToShort_35 (lv_at hl 4 rfl) ?_
      refine lv_iload_n hx hb dX9_daysToShort_37 rfl (lv_at hl 1 rfl) ?_
      refine lv_icmp_gt (tgt := 67) hx hb dX9_daysToShort_38 (by decide) (fun hc => ?_) (fun hc => ?_)
      · have hw := hw.1 hc
        exact kX9_daysToShort_67 hX hno  hw hI (lv_sub hl [0, 3] rfl) (by omega) (by omega)
      · have hw := hw.2 hc
        refine j_aload_n (r := (some b)) hx hb dX9_daysToShort_41 rfl (lv_at hl 0 rfl) ?_
        obtain ⟨v1, hv1, hw⟩ := hw
        refine j_getz (C := RX9) (T := TX9) (N := 1) (ci := 11) (r := (some b)) (v := va_rf v1) hx hb hfX9 hown hK hI rfl 0 (by decide) (hts (.fieldLink RX9 10 "CashPools" "desk" "LCashPools$Desk;") (List.mem_of_getElem? (i := 1) (by decide +kernel))) (fun _ h => h) hv1 dX9_daysToShort_42 ?_
        obtain ⟨b4, ⟨hrb4, hfs⟩, hw⟩ := hw
        refine j_goz hI (va_runV (As := []) (rest := []) ⟨hx, hb, hml, hown, hts⟩ (kX3_passDay l hfl D z b4  μ H.size _) (cwV 0 hts gX9_daysToShort_X3_passDay rfl rfl rfl (by decide +kernel) ⟨Nat.le_of_ble_eq_true rfl, Nat.le_of_ble_eq_true rfl⟩) (j_prV2z hK hG hI hw (ci := 6) rfl hfs) rfl rfl hl.1 (by rw [hrb4]; rfl) (lv_room (Nat.le_of_ble_eq_true rfl)) dX9_daysToShort_45 ⟨by show _ ≤ 3; omega, by show _ ≤ 18; omega⟩) (fun u2 μ3 H locs hw hI => ?_)
        refine W.eq (g2 := F0 m 48 ls []) rfl ?_
        refine j_aload_n (r := x3) hx hb dX9_daysToShort_48 rfl (lv_at hl 2 rfl) ?_
        obtain ⟨v5, hv5, hw⟩ := hw
        refine j_getz (C := RX0) (T := TX0) (N := 12) (ci := 3) (r := x3) (v := .long v5) hx hb hfX0 hown hK hI rfl 8 (by decide) (hts (.fieldLink RX9 119 "CashPools$Account" "cash" "J") (List.mem_of_getElem? (i := 2) (by decide +kernel))) (fun _ h => h) hv5 dX9_daysToShort_49 ?_
        refine lv_lconst (v := (0)) hx hb dX9_daysToShort_52 (by decide) ?_
        refine j_lcmp_ge (tgt := 61) hx hb dX9_daysToShort_53 dX9_daysToShort_54 (by decide) (fun hc => ?_) (fun hc => ?_)
        · have hw := hw.1 hc
          obtain ⟨v6, ev6⟩ : ∃ y : Int32, y = x5 + (1 : Int32) := ⟨_, rfl⟩
          have hw := hw v6 ev6
          refine lv_iinc (v := v6) (lv' := [(5, .int v6), (0, va_rf (some b)), (2, .int x2), (3, va_rf x3), (4, .int x4)]) hx hb dX9_daysToShort_61 hl (k := 4) rfl (by rw [ev6]; rfl) (by decide) rfl (fun ls hl => ?_)
          refine lv_goto (tgt := 30) hx hb dX9_daysToShort_64 (by decide) ?_
          exact ih hw hI (lv_sub hl [1, 2, 3, 4, 0] rfl) (by omega) (by omega)
        · have hw := hw.2 hc
          refine lv_iload hx hb dX9_daysToShort_57 (lv_at hl 4 rfl) ?_
          refine j_istoreA (r := x3) (F := fun w => [(0, va_rf (some b)), (2, .int x2), (3, w), (4, .int x4), (5, .int x5)]) (F2 := fun w => [(4, .int x5), (0, va_rf (some b)), (2, .int x2), (3, w), (5, .int x5)]) hx hb dX9_daysToShort_59 hl (by decide) (fun w hw => by rcases hw with rfl | ⟨_, rfl⟩ <;> rfl) (fun ls hl => ?_)
          obtain ⟨v7, ev7⟩ : ∃ y : Int32, y = x5 + (1 : Int32) := ⟨_, rfl⟩
          have hw := hw v7 ev7
          refine lv_iinc (v := v7) (lv' := [(5, .int v7), (4, .int x5), (0, va_rf (some b)), (2, .int x2), (3, va_rf x3)]) hx hb dX9_daysToShort_61 hl (k := 4) rfl (by rw [ev7]; rfl) (by decide) rfl (fun ls hl => ?_)
          refine lv_goto (tgt := 30) hx hb dX9_daysToShort_64 (by decide) ?_
          exact ih hw hI (lv_sub hl [2, 3, 4, 1, 0] rfl) (by omega) (by omega)
set_option maxHeartbeats 4000000 in
set_option maxRecDepth 100000 in
theorem kX9_daysToShort_0 {b : Nat} (hX : jX2 D z A p l s m args meth c yX9_daysToShort cX9_daysToShort 6 wsX9_daysToShort (some .int)) (hno : ∀ x ∈ c.exceptionTable.toList, False) {Q : Int32 → jM → Prop} {X : String → jM → Prop}  {x1 : Int32} {x2 : Int32} {μ : jM} {H : Heap} {locs : List Loc} {ls : Array Slot} {cells slots : Nat} (hw : wX9_daysToShort_0 z b Q X x1 x2 μ) (hI : jIz D z A s.heap μ H locs) (hl : lv_has ls 6 [(0, va_rf (some b)), (1, .int x1), (2, .int x2)]) (hcn : cells + 3 ≤ 3) (hsn : slots + 18 ≤ 18) : W p l e rmX9_daysToShort s m args below meth c H locs cells slots (vx_MQ below (jRz jfI Q D z A) (jXCz X D z A) args s 3 18 A) (F0 m 0 ls []) := by
  unfold wX9_daysToShort_0 at hw
  obtain ⟨hx, hb, hml, hown, hts, hr, hlocks, hnm, hK, hG, hfl⟩ := id hX
  have hown : s.vm.findClass RX9 = some m.cls := hown
  have hfX9 : ∀ w ∈ wsX90, w.before args s = true := fun w h => hts w (List.mem_cons_of_mem _ (List.mem_append_left _ (List.mem_append_left _ (List.mem_append_left _ (List.mem_append_left _ (List.mem_append_left _ (List.mem_append_left _ (List.mem_append_left _ (List.mem_append_left _ (List.mem_append_left _ (List.mem_append_left _ (List.mem_append_left _ (List.mem_append_left _ (List.mem_append_right _ h))))))))))))))
  refine j_aload_n (r := (some b)) hx hb dX9_daysToShort_0 rfl (lv_at hl 0 rfl) ?_
  refine lv_iload_n hx hb dX9_daysToShort_1 rfl (lv_at hl 1 rfl) ?_
  obtain ⟨hfs, hw⟩ := hw
  refine j_goXz hI (vx_runV (As := [.int x1]) (rest := []) ⟨hx, hb, hml, hown, hts⟩ (kX9_accountAt l hfl D z b x1 μ H.size _ _) (cwV 1 hts gX9_daysToShort_X9_accountAt rfl rfl rfl (by decide +kernel) ⟨Nat.le_of_ble_eq_true rfl, Nat.le_of_ble_eq_true rfl⟩) (j_prV2z hK hG hI hw (ci := 11) rfl hfs) rfl rfl hl.1 rfl (lv_room (Nat.le_of_ble_eq_true rfl)) dX9_daysToShort_2 ⟨by show _ ≤ 3; omega, by show _ ≤ 18; omega⟩) (fun E ce q9 μX H locs hw hI hce hcv hcl => ?_) (fun v1 μ2 H locs hw hI => ?_)
  · exact j_outz hno hlocks hI hce hcv hcl hw (by omega) (by omega)
  refine W.eq (g2 := F0 m 5 ls [va_rf v1]) rfl ?_
  refine j_astore_n (r := v1) (lv' := [(3, va_rf v1), (0, va_rf (some b)), (1, .int x1), (2, .int x2)]) hx hb dX9_daysToShort_5 rfl hl (by decide) rfl (fun ls hl => ?_)
  refine lv_iload_n hx hb dX9_daysToShort_6 rfl (lv_at hl 3 rfl) ?_
  refine lv_iconst (v := (1)) hx hb dX9_daysToShort_7 (by decide) ?_
  refine lv_bipush (v := (60)) hx hb dX9_daysToShort_8 (by decide) ?_
  refine j_goXz hI (vx_runS (As := [.int x2, .int (1 : Int32), .int (60 : Int32)]) (rest := []) ⟨hx, hb, hml, hown, hts⟩ (kX9_requireWithin l hfl D z x2 (1 : Int32) (60 : Int32) μ2 H.size _ _) (va_cwS 3 hts gX9_daysToShort_X9_requireWithin rfl rfl rfl (by decide +kernel) ⟨Nat.le_of_ble_eq_true rfl, Nat.le_of_ble_eq_true rfl⟩) (j_prS2z hK hG hI hw) rfl rfl hl.1 rfl (lv_room (Nat.le_of_ble_eq_true rfl)) dX9_daysToShort_10 ⟨by show _ ≤ 3; omega, by show _ ≤ 18; omega⟩) (fun E ce q9 μX H locs hw hI hce hcv hcl => ?_) (fun u3 μ4 H locs hw hI => ?_)
  · exact j_outz hno hlocks hI hce hcv hcl hw (by omega) (by omega)
  refine W.eq (g2 := F0 m 13 ls []) rfl ?_
  refine j_aload_n (r := v1) hx hb dX9_daysToShort_13 rfl (lv_at hl 0 rfl) ?_
  refine j_goXz hI (vx_runS (As := [va_rf v1]) (rest := []) ⟨hx, hb, hml, hown, hts⟩ (kX9_requireTop l hfl D z v1 μ4 H.size _ _) (va_cwS 1 hts gX9_daysToShort_X9_requireTop rfl rfl rfl (by decide +kernel) ⟨Nat.le_of_ble_eq_true rfl, Nat.le_of_ble_eq_true rfl⟩) (j_prS2z hK hG hI hw) rfl rfl hl.1 rfl (lv_room (Nat.le_of_ble_eq_true rfl)) dX9_daysToShort_14 ⟨by show _ ≤ 3; omega, by show _ ≤ 18; omega⟩) (fun E ce q9 μX H locs hw hI hce hcv hcl => ?_) (fun u5 μ6 H locs hw hI => ?_)
  · exact j_outz hno hlocks hI hce hcv hcl hw (by omega) (by omega)
  refine W.eq (g2 := F0 m 17 ls []) rfl ?_
  refine lv_iconst (v := (-1)) hx hb dX9_daysToShort_17 (by decide) ?_
  refine lv_topi (fun v7 ev7 => ?_)
  have hw := hw v7 ev7
  refine j_istoreA (r := v1) (F := fun w => [(3, w), (0, va_rf (some b)), (1, .int x1), (2, .int x2)]) (F2 := fun w => [(4, .int v7), (3, w), (0, va_rf (some b)), (1, .int x1), (2, .int x2)]) hx hb dX9_daysToShort_18 hl (by decide) (fun w hw => by rcases hw with rfl | ⟨_, rfl⟩ <;> rfl) (fun ls hl => ?_)
  refine j_aload_n (r := (some b)) hx hb dX9_daysToShort_20 rfl (lv_at hl 2 rfl) ?_
  obtain ⟨v8, hv8, hw⟩ := hw
  refine j_getz (C := RX9) (T := TX9) (N := 1) (ci := 11) (r := (some b)) (v := va_rf v8) hx hb hfX9 hown hK hI rfl 0 (by decide) (hts (.fieldLink RX9 10 "CashPools" "desk" "LCashPools$Desk;") (List.mem_of_getElem? (i := 1) (by decide +kernel))) (fun _ h => h) hv8 dX9_daysToShort_21 ?_
  obtain ⟨b11, ⟨hrb11, hfs⟩, hw⟩ := hw
  refine j_goz hI (va_runV (As := []) (rest := []) ⟨hx, hb, hml, hown, hts⟩ (kX3_keep l hfl D z b11  μ6 H.size _) (cwV 0 hts gX9_daysToShort_X3_keep rfl rfl rfl (by decide +kernel) ⟨Nat.le_of_ble_eq_true rfl, Nat.le_of_ble_eq_true rfl⟩) (j_prV2z hK hG hI hw (ci := 6) rfl hfs) rfl rfl hl.1 (by rw [hrb11]; rfl) (lv_room (Nat.le_of_ble_eq_true rfl)) dX9_daysToShort_24 ⟨by show _ ≤ 3; omega, by show _ ≤ 18; omega⟩) (fun u9 μ10 H locs hw hI => ?_)
  refine W.eq (g2 := F0 m 27 ls []) rfl ?_
  refine lv_iconst (v := (1)) hx hb dX9_daysToShort_27 (by decide) ?_
  refine lv_topi (fun v12 ev12 => ?_)
  have hw := hw v12 ev12
  refine lv_istore (lv' := [(5, .int v12), (4, .int v7), (3, va_rf v1), (0, va_rf (some b)), (1, .int x1), (2, .int x2)]) hx hb dX9_daysToShort_28 hl (by decide) rfl (fun ls hl => ?_)
  obtain ⟨n13, hw⟩ := hw
  exact kX9_daysToShort_30 hX hno  n13 hw hI (lv_sub hl [3, 5, 2, 1, 0] rfl) (by omega) (by omega)
set_option maxHeartbeats 4000000 in
set_option maxRecDepth 100000 in
theorem kX9_daysToShort (l : Launch) (hfl : l.stackTraces = false) (D : jD) (z : Nat × Nat) (b : Nat) (x1 : Int32) (x2 : Int32) (μ : jM) (sz : Nat) (Q : Int32 → jM → Prop) (X : String → jM → Prop) : vx_Met l yX9_daysToShort wsX9_daysToShort rmX9_daysToShort (jPre2z D z μ sz [.ref b, .int x1, .int x2] (wX9_daysToShort z b x1 x2 μ Q X)) (jRz jfI Q D z (jA z μ sz)) (jXCz X D z (jA z μ sz)) 3 18 (jA z μ sz) := by
  refine vx_ofW (cc := cX9_daysToShort) (maxL := 6) (ret := (some .int)) (by decide) rfl ?_
  intro p e s m args below meth c s₁ B hml hno hv
  obtain ⟨rfl, hsz, hH, hz0, hK, hG, hw⟩ := hv
  subst hsz
  have hX : jX2 D z (jA z μ s.heap.size) p l s m _ meth c yX9_daysToShort cX9_daysToShort 6 wsX9_daysToShort (some .int) := ⟨B.exec, B.bytes, hml, findClass_of_methodNamed B.named, atoms_spec (ws := wsX9_daysToShort) B.pre, B.returns, B.notSynchronized, (name_of_methodNamed B.named B.method).1, hK, hG, hfl⟩
  obtain ⟨ls, hg, hl⟩ : ∃ ls : Array Slot, entryFrame m ([.ref b, .int x1, .int x2] : List Value).toArray 6 = F0 m 0 ls [] ∧ lv_has ls 6 [(0, va_rf (some b)), (1, .int x1), (2, .int x2)] := by
    exact ⟨_, lg_entry_eq .., lv_entry _ (n := 6) (Nat.le_of_ble_eq_true rfl)⟩
  rw [hg]
  exact kX9_daysToShort_0 hX hno hw (jIz.start hH hz0) (lv_sub hl [0, 1, 2] rfl) (by decide) (by decide)
set_option maxHeartbeats 4000000 in
set_option maxRecDepth 100000 in
theorem kL_daysToShort_0 (hX : jX2 D z A p l s m args meth c yL_daysToShort cL_daysToShort 5 wsL_daysToShort (some .int)) (htab : c.exceptionTable.toList = ([⟨0, 10, 13, 21⟩, ⟨0, 10, 17, 13⟩, ⟨0, 10, 21, 15⟩] : List ExceptionTableEntry)) {Q : Int32 → jM → Prop}  {x0 : Option Nat} {x1 : Int32} {x2 : Int32} {x3 : Option Nat} {μ : jM} {H : Heap} {locs : List Loc} {ls : Array Slot} {cells slots : Nat} (hw : wL_daysToShort_0 z Q x0 x1 x2 x3 μ) (hI : jIz D z A s.heap μ H locs) (hl : lv_has ls 5 [(0, va_rf x0), (1, .int x1), (2, .int x2), (3, va_rf x3)]) (hcn : cells + 3 ≤ 3) (hsn : slots + 18 ≤ 18) : W p l e rmL_daysToShort s m args below meth c H locs cells slots (vx_MQ below (jRz jfI Q D z A) (jXCz (fun _ _ => False) D z A) args s 3 18 A) (F0 m 0 ls []) := by
  unfold wL_daysToShort_0 at hw
  obtain ⟨hx, hb, hml, hown, hts, hr, hlocks, hnm, hK, hG, hfl⟩ := id hX
  have hown : s.vm.findClass RL = some m.cls := hown
  refine j_aload_n (r := x3) hx hb dL_daysToShort_0 rfl (lv_at hl 3 rfl) ?_
  refine lv_iconst (v := (0)) hx hb dL_daysToShort_1 (by decide) ?_
  refine j_aload_n (r := x0) hx hb dL_daysToShort_2 rfl (lv_at hl 0 rfl) ?_
  refine lv_iload_n hx hb dL_daysToShort_3 rfl (lv_at hl 1 rfl) ?_
  refine lv_iload_n hx hb dL_daysToShort_4 rfl (lv_at hl 2 rfl) ?_
  obtain ⟨b3, ⟨hrb3, hfs⟩, hw⟩ := hw
  refine j_goXz hI (vx_runV (As := [.int x1, .int x2]) (rest := [.int (0 : Int32), va_rf x3]) ⟨hx, hb, hml, hown, hts⟩ (kX9_daysToShort l hfl D z b3 x1 x2 μ H.size _ _) (cwV 2 hts gL_daysToShort_X9_daysToShort rfl rfl rfl (by decide +kernel) ⟨Nat.le_of_ble_eq_true rfl, Nat.le_of_ble_eq_true rfl⟩) (j_prV2z hK hG hI hw (ci := 11) rfl hfs) rfl rfl hl.1 (by rw [hrb3]; rfl) (lv_room (by simp only [List.map, List.sum_cons, List.sum_nil, jrc, jci, jcl, jcr, jcn]; exact Nat.le_of_ble_eq_true rfl)) dL_daysToShort_5 ⟨by show _ ≤ 3; omega, by show _ ≤ 18; omega⟩) (fun E ce q9 μX H locs hw hI hce hcv hcl => ?_) (fun v1 μ2 H locs hw hI => ?_)
  · rcases hw.2.2.2 with rfl | rfl | rfl
    · have hw := hw.1 rfl
      refine vx_catch hown [] ⟨0, 10, 13, 21⟩ [⟨0, 10, 17, 13⟩, ⟨0, 10, 21, 15⟩] (name := "java/lang/IndexOutOfBoundsException") htab (fun z hz => absurd hz List.not_mem_nil) (by decide) (by decide) (hts (.classLink RL 21 "java/lang/IndexOutOfBoundsException") (List.mem_of_getElem? (i := 1) (by decide +kernel))) (va_Nw.use rfl (hG.2.2.2.2.2.2.2.2.1 _ (by decide +kernel))) hce hcv hcl ?_
      refine W.eq (g2 := F0 m 13 ls [va_rf (some q9)]) rfl ?_
      refine j_astoreA (r := x3) (r0 := (some q9)) (F := fun w => [(0, va_rf x0), (1, .int x1), (2, .int x2), (3, w)]) (F2 := fun w => [(4, va_rf (some q9)), (0, va_rf x0), (1, .int x1), (2, .int x2), (3, w)]) hx hb dL_daysToShort_13 hl (by decide) (fun w hw => by rcases hw with rfl | ⟨_, rfl⟩ <;> rfl) (fun ls hl => ?_)
      refine lv_iconst (v := (1)) hx hb dL_daysToShort_15 (by decide) ?_
      exact vx_ret (j_iretz hx hb hr hlocks hI hw (by omega) (by omega) dL_daysToShort_16)
    · have hw := hw.2.1 rfl
      refine vx_catch hown [⟨0, 10, 13, 21⟩] ⟨0, 10, 17, 13⟩ [⟨0, 10, 21, 15⟩] (name := "java/lang/IllegalArgumentException") htab (List.forall_mem_cons.mpr ⟨Or.inr ⟨by decide, "java/lang/IndexOutOfBoundsException", (hts (.classLink RL 21 "java/lang/IndexOutOfBoundsException") (List.mem_of_getElem? (i := 1) (by decide +kernel))), hG.2.2.2.2.2.2.2.2.2.1 _ (by decide +kernel) _ (by decide +kernel) (by decide +kernel)⟩, (fun z hz => absurd hz List.not_mem_nil)⟩) (by decide) (by decide) (hts (.classLink RL 13 "java/lang/IllegalArgumentException") (List.mem_of_getElem? (i := 2) (by decide +kernel))) (va_Nw.use rfl (hG.2.2.2.2.2.2.2.2.1 _ (by decide +kernel))) hce hcv hcl ?_
      refine W.eq (g2 := F0 m 17 ls [va_rf (some q9)]) rfl ?_
      refine j_astoreA (r := x3) (r0 := (some q9)) (F := fun w => [(0, va_rf x0), (1, .int x1), (2, .int x2), (3, w)]) (F2 := fun w => [(4, va_rf (some q9)), (0, va_rf x0), (1, .int x1), (2, .int x2), (3, w)]) hx hb dL_daysToShort_17 hl (by decide) (fun w hw => by rcases hw with rfl | ⟨_, rfl⟩ <;> rfl) (fun ls hl => ?_)
      refine lv_iconst (v := (2)) hx hb dL_daysToShort_19 (by decide) ?_
      exact vx_ret (j_iretz hx hb hr hlocks hI hw (by omega) (by omega) dL_daysToShort_20)
    · have hw := hw.2.2.1 rfl
      refine vx_catch hown [⟨0, 10, 13, 21⟩, ⟨0, 10, 17, 13⟩] ⟨0, 10, 21, 15⟩ [] (name := "java/lang/IllegalStateException") htab (List.forall_mem_cons.mpr ⟨Or.inr ⟨by decide, "java/lang/IndexOutOfBoundsException", (hts (.classLink RL 21 "java/lang/IndexOutOfBoundsException") (List.mem_of_getElem? (i := 1) (by decide +kernel))), hG.2.2.2.2.2.2.2.2.2.1 _ (by decide +kernel) _ (by decide +kernel) (by decide +kernel)⟩, (List.forall_mem_cons.mpr ⟨Or.inr ⟨by decide, "java/lang/IllegalArgumentException", (hts (.classLink RL 13 "java/lang/IllegalArgumentException") (List.mem_of_getElem? (i := 2) (by decide +kernel))), hG.2.2.2.2.2.2.2.2.2.1 _ (by decide +kernel) _ (by decide +kernel) (by decide +kernel)⟩, (fun z hz => absurd hz List.not_mem_nil)⟩)⟩) (by decide) (by decide) (hts (.classLink RL 15 "java/lang/IllegalStateException") (List.mem_of_getElem? (i := 3) (by decide +kernel))) (va_Nw.use rfl (hG.2.2.2.2.2.2.2.2.1 _ (by decide +kernel))) hce hcv hcl ?_
      refine W.eq (g2 := F0 m 21 ls [va_rf (some q9)]) rfl ?_
      refine j_astoreA (r := x3) (r0 := (some q9)) (F := fun w => [(0, va_rf x0), (1, .int x1), (2, .int x2), (3, w)]) (F2 := fun w => [(4, va_rf (some q9)), (0, va_rf x0), (1, .int x1), (2, .int x2), (3, w)]) hx hb dL_daysToShort_21 hl (by decide) (fun w hw => by rcases hw with rfl | ⟨_, rfl⟩ <;> rfl) (fun ls hl => ?_)
      refine lv_iconst (v := (3)) hx hb dL_daysToShort_23 (by decide) ?_
      exact vx_ret (j_iretz hx hb hr hlocks hI hw (by omega) (by omega) dL_daysToShort_24)
  refine W.eq (g2 := F0 m 8 ls [.int v1, .int (0 : Int32), va_rf x3]) rfl ?_
  refine lv_i2l hx hb dL_daysToShort_8 rfl ?_
  obtain ⟨μ4, hμ4, hw⟩ := hw
  refine j_lastz (r := x3) hx hb hK hI hμ4 dL_daysToShort_9 (fun H locs hI => ?_)
  refine lv_goto (tgt := 25) hx hb dL_daysToShort_10 (by decide) ?_
  refine lv_iconst (v := (0)) hx hb dL_daysToShort_25 (by decide) ?_
  exact vx_ret (j_iretz hx hb hr hlocks hI hw (by omega) (by omega) dL_daysToShort_26)
set_option maxHeartbeats 4000000 in
set_option maxRecDepth 100000 in
theorem kL_daysToShort (l : Launch) (hfl : l.stackTraces = false) (D : jD) (z : Nat × Nat) (x0 : Option Nat) (x1 : Int32) (x2 : Int32) (x3 : Option Nat) (μ : jM) (sz : Nat) (Q : Int32 → jM → Prop) : vx_Met l yL_daysToShort wsL_daysToShort rmL_daysToShort (jPre2z D z μ sz [va_rf x0, .int x1, .int x2, va_rf x3] (wL_daysToShort z x0 x1 x2 x3 μ Q)) (jRz jfI Q D z (jA z μ sz)) (jXCz (fun _ _ => False) D z (jA z μ sz)) 3 18 (jA z μ sz) := by
  refine vx_ofWH (cc := cL_daysToShort) (maxL := 5) (ret := (some .int)) (by decide) rfl ?_
  intro p e s m args below meth c s₁ B hml hv
  obtain ⟨rfl, hsz, hH, hz0, hK, hG, hw⟩ := hv
  subst hsz
  have hX : jX2 D z (jA z μ s.heap.size) p l s m _ meth c yL_daysToShort cL_daysToShort 5 wsL_daysToShort (some .int) := ⟨B.exec, B.bytes, hml, findClass_of_methodNamed B.named, atoms_spec (ws := wsL_daysToShort) B.pre, B.returns, B.notSynchronized, (name_of_methodNamed B.named B.method).1, hK, hG, hfl⟩
  obtain ⟨ls, hg, hl⟩ : ∃ ls : Array Slot, entryFrame m ([va_rf x0, .int x1, .int x2, va_rf x3] : List Value).toArray 5 = F0 m 0 ls [] ∧ lv_has ls 5 [(0, va_rf x0), (1, .int x1), (2, .int x2), (3, va_rf x3)] := by
    cases x0 <;> cases x3 <;> exact ⟨_, lg_entry_eq .., lv_entry _ (n := 5) (Nat.le_of_ble_eq_true rfl)⟩
  rw [hg]
  exact kL_daysToShort_0 hX ((vx_table (x := yL_daysToShort) B (atoms_spec (ws := wsL_daysToShort) B.pre _ (List.mem_of_getElem? (i := 0) rfl))).trans rfl) hw (jIz.start hH hz0) (lv_sub hl [0, 1, 2, 3] rfl) (by decide) (by decide)
set_option maxHeartbeats 4000000 in
set_option maxRecDepth 100000 in
theorem kX9_today_0 {b : Nat} (hX : jX2 D z A p l s m args meth c yX9_today cX9_today 1 wsX9_today (some .int)) {Q : Int32 → jM → Prop}   {μ : jM} {H : Heap} {locs : List Loc} {ls : Array Slot} {cells slots : Nat} (hw : wX9_today_0 z b Q  μ) (hI : jIz D z A s.heap μ H locs) (hl : lv_has ls 1 [(0, va_rf (some b))]) (hcn : cells + 0 ≤ 0) (hsn : slots + 0 ≤ 0) : W p l e rmX9_today s m args below meth c H locs cells slots (MQ below (jRz jfI Q D z A) args s 0 0 A) (F0 m 0 ls []) := by
  unfold wX9_today_0 at hw
  obtain ⟨hx, hb, hml, hown, hts, hr, hlocks, hnm, hK, hG, hfl⟩ := id hX
  have hown : s.vm.findClass RX9 = some m.cls := hown
  have hfX3 : ∀ w ∈ wsX30, w.before args s = true := fun w h => hts w (List.mem_cons_of_mem _ (List.mem_append_right _ h))
  have hfX9 : ∀ w ∈ wsX90, w.before args s = true := fun w h => hts w (List.mem_cons_of_mem _ (List.mem_append_left _ (List.mem_append_right _ h)))
  refine j_aload_n (r := (some b)) hx hb dX9_today_0 rfl (lv_at hl 0 rfl) ?_
  obtain ⟨v1, hv1, hw⟩ := hw
  refine j_getz (C := RX9) (T := TX9) (N := 1) (ci := 11) (r := (some b)) (v := va_rf v1) hx hb hfX9 hown hK hI rfl 0 (by decide) (hts (.fieldLink RX9 10 "CashPools" "desk" "LCashPools$Desk;") (List.mem_of_getElem? (i := 1) (by decide +kernel))) (fun _ h => h) hv1 dX9_today_1 ?_
  obtain ⟨v2, hv2, hw⟩ := hw
  refine j_getz (C := RX3) (T := TX3) (N := 8) (ci := 6) (r := v1) (v := .int v2) hx hb hfX3 hown hK hI rfl 6 (by decide) (hts (.fieldLink RX9 91 "CashPools$Desk" "day" "I") (List.mem_of_getElem? (i := 2) (by decide +kernel))) (fun _ h => h) hv2 dX9_today_4 ?_
  exact j_iretz hx hb hr hlocks hI hw (by omega) (by omega) dX9_today_7
set_option maxHeartbeats 4000000 in
set_option maxRecDepth 100000 in
theorem kX9_today (l : Launch) (hfl : l.stackTraces = false) (D : jD) (z : Nat × Nat) (b : Nat)  (μ : jM) (sz : Nat) (Q : Int32 → jM → Prop) : Met l yX9_today wsX9_today rmX9_today (jPre2z D z μ sz [.ref b] (wX9_today z b  μ Q)) (jRz jfI Q D z (jA z μ sz)) 0 0 (jA z μ sz) := by
  refine Met.ofW (cc := cX9_today) (maxL := 1) (ret := (some .int)) (by decide) rfl ?_
  intro p e s m args below meth c s₁ B hml hv
  obtain ⟨rfl, hsz, hH, hz0, hK, hG, hw⟩ := hv
  subst hsz
  have hX : jX2 D z (jA z μ s.heap.size) p l s m _ meth c yX9_today cX9_today 1 wsX9_today (some .int) := ⟨B.exec, B.bytes, hml, findClass_of_methodNamed B.named, atoms_spec (ws := wsX9_today) B.pre, B.returns, B.notSynchronized, (name_of_methodNamed B.named B.method).1, hK, hG, hfl⟩
  obtain ⟨ls, hg, hl⟩ : ∃ ls : Array Slot, entryFrame m ([.ref b] : List Value).toArray 1 = F0 m 0 ls [] ∧ lv_has ls 1 [(0, va_rf (some b))] := by
    exact ⟨_, lg_entry_eq .., lv_entry _ (n := 1) (Nat.le_of_ble_eq_true rfl)⟩
  rw [hg]
  exact kX9_today_0 hX hw (jIz.start hH hz0) (lv_sub hl [0] rfl) (by decide) (by decide)
set_option maxHeartbeats 4000000 in
set_option maxRecDepth 100000 in
theorem kX9_accounts_0 {b : Nat} (hX : jX2 D z A p l s m args meth c yX9_accounts cX9_accounts 1 wsX9_accounts (some .int)) {Q : Int32 → jM → Prop}   {μ : jM} {H : Heap} {locs : List Loc} {ls : Array Slot} {cells slots : Nat} (hw : wX9_accounts_0 z b Q  μ) (hI : jIz D z A s.heap μ H locs) (hl : lv_has ls 1 [(0, va_rf (some b))]) (hcn : cells + 0 ≤ 0) (hsn : slots + 0 ≤ 0) : W p l e rmX9_accounts s m args below meth c H locs cells slots (MQ below (jRz jfI Q D z A) args s 0 0 A) (F0 m 0 ls []) := by
  unfold wX9_accounts_0 at hw
  obtain ⟨hx, hb, hml, hown, hts, hr, hlocks, hnm, hK, hG, hfl⟩ := id hX
  have hown : s.vm.findClass RX9 = some m.cls := hown
  have hfX3 : ∀ w ∈ wsX30, w.before args s = true := fun w h => hts w (List.mem_cons_of_mem _ (List.mem_append_left _ (List.mem_append_right _ h)))
  have hfX9 : ∀ w ∈ wsX90, w.before args s = true := fun w h => hts w (List.mem_cons_of_mem _ (List.mem_append_left _ (List.mem_append_left _ (List.mem_append_right _ h))))
  refine j_aload_n (r := (some b)) hx hb dX9_accounts_0 rfl (lv_at hl 0 rfl) ?_
  obtain ⟨v1, hv1, hw⟩ := hw
  refine j_getz (C := RX9) (T := TX9) (N := 1) (ci := 11) (r := (some b)) (v := va_rf v1) hx hb hfX9 hown hK hI rfl 0 (by decide) (hts (.fieldLink RX9 10 "CashPools" "desk" "LCashPools$Desk;") (List.mem_of_getElem? (i := 1) (by decide +kernel))) (fun _ h => h) hv1 dX9_accounts_1 ?_
  obtain ⟨v2, hv2, hw⟩ := hw
  refine j_getz (C := RX3) (T := TX3) (N := 8) (ci := 6) (r := v1) (v := va_rf v2) hx hb hfX3 hown hK hI rfl 0 (by decide) (hts (.fieldLink RX9 148 "CashPools$Desk" "everyAccount" "Ljava/util/ArrayList;") (List.mem_of_getElem? (i := 2) (by decide +kernel))) (fun _ h => h) hv2 dX9_accounts_4 ?_
  obtain ⟨b5, ⟨hrb5, hfs⟩, hw⟩ := hw
  refine j_goz hI (va_runV (As := []) (rest := []) ⟨hx, hb, hml, hown, hts⟩ (kJx4a65c_size_8abf5 l hfl D z b5  μ H.size _) (cwV 0 hts gX9_accounts_Jx4a65c_size_8abf5 rfl rfl rfl (by decide +kernel) ⟨Nat.le_of_ble_eq_true rfl, Nat.le_of_ble_eq_true rfl⟩) (j_prV2z hK hG hI hw (ci := 2) rfl hfs) rfl rfl hl.1 (by rw [hrb5]; rfl) (lv_room (Nat.le_of_ble_eq_true rfl)) dX9_accounts_7 ⟨by show _ ≤ 0; omega, by show _ ≤ 0; omega⟩) (fun v3 μ4 H locs hw hI => ?_)
  refine W.eq (g2 := F0 m 10 ls [.int v3]) rfl ?_
  exact j_iretz hx hb hr hlocks hI hw (by omega) (by omega) dX9_accounts_10
set_option maxHeartbeats 4000000 in
set_option maxRecDepth 100000 in
theorem kX9_accounts (l : Launch) (hfl : l.stackTraces = false) (D : jD) (z : Nat × Nat) (b : Nat)  (μ : jM) (sz : Nat) (Q : Int32 → jM → Prop) : Met l yX9_accounts wsX9_accounts rmX9_accounts (jPre2z D z μ sz [.ref b] (wX9_accounts z b  μ Q)) (jRz jfI Q D z (jA z μ sz)) 0 0 (jA z μ sz) := by
  refine Met.ofW (cc := cX9_accounts) (maxL := 1) (ret := (some .int)) (by decide) rfl ?_
  intro p e s m args below meth c s₁ B hml hv
  obtain ⟨rfl, hsz, hH, hz0, hK, hG, hw⟩ := hv
  subst hsz
  have hX : jX2 D z (jA z μ s.heap.size) p l s m _ meth c yX9_accounts cX9_accounts 1 wsX9_accounts (some .int) := ⟨B.exec, B.bytes, hml, findClass_of_methodNamed B.named, atoms_spec (ws := wsX9_accounts) B.pre, B.returns, B.notSynchronized, (name_of_methodNamed B.named B.method).1, hK, hG, hfl⟩
  obtain ⟨ls, hg, hl⟩ : ∃ ls : Array Slot, entryFrame m ([.ref b] : List Value).toArray 1 = F0 m 0 ls [] ∧ lv_has ls 1 [(0, va_rf (some b))] := by
    exact ⟨_, lg_entry_eq .., lv_entry _ (n := 1) (Nat.le_of_ble_eq_true rfl)⟩
  rw [hg]
  exact kX9_accounts_0 hX hw (jIz.start hH hz0) (lv_sub hl [0] rfl) (by decide) (by decide)
set_option maxHeartbeats 4000000 in
set_option maxRecDepth 100000 in
theorem kX2_init_0 {b : Nat} (hX : jX2 D z A p l s m args meth c yX2_init cX2_init 1 wsX2_init none) {Q : Unit → jM → Prop}   {μ : jM} {H : Heap} {locs : List Loc} {ls : Array Slot} {cells slots : Nat} (hw : wX2_init_0 z b Q  μ) (hI : jIz D z A s.heap μ H locs) (hl : lv_has ls 1 [(0, va_rf (some b))]) (hcn : cells + 1 ≤ 1) (hsn : slots + 451 ≤ 451) : W p l e rmX2_init s m args below meth c H locs cells slots (MQ below (jRz jfV Q D z A) args s 1 451 A) (F0 m 0 ls []) := by
  unfold wX2_init_0 at hw
  obtain ⟨hx, hb, hml, hown, hts, hr, hlocks, hnm, hK, hG, hfl⟩ := id hX
  have hown : s.vm.findClass RX2 = some m.cls := hown
  have hfX2 : ∀ w ∈ wsX20, w.before args s = true := fun w h => hts w (List.mem_cons_of_mem _ (List.mem_append_right _ h))
  refine j_aload_n (r := (some b)) hx hb dX2_init_0 rfl (lv_at hl 0 rfl) ?_
  refine W.objInit hx hb hown (hts (.methodLink RX2 3 objectInit) (List.mem_of_getElem? (i := 1) (by decide +kernel))) (hts (.instanceMethod objectInit) (List.mem_of_getElem? (i := 2) (by decide +kernel))) (hts (.code objectInit ⟨#[0xb1]⟩ 1 none) (List.mem_of_getElem? (i := 3) (by decide +kernel))) rfl (by rw [hml]; exact hl.1) rfl dX2_init_1 (Nat.le_of_ble_eq_true rfl) (Nat.le_of_ble_eq_true rfl) ?_
  refine W.eq (g2 := F0 m 4 ls []) rfl ?_
  refine j_aload_n (r := (some b)) hx hb dX2_init_4 rfl (lv_at hl 0 rfl) ?_
  refine lv_sipush (v := (451)) hx hb dX2_init_5 (by decide) ?_
  refine j_newaz (atype := .boolean) (ty := .boolean) (t := 2) (N' := 451) (a0 := (451, .inl (fun _ => 0))) hx hb (hts (.arrayClass .boolean) (List.mem_of_getElem? (i := 4) (by decide +kernel))) rfl hK hI (fun cA h => Option.some.inj (h.symm.trans ((hK.2 2 (D.2 2, .boolean) rfl).2))) (fun cA => rfl) (by decide) (by decide) (by decide) (by show _ ≤ 1; omega) (by show _ ≤ 451; omega) dX2_init_8 (fun q1 H hq1 hI => ?_)
  have hw := hw q1 hq1
  obtain ⟨μ2, hμ2, hw⟩ := hw
  refine j_putFz (C := RX2) (T := TX2) (N := 1) (ci := 5) (r := (some b)) (v := va_rf (some q1)) hx hb hfX2 tyX2 tyX2_ok nmX2 hown hK hI rfl 0 (by decide) (hts (.fieldLink RX2 9 "CashPools$Calendar" "holiday" "[Z") (List.mem_of_getElem? (i := 5) (by decide +kernel))) (fun _ h => h) rfl hnm rfl (tyX2_ok 0 (by decide)) (jnra _ (some q1)) (jfra _ (some q1)) hμ2 dX2_init_10 (fun H locs hI => ?_)
  exact j_vretz hx hb hr hlocks hI hw (by omega) (by omega) dX2_init_13
set_option maxHeartbeats 4000000 in
set_option maxRecDepth 100000 in
theorem kX2_init (l : Launch) (hfl : l.stackTraces = false) (D : jD) (z : Nat × Nat) (b : Nat)  (μ : jM) (sz : Nat) (Q : Unit → jM → Prop) : Met l yX2_init wsX2_init rmX2_init (jPre2z D z μ sz [.ref b] (wX2_init z b  μ Q)) (jRz jfV Q D z (jA z μ sz)) 1 451 (jA z μ sz) := by
  refine Met.ofW (cc := cX2_init) (maxL := 1) (ret := none) (by decide) rfl ?_
  intro p e s m args below meth c s₁ B hml hv
  obtain ⟨rfl, hsz, hH, hz0, hK, hG, hw⟩ := hv
  subst hsz
  have hX : jX2 D z (jA z μ s.heap.size) p l s m _ meth c yX2_init cX2_init 1 wsX2_init none := ⟨B.exec, B.bytes, hml, findClass_of_methodNamed B.named, atoms_spec (ws := wsX2_init) B.pre, B.returns, B.notSynchronized, (name_of_methodNamed B.named B.method).1, hK, hG, hfl⟩
  obtain ⟨ls, hg, hl⟩ : ∃ ls : Array Slot, entryFrame m ([.ref b] : List Value).toArray 1 = F0 m 0 ls [] ∧ lv_has ls 1 [(0, va_rf (some b))] := by
    exact ⟨_, lg_entry_eq .., lv_entry _ (n := 1) (Nat.le_of_ble_eq_true rfl)⟩
  rw [hg]
  exact kX2_init_0 hX hw (jIz.start hH hz0) (lv_sub hl [0] rfl) (by decide) (by decide)
set_option maxHeartbeats 4000000 in
set_option maxRecDepth 100000 in
theorem kX1_init_0 {b : Nat} (hX : jX2 D z A p l s m args meth c yX1_init cX1_init 2 wsX1_init none) {Q : Unit → jM → Prop}  {x1 : Int32} {μ : jM} {H : Heap} {locs : List Loc} {ls : Array Slot} {cells slots : Nat} (hw : wX1_init_0 z b Q x1 μ) (hI : jIz D z A s.heap μ H locs) (hl : lv_has ls 2 [(0, va_rf (some b)), (1, .int x1)]) (hcn : cells + 0 ≤ 0) (hsn : slots + 0 ≤ 0) : W p l e rmX1_init s m args below meth c H locs cells slots (MQ below (jRz jfV Q D z A) args s 0 0 A) (F0 m 0 ls []) := by
  unfold wX1_init_0 at hw
  obtain ⟨hx, hb, hml, hown, hts, hr, hlocks, hnm, hK, hG, hfl⟩ := id hX
  have hown : s.vm.findClass RX1 = some m.cls := hown
  have hfX1 : ∀ w ∈ wsX10, w.before args s = true := fun w h => hts w (List.mem_cons_of_mem _ (List.mem_append_right _ h))
  refine j_aload_n (r := (some b)) hx hb dX1_init_0 rfl (lv_at hl 0 rfl) ?_
  refine W.objInit hx hb hown (hts (.methodLink RX1 3 objectInit) (List.mem_of_getElem? (i := 1) (by decide +kernel))) (hts (.instanceMethod objectInit) (List.mem_of_getElem? (i := 2) (by decide +kernel))) (hts (.code objectInit ⟨#[0xb1]⟩ 1 none) (List.mem_of_getElem? (i := 3) (by decide +kernel))) rfl (by rw [hml]; exact hl.1) rfl dX1_init_1 (Nat.le_of_ble_eq_true rfl) (Nat.le_of_ble_eq_true rfl) ?_
  refine W.eq (g2 := F0 m 4 ls []) rfl ?_
  refine j_aload_n (r := (some b)) hx hb dX1_init_4 rfl (lv_at hl 0 rfl) ?_
  refine lv_iconst (v := (-1)) hx hb dX1_init_5 (by decide) ?_
  obtain ⟨μ1, hμ1, hw⟩ := hw
  refine j_putz (C := RX1) (T := TX1) (N := 3) (ci := 4) (r := (some b)) (v := .int (-1 : Int32)) hx hb hfX1 tyX1 tyX1_ok nmX1 hown hK hI rfl 1 (by decide) (hts (.fieldLink RX1 9 "CashPools$Bank" "limit" "I") (List.mem_of_getElem? (i := 4) (by decide +kernel))) (fun _ h => h) rfl (tyX1_ok 1 (by decide)) rfl rfl hμ1 dX1_init_6 (fun H locs hI => ?_)
  refine j_aload_n (r := (some b)) hx hb dX1_init_9 rfl (lv_at hl 0 rfl) ?_
  refine lv_iload_n hx hb dX1_init_10 rfl (lv_at hl 1 rfl) ?_
  obtain ⟨μ2, hμ2, hw⟩ := hw
  refine j_putFz (C := RX1) (T := TX1) (N := 3) (ci := 4) (r := (some b)) (v := .int x1) hx hb hfX1 tyX1 tyX1_ok nmX1 hown hK hI rfl 0 (by decide) (hts (.fieldLink RX1 15 "CashPools$Bank" "number" "I") (List.mem_of_getElem? (i := 5) (by decide +kernel))) (fun _ h => h) rfl hnm rfl (tyX1_ok 0 (by decide)) rfl rfl hμ2 dX1_init_11 (fun H locs hI => ?_)
  exact j_vretz hx hb hr hlocks hI hw (by omega) (by omega) dX1_init_14
set_option maxHeartbeats 4000000 in
set_option maxRecDepth 100000 in
theorem kX1_init (l : Launch) (hfl : l.stackTraces = false) (D : jD) (z : Nat × Nat) (b : Nat) (x1 : Int32) (μ : jM) (sz : Nat) (Q : Unit → jM → Prop) : Met l yX1_init wsX1_init rmX1_init (jPre2z D z μ sz [.ref b, .int x1] (wX1_init z b x1 μ Q)) (jRz jfV Q D z (jA z μ sz)) 0 0 (jA z μ sz) := by
  refine Met.ofW (cc := cX1_init) (maxL := 2) (ret := none) (by decide) rfl ?_
  intro p e s m args below meth c s₁ B hml hv
  obtain ⟨rfl, hsz, hH, hz0, hK, hG, hw⟩ := hv
  subst hsz
  have hX : jX2 D z (jA z μ s.heap.size) p l s m _ meth c yX1_init cX1_init 2 wsX1_init none := ⟨B.exec, B.bytes, hml, findClass_of_methodNamed B.named, atoms_spec (ws := wsX1_init) B.pre, B.returns, B.notSynchronized, (name_of_methodNamed B.named B.method).1, hK, hG, hfl⟩
  obtain ⟨ls, hg, hl⟩ : ∃ ls : Array Slot, entryFrame m ([.ref b, .int x1] : List Value).toArray 2 = F0 m 0 ls [] ∧ lv_has ls 2 [(0, va_rf (some b)), (1, .int x1)] := by
    exact ⟨_, lg_entry_eq .., lv_entry _ (n := 2) (Nat.le_of_ble_eq_true rfl)⟩
  rw [hg]
  exact kX1_init_0 hX hw (jIz.start hH hz0) (lv_sub hl [0, 1] rfl) (by decide) (by decide)
set_option maxHeartbeats 4000000 in
set_option maxRecDepth 100000 in
theorem kX3_init_72 {b : Nat} (hX : jX2 D z A p l s m args meth c yX3_init cX3_init 2 wsX3_init none) {Q : Unit → jM → Prop}  (n : Nat) : ∀ {x1 : Int32} {μ : jM} {H : Heap} {locs : List Loc} {ls : Array Slot} {cells slots : Nat}, wX3_init_72 z b Q n x1 μ → jIz D z A s.heap μ H locs → lv_has ls 2 [(0, va_rf (some b)), (1, .int x1)] → cells + n * 2 + 2 ≤ 19 → slots + n * 35 + 35 ≤ 677 → W p l e rmX3_init s m args below meth c H locs cells slots (MQ below (jRz jfV Q D z A) args s 19 677 A) (F0 m 72 ls []) := by
  induction n with
  | zero =>
    intros
    rename_i hw _ _ _ _
    exact (show False from hw).elim
  | succ n ih =>
    intro x1 μ H locs ls cells slots hw hI hl hcn hsn
    have hw : wX3_init_72_b z b Q (wX3_init_72 z b Q n) x1 μ := hw
    unfold wX3_init_72_b at hw
    obtain ⟨hx, hb, hml, hown, hts, hr, hlocks, hnm, hK, hG, hfl⟩ := id hX
    have hown : s.vm.findClass RX3 = some m.cls := hown
    have hfX1 : ∀ w ∈ wsX10, w.before args s = true := fun w h => hts w (List.mem_cons_of_mem _ (List.mem_append_right _ h))
    have hfX3 : ∀ w ∈ wsX30, w.before args s = true := fun w h => hts w (List.mem_cons_of_mem _ (List.mem_append_left _ (List.mem_append_left _ (List.mem_append_right _ h))))
    refine lv_iload_n hx hb dX3_init_72 rfl (lv_at hl 1 rfl) ?_
    refine lv_iconst (v := (4)) hx hb dX3_init_73 (by decide) ?_
    refine lv_icmp_ge (tgt := 99) hx hb dX3_init_74 (by decide) (fun hc => ?_) (fun hc => ?_)
    · have hw := hw.1 hc
      exact j_vretz hx hb hr hlocks hI hw (by omega) (by omega) dX3_init_99
    · have hw := hw.2 hc
      refine j_aload_n (r := (some b)) hx hb dX3_init_77 rfl (lv_at hl 0 rfl) ?_
      obtain ⟨v1, hv1, hw⟩ := hw
      refine j_getz (C := RX3) (T := TX3) (N := 8) (ci := 6) (r := (some b)) (v := va_rf v1) hx hb hfX3 hown hK hI rfl 4 (by decide) (hts (.fieldLink RX3 27 "CashPools$Desk" "banks" "Ljava/util/ArrayList;") (List.mem_of_getElem? (i := 11) (by decide +kernel))) (fun _ h => h) hv1 dX3_init_78 ?_
      refine j_newz (C := RX1) (T := TX1) (N := 3) (ci := 4) (fs := jfX1) hx hb hfX1 tyX1 tyX1_ok hown (hts (.classLink RX3 37 RX1) (List.mem_of_getElem? (i := 16) (by decide +kernel))) (hts (.instantiable RX1 3) (List.mem_of_getElem? (i := 17) (by decide +kernel))) (hts (.initialized RX1) (List.mem_of_getElem? (i := 18) (by decide +kernel))) hK hI rfl jdX1 (by show _ ≤ 19; omega) (by show _ ≤ 677; omega) dX3_init_81 (fun q2 H hq2 hI => ?_)
      have hw := hw q2 hq2
      refine lv_dup hx hb dX3_init_84 rfl ?_
      refine lv_iload_n hx hb dX3_init_85 rfl (lv_at hl 1 rfl) ?_
      refine j_goz hI (va_runI (As := [.int x1]) (rest := [va_rf (some q2), va_rf v1]) ⟨hx, hb, hml, hown, hts⟩ (kX1_init l hfl D z q2 x1 (va_up μ q2 (some (.inr (4, jfX1)))) H.size _) (cwI 1 hts gX3_init_X1_init rfl rfl rfl (hts (.initialized RX1) (List.mem_of_getElem? (i := 18) (by decide +kernel))) (hts (.methodLink RX3 39 yX1_init) (List.mem_of_getElem? (i := 39) (by decide +kernel))) (hts (.instanceMethod yX1_init) (List.mem_of_getElem? (i := 40) (by decide +kernel))) rfl (by decide +kernel) ⟨Nat.le_of_ble_eq_true rfl, Nat.le_of_ble_eq_true rfl⟩) (j_prS2z hK hG hI hw) rfl rfl hl.1 rfl (lv_room (by simp only [List.map, List.sum_cons, List.sum_nil, jrc, jci, jcl, jcr, jcn]; exact Nat.le_of_ble_eq_true rfl)) dX3_init_86 ⟨by show _ ≤ 19; omega, by show _ ≤ 677; omega⟩) (fun u3 μ4 H locs hw hI => ?_)
      refine W.eq (g2 := F0 m 89 ls [va_rf (some q2), va_rf v1]) rfl ?_
      obtain ⟨b7, ⟨hrb7, hfs⟩, hw⟩ := hw
      refine j_goz hI (va_runV (As := [va_rf (some q2)]) (rest := []) ⟨hx, hb, hml, hown, hts⟩ (kJx4a65c_add_9ea2d l hfl D z b7 (some q2) μ4 H.size _) (cwV 1 hts gX3_init_Jx4a65c_add_9ea2d rfl rfl rfl (by decide +kernel) ⟨Nat.le_of_ble_eq_true rfl, Nat.le_of_ble_eq_true rfl⟩) (j_prV2z hK hG hI hw (ci := 2) rfl hfs) rfl rfl hl.1 (by rw [hrb7]; rfl) (lv_room (Nat.le_of_ble_eq_true rfl)) dX3_init_89 ⟨by show _ ≤ 19; omega, by show _ ≤ 677; omega⟩) (fun v5 μ6 H locs hw hI => ?_)
      refine W.eq (g2 := F0 m 92 ls [.int v5]) rfl ?_
      refine lv_pop hx hb dX3_init_92 rfl ?_
      obtain ⟨v8, ev8⟩ : ∃ y : Int32, y = x1 + (1 : Int32) := ⟨_, rfl⟩
      have hw := hw v8 ev8
      refine lv_iinc (v := v8) (lv' := [(1, .int v8), (0, va_rf (some b))]) hx hb dX3_init_93 hl (k := 1) rfl (by rw [ev8]; rfl) (by decide) rfl (fun ls hl => ?_)
      refine lv_goto (tgt := 72) hx hb dX3_init_96 (by decide) ?_
      exact ih hw hI (lv_sub hl [1, 0] rfl) (by omega) (by omega)
set_option maxHeartbeats 4000000 in
set_option maxRecDepth 100000 in
theorem kX3_init_0 {b : Nat} (hX : jX2 D z A p l s m args meth c yX3_init cX3_init 2 wsX3_init none) {Q : Unit → jM → Prop}   {μ : jM} {H : Heap} {locs : List Loc} {ls : Array Slot} {cells slots : Nat} (hw : wX3_init_0 z b Q  μ) (hI : jIz D z A s.heap μ H locs) (hl : lv_has ls 2 [(0, va_rf (some b))]) (hcn : cells + 19 ≤ 19) (hsn : slots + 677 ≤ 677) : W p l e rmX3_init s m args below meth c H locs cells slots (MQ below (jRz jfV Q D z A) args s 19 677 A) (F0 m 0 ls []) := by
  unfold wX3_init_0 at hw
  obtain ⟨hx, hb, hml, hown, hts, hr, hlocks, hnm, hK, hG, hfl⟩ := id hX
  have hown : s.vm.findClass RX3 = some m.cls := hown
  have hfJx4a65c : ∀ w ∈ wsJx4a65c0, w.before args s = true := fun w h => hts w (List.mem_cons_of_mem _ (List.mem_append_left _ (List.mem_append_left _ (List.mem_append_left _ (List.mem_append_right _ h)))))
  have hfX2 : ∀ w ∈ wsX20, w.before args s = true := fun w h => hts w (List.mem_cons_of_mem _ (List.mem_append_left _ (List.mem_append_right _ h)))
  have hfX3 : ∀ w ∈ wsX30, w.before args s = true := fun w h => hts w (List.mem_cons_of_mem _ (List.mem_append_left _ (List.mem_append_left _ (List.mem_append_right _ h))))
  refine j_aload_n (r := (some b)) hx hb dX3_init_0 rfl (lv_at hl 0 rfl) ?_
  refine W.objInit hx hb hown (hts (.methodLink RX3 3 objectInit) (List.mem_of_getElem? (i := 1) (by decide +kernel))) (hts (.instanceMethod objectInit) (List.mem_of_getElem? (i := 2) (by decide +kernel))) (hts (.code objectInit ⟨#[0xb1]⟩ 1 none) (List.mem_of_getElem? (i := 3) (by decide +kernel))) rfl (by rw [hml]; exact hl.1) rfl dX3_init_1 (Nat.le_of_ble_eq_true rfl) (Nat.le_of_ble_eq_true rfl) ?_
  refine W.eq (g2 := F0 m 4 ls []) rfl ?_
  refine j_aload_n (r := (some b)) hx hb dX3_init_4 rfl (lv_at hl 0 rfl) ?_
  refine j_newz (C := RJx4a65c) (T := TJx4a65c) (N := 3) (ci := 2) (fs := jfJx4a65c) hx hb hfJx4a65c tyJx4a65c tyJx4a65c_ok hown (hts (.classLink RX3 9 RJx4a65c) (List.mem_of_getElem? (i := 4) (by decide +kernel))) (hts (.instantiable RJx4a65c 3) (List.mem_of_getElem? (i := 5) (by decide +kernel))) (hts (.initialized RJx4a65c) (List.mem_of_getElem? (i := 6) (by decide +kernel))) hK hI rfl jdJx4a65c (by show _ ≤ 19; omega) (by show _ ≤ 677; omega) dX3_init_5 (fun q1 H hq1 hI => ?_)
  have hw := hw q1 hq1
  refine lv_dup hx hb dX3_init_8 rfl ?_
  refine j_goz hI (va_runI (As := []) (rest := [va_rf (some q1), va_rf (some b)]) ⟨hx, hb, hml, hown, hts⟩ (kJx4a65c_init_da8c8 l hfl D z q1  (va_up μ q1 (some (.inr (2, jfJx4a65c)))) H.size _) (cwI 0 hts gX3_init_Jx4a65c_init_da8c8 rfl rfl rfl (hts (.initialized RJx4a65c) (List.mem_of_getElem? (i := 6) (by decide +kernel))) (hts (.methodLink RX3 11 yJx4a65c_init_da8c8) (List.mem_of_getElem? (i := 19) (by decide +kernel))) (hts (.instanceMethod yJx4a65c_init_da8c8) (List.mem_of_getElem? (i := 20) (by decide +kernel))) rfl (by decide +kernel) ⟨Nat.le_of_ble_eq_true rfl, Nat.le_of_ble_eq_true rfl⟩) (j_prS2z hK hG hI hw) rfl rfl hl.1 rfl (lv_room (Nat.le_of_ble_eq_true rfl)) dX3_init_9 ⟨by show _ ≤ 19; omega, by show _ ≤ 677; omega⟩) (fun u2 μ3 H locs hw hI => ?_)
  refine W.eq (g2 := F0 m 12 ls [va_rf (some q1), va_rf (some b)]) rfl ?_
  obtain ⟨μ4, hμ4, hw⟩ := hw
  refine j_putFz (C := RX3) (T := TX3) (N := 8) (ci := 6) (r := (some b)) (v := va_rf (some q1)) hx hb hfX3 tyX3 tyX3_ok nmX3 hown hK hI rfl 0 (by decide) (hts (.fieldLink RX3 12 "CashPools$Desk" "everyAccount" "Ljava/util/ArrayList;") (List.mem_of_getElem? (i := 7) (by decide +kernel))) (fun _ h => h) rfl hnm rfl (tyX3_ok 0 (by decide)) (jnr _ (some q1)) (jfr _ (some q1)) hμ4 dX3_init_12 (fun H locs hI => ?_)
  refine j_aload_n (r := (some b)) hx hb dX3_init_15 rfl (lv_at hl 0 rfl) ?_
  refine j_newz (C := RJx4a65c) (T := TJx4a65c) (N := 3) (ci := 2) (fs := jfJx4a65c) hx hb hfJx4a65c tyJx4a65c tyJx4a65c_ok hown (hts (.classLink RX3 9 RJx4a65c) (List.mem_of_getElem? (i := 4) (by decide +kernel))) (hts (.instantiable RJx4a65c 3) (List.mem_of_getElem? (i := 5) (by decide +kernel))) (hts (.initialized RJx4a65c) (List.mem_of_getElem? (i := 6) (by decide +kernel))) hK hI rfl jdJx4a65c (by show _ ≤ 19; omega) (by show _ ≤ 677; omega) dX3_init_16 (fun q5 H hq5 hI => ?_)
  have hw := hw q5 hq5
  refine lv_dup hx hb dX3_init_19 rfl ?_
  refine j_goz hI (va_runI (As := []) (rest := [va_rf (some q5), va_rf (some b)]) ⟨hx, hb, hml, hown, hts⟩ (kJx4a65c_init_da8c8 l hfl D z q5  (va_up μ4 q5 (some (.inr (2, jfJx4a65c)))) H.size _) (cwI 0 hts gX3_init_Jx4a65c_init_da8c8 rfl rfl rfl (hts (.initialized RJx4a65c) (List.mem_of_getElem? (i := 6) (by decide +kernel))) (hts (.methodLink RX3 11 yJx4a65c_init_da8c8) (List.mem_of_getElem? (i := 19) (by decide +kernel))) (hts (.instanceMethod yJx4a65c_init_da8c8) (List.mem_of_getElem? (i := 20) (by decide +kernel))) rfl (by decide +kernel) ⟨Nat.le_of_ble_eq_true rfl, Nat.le_of_ble_eq_true rfl⟩) (j_prS2z hK hG hI hw) rfl rfl hl.1 rfl (lv_room (Nat.le_of_ble_eq_true rfl)) dX3_init_20 ⟨by show _ ≤ 19; omega, by show _ ≤ 677; omega⟩) (fun u6 μ7 H locs hw hI => ?_)
  refine W.eq (g2 := F0 m 23 ls [va_rf (some q5), va_rf (some b)]) rfl ?_
  obtain ⟨μ8, hμ8, hw⟩ := hw
  refine j_putFz (C := RX3) (T := TX3) (N := 8) (ci := 6) (r := (some b)) (v := va_rf (some q5)) hx hb hfX3 tyX3 tyX3_ok nmX3 hown hK hI rfl 1 (by decide) (hts (.fieldLink RX3 18 "CashPools$Desk" "tops" "Ljava/util/ArrayList;") (List.mem_of_getElem? (i := 8) (by decide +kernel))) (fun _ h => h) rfl hnm rfl (tyX3_ok 1 (by decide)) (jnr _ (some q5)) (jfr _ (some q5)) hμ8 dX3_init_23 (fun H locs hI => ?_)
  refine j_aload_n (r := (some b)) hx hb dX3_init_26 rfl (lv_at hl 0 rfl) ?_
  refine j_newz (C := RJx4a65c) (T := TJx4a65c) (N := 3) (ci := 2) (fs := jfJx4a65c) hx hb hfJx4a65c tyJx4a65c tyJx4a65c_ok hown (hts (.classLink RX3 9 RJx4a65c) (List.mem_of_getElem? (i := 4) (by decide +kernel))) (hts (.instantiable RJx4a65c 3) (List.mem_of_getElem? (i := 5) (by decide +kernel))) (hts (.initialized RJx4a65c) (List.mem_of_getElem? (i := 6) (by decide +kernel))) hK hI rfl jdJx4a65c (by show _ ≤ 19; omega) (by show _ ≤ 677; omega) dX3_init_27 (fun q9 H hq9 hI => ?_)
  have hw := hw q9 hq9
  refine lv_dup hx hb dX3_init_30 rfl ?_
  refine j_goz hI (va_runI (As := []) (rest := [va_rf (some q9), va_rf (some b)]) ⟨hx, hb, hml, hown, hts⟩ (kJx4a65c_init_da8c8 l hfl D z q9  (va_up μ8 q9 (some (.inr (2, jfJx4a65c)))) H.size _) (cwI 0 hts gX3_init_Jx4a65c_init_da8c8 rfl rfl rfl (hts (.initialized RJx4a65c) (List.mem_of_getElem? (i := 6) (by decide +kernel))) (hts (.methodLink RX3 11 yJx4a65c_init_da8c8) (List.mem_of_getElem? (i := 19) (by decide +kernel))) (hts (.instanceMethod yJx4a65c_init_da8c8) (List.mem_of_getElem? (i := 20) (by decide +kernel))) rfl (by decide +kernel) ⟨Nat.le_of_ble_eq_true rfl, Nat.le_of_ble_eq_true rfl⟩) (j_prS2z hK hG hI hw) rfl rfl hl.1 rfl (lv_room (Nat.le_of_ble_eq_true rfl)) dX3_init_31 ⟨by show _ ≤ 19; omega, by show _ ≤ 677; omega⟩) (fun u10 μ11 H locs hw hI => ?_)
  refine W.eq (g2 := F0 m 34 ls [va_rf (some q9), va_rf (some b)]) rfl ?_
  obtain ⟨μ12, hμ12, hw⟩ := hw
  refine j_putFz (C := RX3) (T := TX3) (N := 8) (ci := 6) (r := (some b)) (v := va_rf (some q9)) hx hb hfX3 tyX3 tyX3_ok nmX3 hown hK hI rfl 2 (by decide) (hts (.fieldLink RX3 21 "CashPools$Desk" "everyLine" "Ljava/util/ArrayList;") (List.mem_of_getElem? (i := 9) (by decide +kernel))) (fun _ h => h) rfl hnm rfl (tyX3_ok 2 (by decide)) (jnr _ (some q9)) (jfr _ (some q9)) hμ12 dX3_init_34 (fun H locs hI => ?_)
  refine j_aload_n (r := (some b)) hx hb dX3_init_37 rfl (lv_at hl 0 rfl) ?_
  refine j_newz (C := RJx4a65c) (T := TJx4a65c) (N := 3) (ci := 2) (fs := jfJx4a65c) hx hb hfJx4a65c tyJx4a65c tyJx4a65c_ok hown (hts (.classLink RX3 9 RJx4a65c) (List.mem_of_getElem? (i := 4) (by decide +kernel))) (hts (.instantiable RJx4a65c 3) (List.mem_of_getElem? (i := 5) (by decide +kernel))) (hts (.initialized RJx4a65c) (List.mem_of_getElem? (i := 6) (by decide +kernel))) hK hI rfl jdJx4a65c (by show _ ≤ 19; omega) (by show _ ≤ 677; omega) dX3_init_38 (fun q13 H hq13 hI => ?_)
  have hw := hw q13 hq13
  refine lv_dup hx hb dX3_init_41 rfl ?_
  refine j_goz hI (va_runI (As := []) (rest := [va_rf (some q13), va_rf (some b)]) ⟨hx, hb, hml, hown, hts⟩ (kJx4a65c_init_da8c8 l hfl D z q13  (va_up μ12 q13 (some (.inr (2, jfJx4a65c)))) H.size _) (cwI 0 hts gX3_init_Jx4a65c_init_da8c8 rfl rfl rfl (hts (.initialized RJx4a65c) (List.mem_of_getElem? (i := 6) (by decide +kernel))) (hts (.methodLink RX3 11 yJx4a65c_init_da8c8) (List.mem_of_getElem? (i := 19) (by decide +kernel))) (hts (.instanceMethod yJx4a65c_init_da8c8) (List.mem_of_getElem? (i := 20) (by decide +kernel))) rfl (by decide +kernel) ⟨Nat.le_of_ble_eq_true rfl, Nat.le_of_ble_eq_true rfl⟩) (j_prS2z hK hG hI hw) rfl rfl hl.1 rfl (lv_room (Nat.le_of_ble_eq_true rfl)) dX3_init_42 ⟨by show _ ≤ 19; omega, by show _ ≤ 677; omega⟩) (fun u14 μ15 H locs hw hI => ?_)
  refine W.eq (g2 := F0 m 45 ls [va_rf (some q13), va_rf (some b)]) rfl ?_
  obtain ⟨μ16, hμ16, hw⟩ := hw
  refine j_putFz (C := RX3) (T := TX3) (N := 8) (ci := 6) (r := (some b)) (v := va_rf (some q13)) hx hb hfX3 tyX3 tyX3_ok nmX3 hown hK hI rfl 3 (by decide) (hts (.fieldLink RX3 24 "CashPools$Desk" "everyFlow" "Ljava/util/ArrayList;") (List.mem_of_getElem? (i := 10) (by decide +kernel))) (fun _ h => h) rfl hnm rfl (tyX3_ok 3 (by decide)) (jnr _ (some q13)) (jfr _ (some q13)) hμ16 dX3_init_45 (fun H locs hI => ?_)
  refine j_aload_n (r := (some b)) hx hb dX3_init_48 rfl (lv_at hl 0 rfl) ?_
  refine j_newz (C := RJx4a65c) (T := TJx4a65c) (N := 3) (ci := 2) (fs := jfJx4a65c) hx hb hfJx4a65c tyJx4a65c tyJx4a65c_ok hown (hts (.classLink RX3 9 RJx4a65c) (List.mem_of_getElem? (i := 4) (by decide +kernel))) (hts (.instantiable RJx4a65c 3) (List.mem_of_getElem? (i := 5) (by decide +kernel))) (hts (.initialized RJx4a65c) (List.mem_of_getElem? (i := 6) (by decide +kernel))) hK hI rfl jdJx4a65c (by show _ ≤ 19; omega) (by show _ ≤ 677; omega) dX3_init_49 (fun q17 H hq17 hI => ?_)
  have hw := hw q17 hq17
  refine lv_dup hx hb dX3_init_52 rfl ?_
  refine j_goz hI (va_runI (As := []) (rest := [va_rf (some q17), va_rf (some b)]) ⟨hx, hb, hml, hown, hts⟩ (kJx4a65c_init_da8c8 l hfl D z q17  (va_up μ16 q17 (some (.inr (2, jfJx4a65c)))) H.size _) (cwI 0 hts gX3_init_Jx4a65c_init_da8c8 rfl rfl rfl (hts (.initialized RJx4a65c) (List.mem_of_getElem? (i := 6) (by decide +kernel))) (hts (.methodLink RX3 11 yJx4a65c_init_da8c8) (List.mem_of_getElem? (i := 19) (by decide +kernel))) (hts (.instanceMethod yJx4a65c_init_da8c8) (List.mem_of_getElem? (i := 20) (by decide +kernel))) rfl (by decide +kernel) ⟨Nat.le_of_ble_eq_true rfl, Nat.le_of_ble_eq_true rfl⟩) (j_prS2z hK hG hI hw) rfl rfl hl.1 rfl (lv_room (Nat.le_of_ble_eq_true rfl)) dX3_init_53 ⟨by show _ ≤ 19; omega, by show _ ≤ 677; omega⟩) (fun u18 μ19 H locs hw hI => ?_)
  refine W.eq (g2 := F0 m 56 ls [va_rf (some q17), va_rf (some b)]) rfl ?_
  obtain ⟨μ20, hμ20, hw⟩ := hw
  refine j_putFz (C := RX3) (T := TX3) (N := 8) (ci := 6) (r := (some b)) (v := va_rf (some q17)) hx hb hfX3 tyX3 tyX3_ok nmX3 hown hK hI rfl 4 (by decide) (hts (.fieldLink RX3 27 "CashPools$Desk" "banks" "Ljava/util/ArrayList;") (List.mem_of_getElem? (i := 11) (by decide +kernel))) (fun _ h => h) rfl hnm rfl (tyX3_ok 4 (by decide)) (jnr _ (some q17)) (jfr _ (some q17)) hμ20 dX3_init_56 (fun H locs hI => ?_)
  refine j_aload_n (r := (some b)) hx hb dX3_init_59 rfl (lv_at hl 0 rfl) ?_
  refine j_newz (C := RX2) (T := TX2) (N := 1) (ci := 5) (fs := jfX2) hx hb hfX2 tyX2 tyX2_ok hown (hts (.classLink RX3 30 RX2) (List.mem_of_getElem? (i := 12) (by decide +kernel))) (hts (.instantiable RX2 1) (List.mem_of_getElem? (i := 13) (by decide +kernel))) (hts (.initialized RX2) (List.mem_of_getElem? (i := 14) (by decide +kernel))) hK hI rfl jdX2 (by show _ ≤ 19; omega) (by show _ ≤ 677; omega) dX3_init_60 (fun q21 H hq21 hI => ?_)
  have hw := hw q21 hq21
  refine lv_dup hx hb dX3_init_63 rfl ?_
  refine j_goz hI (va_runIN (As := []) (rest := [va_rf (some q21), va_rf (some b)]) ⟨hx, hb, hml, hown, hts⟩ (kX2_init l hfl D z q21  (va_up μ20 q21 (some (.inr (5, jfX2)))) H.size _) ⟨va_cnB 0 hts gX3_init_X2_init_n32 rfl rfl rfl hG.2.2.2.2.2.2.2.2.2.2.1 (hts (.initialized RX2) (List.mem_of_getElem? (i := 14) (by decide +kernel))) (by decide +kernel) ⟨Nat.le_of_ble_eq_true rfl, Nat.le_of_ble_eq_true rfl⟩, rfl, (hts (.instanceMethod yX2_init) (List.mem_of_getElem? (i := 34) (by decide +kernel)))⟩ (j_prS2z hK hG hI hw) rfl rfl hl.1 rfl (lv_room (Nat.le_of_ble_eq_true rfl)) dX3_init_64 ⟨by show _ ≤ 19; omega, by show _ ≤ 677; omega⟩) (fun u22 μ23 H locs hw hI => ?_)
  refine W.eq (g2 := F0 m 67 ls [va_rf (some q21), va_rf (some b)]) rfl ?_
  obtain ⟨μ24, hμ24, hw⟩ := hw
  refine j_putFz (C := RX3) (T := TX3) (N := 8) (ci := 6) (r := (some b)) (v := va_rf (some q21)) hx hb hfX3 tyX3 tyX3_ok nmX3 hown hK hI rfl 5 (by decide) (hts (.fieldLink RX3 33 "CashPools$Desk" "calendar" "LCashPools$Calendar;") (List.mem_of_getElem? (i := 15) (by decide +kernel))) (fun _ h => h) rfl hnm rfl (tyX3_ok 5 (by decide)) (jnr _ (some q21)) (jfr _ (some q21)) hμ24 dX3_init_67 (fun H locs hI => ?_)
  refine lv_iconst (v := (0)) hx hb dX3_init_70 (by decide) ?_
  refine lv_topi (fun v25 ev25 => ?_)
  have hw := hw v25 ev25
  refine lv_istore_n (lv' := [(1, .int v25), (0, va_rf (some b))]) hx hb dX3_init_71 rfl hl (by decide) rfl (fun ls hl => ?_)
  obtain ⟨n26, hn, hw⟩ := hw
  exact kX3_init_72 hX  n26 hw hI (lv_sub hl [1, 0] rfl) (by omega) (by omega)
set_option maxHeartbeats 4000000 in
set_option maxRecDepth 100000 in
theorem kX3_init (l : Launch) (hfl : l.stackTraces = false) (D : jD) (z : Nat × Nat) (b : Nat)  (μ : jM) (sz : Nat) (Q : Unit → jM → Prop) : Met l yX3_init wsX3_init rmX3_init (jPre2z D z μ sz [.ref b] (wX3_init z b  μ Q)) (jRz jfV Q D z (jA z μ sz)) 19 677 (jA z μ sz) := by
  refine Met.ofW (cc := cX3_init) (maxL := 2) (ret := none) (by decide) rfl ?_
  intro p e s m args below meth c s₁ B hml hv
  obtain ⟨rfl, hsz, hH, hz0, hK, hG, hw⟩ := hv
  subst hsz
  have hX : jX2 D z (jA z μ s.heap.size) p l s m _ meth c yX3_init cX3_init 2 wsX3_init none := ⟨B.exec, B.bytes, hml, findClass_of_methodNamed B.named, atoms_spec (ws := wsX3_init) B.pre, B.returns, B.notSynchronized, (name_of_methodNamed B.named B.method).1, hK, hG, hfl⟩
  obtain ⟨ls, hg, hl⟩ : ∃ ls : Array Slot, entryFrame m ([.ref b] : List Value).toArray 2 = F0 m 0 ls [] ∧ lv_has ls 2 [(0, va_rf (some b))] := by
    exact ⟨_, lg_entry_eq .., lv_entry _ (n := 2) (Nat.le_of_ble_eq_true rfl)⟩
  rw [hg]
  exact kX3_init_0 hX hw (jIz.start hH hz0) (lv_sub hl [0] rfl) (by decide) (by decide)
set_option maxHeartbeats 4000000 in
set_option maxRecDepth 100000 in
theorem kX9_init_0 {b : Nat} (hX : jX2 D z A p l s m args meth c yX9_init cX9_init 1 wsX9_init none) {Q : Unit → jM → Prop}   {μ : jM} {H : Heap} {locs : List Loc} {ls : Array Slot} {cells slots : Nat} (hw : wX9_init_0 z b Q  μ) (hI : jIz D z A s.heap μ H locs) (hl : lv_has ls 1 [(0, va_rf (some b))]) (hcn : cells + 20 ≤ 20) (hsn : slots + 685 ≤ 685) : W p l e rmX9_init s m args below meth c H locs cells slots (MQ below (jRz jfV Q D z A) args s 20 685 A) (F0 m 0 ls []) := by
  unfold wX9_init_0 at hw
  obtain ⟨hx, hb, hml, hown, hts, hr, hlocks, hnm, hK, hG, hfl⟩ := id hX
  have hown : s.vm.findClass RX9 = some m.cls := hown
  have hfX3 : ∀ w ∈ wsX30, w.before args s = true := fun w h => hts w (List.mem_cons_of_mem _ (List.mem_append_left _ (List.mem_append_left _ (List.mem_append_left _ (List.mem_append_left _ (List.mem_append_right _ h))))))
  have hfX9 : ∀ w ∈ wsX90, w.before args s = true := fun w h => hts w (List.mem_cons_of_mem _ (List.mem_append_left _ (List.mem_append_left _ (List.mem_append_left _ (List.mem_append_right _ h)))))
  refine j_aload_n (r := (some b)) hx hb dX9_init_0 rfl (lv_at hl 0 rfl) ?_
  refine W.objInit hx hb hown (hts (.methodLink RX9 1 objectInit) (List.mem_of_getElem? (i := 1) (by decide +kernel))) (hts (.instanceMethod objectInit) (List.mem_of_getElem? (i := 2) (by decide +kernel))) (hts (.code objectInit ⟨#[0xb1]⟩ 1 none) (List.mem_of_getElem? (i := 3) (by decide +kernel))) rfl (by rw [hml]; exact hl.1) rfl dX9_init_1 (Nat.le_of_ble_eq_true rfl) (Nat.le_of_ble_eq_true rfl) ?_
  refine W.eq (g2 := F0 m 4 ls []) rfl ?_
  refine j_aload_n (r := (some b)) hx hb dX9_init_4 rfl (lv_at hl 0 rfl) ?_
  refine j_newz (C := RX3) (T := TX3) (N := 8) (ci := 6) (fs := jfX3) hx hb hfX3 tyX3 tyX3_ok hown (hts (.classLink RX9 7 RX3) (List.mem_of_getElem? (i := 4) (by decide +kernel))) (hts (.instantiable RX3 8) (List.mem_of_getElem? (i := 5) (by decide +kernel))) (hts (.initialized RX3) (List.mem_of_getElem? (i := 6) (by decide +kernel))) hK hI rfl jdX3 (by show _ ≤ 20; omega) (by show _ ≤ 685; omega) dX9_init_5 (fun q1 H hq1 hI => ?_)
  have hw := hw q1 hq1
  refine lv_dup hx hb dX9_init_8 rfl ?_
  refine j_goz hI (va_runI (As := []) (rest := [va_rf (some q1), va_rf (some b)]) ⟨hx, hb, hml, hown, hts⟩ (kX3_init l hfl D z q1  (va_up μ q1 (some (.inr (6, jfX3)))) H.size _) (cwI 0 hts gX9_init_X3_init rfl rfl rfl (hts (.initialized RX3) (List.mem_of_getElem? (i := 6) (by decide +kernel))) (hts (.methodLink RX9 9 yX3_init) (List.mem_of_getElem? (i := 8) (by decide +kernel))) (hts (.instanceMethod yX3_init) (List.mem_of_getElem? (i := 9) (by decide +kernel))) rfl (by decide +kernel) ⟨Nat.le_of_ble_eq_true rfl, Nat.le_of_ble_eq_true rfl⟩) (j_prS2z hK hG hI hw) rfl rfl hl.1 rfl (lv_room (Nat.le_of_ble_eq_true rfl)) dX9_init_9 ⟨by show _ ≤ 20; omega, by show _ ≤ 685; omega⟩) (fun u2 μ3 H locs hw hI => ?_)
  refine W.eq (g2 := F0 m 12 ls [va_rf (some q1), va_rf (some b)]) rfl ?_
  obtain ⟨μ4, hμ4, hw⟩ := hw
  refine j_putFz (C := RX9) (T := TX9) (N := 1) (ci := 11) (r := (some b)) (v := va_rf (some q1)) hx hb hfX9 tyX9 tyX9_ok nmX9 hown hK hI rfl 0 (by decide) (hts (.fieldLink RX9 10 "CashPools" "desk" "LCashPools$Desk;") (List.mem_of_getElem? (i := 7) (by decide +kernel))) (fun _ h => h) rfl hnm rfl (tyX9_ok 0 (by decide)) (jnr _ (some q1)) (jfr _ (some q1)) hμ4 dX9_init_12 (fun H locs hI => ?_)
  exact j_vretz hx hb hr hlocks hI hw (by omega) (by omega) dX9_init_15
set_option maxHeartbeats 4000000 in
set_option maxRecDepth 100000 in
theorem kX9_init (l : Launch) (hfl : l.stackTraces = false) (D : jD) (z : Nat × Nat) (b : Nat)  (μ : jM) (sz : Nat) (Q : Unit → jM → Prop) : Met l yX9_init wsX9_init rmX9_init (jPre2z D z μ sz [.ref b] (wX9_init z b  μ Q)) (jRz jfV Q D z (jA z μ sz)) 20 685 (jA z μ sz) := by
  refine Met.ofW (cc := cX9_init) (maxL := 1) (ret := none) (by decide) rfl ?_
  intro p e s m args below meth c s₁ B hml hv
  obtain ⟨rfl, hsz, hH, hz0, hK, hG, hw⟩ := hv
  subst hsz
  have hX : jX2 D z (jA z μ s.heap.size) p l s m _ meth c yX9_init cX9_init 1 wsX9_init none := ⟨B.exec, B.bytes, hml, findClass_of_methodNamed B.named, atoms_spec (ws := wsX9_init) B.pre, B.returns, B.notSynchronized, (name_of_methodNamed B.named B.method).1, hK, hG, hfl⟩
  obtain ⟨ls, hg, hl⟩ : ∃ ls : Array Slot, entryFrame m ([.ref b] : List Value).toArray 1 = F0 m 0 ls [] ∧ lv_has ls 1 [(0, va_rf (some b))] := by
    exact ⟨_, lg_entry_eq .., lv_entry _ (n := 1) (Nat.le_of_ble_eq_true rfl)⟩
  rw [hg]
  exact kX9_init_0 hX hw (jIz.start hH hz0) (lv_sub hl [0] rfl) (by decide) (by decide)
end
