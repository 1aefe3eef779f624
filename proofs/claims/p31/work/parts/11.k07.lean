section
variable {p : Program} {l : Launch} {e : Env} {s : State} {m : MethodId} {args : Array Value} {below : List Frame} {meth : Method} {c : Code} {D : jD} {z : Nat × Nat} {A : Nat → Prop}
set_option maxHeartbeats 4000000 in
set_option maxRecDepth 100000 in
theorem kX3_passDay_30 {b : Nat} (hX : jX2 D z A p l s m args meth c yX3_passDay cX3_passDay 1 wsX3_passDay none) {Q : Unit → jM → Prop}   {μ : jM} {H : Heap} {locs : List Loc} {ls : Array Slot} {cells slots : Nat} (hw : wX3_passDay_30 z b Q  μ) (hI : jIz D z A s.heap μ H locs) (hl : lv_has ls 1 [(0, va_rf (some b))]) (hcn : cells + 0 ≤ 0) (hsn : slots + 0 ≤ 0) : W p l e rmX3_passDay s m args below meth c H locs cells slots (MQ below (jRz jfV Q D z A) args s 0 0 A) (F0 m 30 ls []) := by
  unfold wX3_passDay_30 at hw
  obtain ⟨hx, hb, hml, hown, hts, hr, hlocks, hnm, hK, hG, hfl⟩ := id hX
  have hown : s.vm.findClass RX3 = some m.cls := hown
  have hfX3 : ∀ w ∈ wsX30, w.before args s = true := fun w h => hts w (List.mem_cons_of_mem _ (List.mem_append_left _ (List.mem_append_left _ (List.mem_append_left _ (List.mem_append_left _ (List.mem_append_left _ (List.mem_append_left _ (List.mem_append_left _ (List.mem_append_left _ (List.mem_append_right _ h))))))))))
  refine j_aload_n (r := (some b)) hx hb dX3_passDay_30 rfl (lv_at hl 0 rfl) ?_
  obtain ⟨hfs, hw⟩ := hw
  refine j_goz hI (va_runV (As := []) (rest := []) ⟨hx, hb, hml, hown, hts⟩ (kX3_accrueInterest l hfl D z b  μ H.size _) (cwV 0 hts gX3_passDay_X3_accrueInterest rfl rfl rfl (by decide +kernel) ⟨Nat.le_of_ble_eq_true rfl, Nat.le_of_ble_eq_true rfl⟩) (j_prV2z hK hG hI hw (ci := 6) rfl hfs) rfl rfl hl.1 rfl (lv_room (Nat.le_of_ble_eq_true rfl)) dX3_passDay_31 ⟨by show _ ≤ 0; omega, by show _ ≤ 0; omega⟩) (fun u1 μ2 H locs hw hI => ?_)
  refine W.eq (g2 := F0 m 34 ls []) rfl ?_
  refine j_aload_n (r := (some b)) hx hb dX3_passDay_34 rfl (lv_at hl 0 rfl) ?_
  obtain ⟨v3, hv3, hw⟩ := hw
  refine j_getz (C := RX3) (T := TX3) (N := 8) (ci := 6) (r := (some b)) (v := .int v3) hx hb hfX3 hown hK hI rfl 6 (by decide) (hts (.fieldLink RX3 83 "CashPools$Desk" "day" "I") (List.mem_of_getElem? (i := 2) (by decide +kernel))) (fun _ h => h) hv3 dX3_passDay_35 ?_
  refine lv_iconst (v := (1)) hx hb dX3_passDay_38 (by decide) ?_
  refine lv_iadd hx hb dX3_passDay_39 ?_
  refine lv_bipush (v := (20)) hx hb dX3_passDay_40 (by decide) ?_
  refine lv_irem hx hb dX3_passDay_42 (by decide) ?_
  refine lv_if_ne (tgt := 50) hx hb dX3_passDay_43 (by decide) (fun hc => ?_) (fun hc => ?_)
  · have hw := hw.1 hc
    refine j_aload_n (r := (some b)) hx hb dX3_passDay_50 rfl (lv_at hl 0 rfl) ?_
    refine lv_dup hx hb dX3_passDay_51 rfl ?_
    obtain ⟨v4, hv4, hw⟩ := hw
    refine j_getz (C := RX3) (T := TX3) (N := 8) (ci := 6) (r := (some b)) (v := .int v4) hx hb hfX3 hown hK hI rfl 6 (by decide) (hts (.fieldLink RX3 83 "CashPools$Desk" "day" "I") (List.mem_of_getElem? (i := 2) (by decide +kernel))) (fun _ h => h) hv4 dX3_passDay_52 ?_
    refine lv_iconst (v := (1)) hx hb dX3_passDay_55 (by decide) ?_
    refine lv_iadd hx hb dX3_passDay_56 ?_
    obtain ⟨μ5, hμ5, hw⟩ := hw
    refine j_putz (C := RX3) (T := TX3) (N := 8) (ci := 6) (r := (some b)) (v := .int (v4 + (1 : Int32))) hx hb hfX3 tyX3 tyX3_ok nmX3 hown hK hI rfl 6 (by decide) (hts (.fieldLink RX3 83 "CashPools$Desk" "day" "I") (List.mem_of_getElem? (i := 2) (by decide +kernel))) (fun _ h => h) rfl (tyX3_ok 6 (by decide)) rfl rfl hμ5 dX3_passDay_57 (fun H locs hI => ?_)
    exact j_vretz hx hb hr hlocks hI hw (by omega) (by omega) dX3_passDay_60
  · have hw := hw.2 hc
    refine j_aload_n (r := (some b)) hx hb dX3_passDay_46 rfl (lv_at hl 0 rfl) ?_
    obtain ⟨hfs, hw⟩ := hw
    refine j_goz hI (va_runV (As := []) (rest := []) ⟨hx, hb, hml, hown, hts⟩ (kX3_bookInterest l hfl D z b  μ2 H.size _) (cwV 0 hts gX3_passDay_X3_bookInterest rfl rfl rfl (by decide +kernel) ⟨Nat.le_of_ble_eq_true rfl, Nat.le_of_ble_eq_true rfl⟩) (j_prV2z hK hG hI hw (ci := 6) rfl hfs) rfl rfl hl.1 rfl (lv_room (Nat.le_of_ble_eq_true rfl)) dX3_passDay_47 ⟨by show _ ≤ 0; omega, by show _ ≤ 0; omega⟩) (fun u6 μ7 H locs hw hI => ?_)
    refine W.eq (g2 := F0 m 50 ls []) rfl ?_
    refine j_aload_n (r := (some b)) hx hb dX3_passDay_50 rfl (lv_at hl 0 rfl) ?_
    refine lv_dup hx hb dX3_passDay_51 rfl ?_
    obtain ⟨v8, hv8, hw⟩ := hw
    refine j_getz (C := RX3) (T := TX3) (N := 8) (ci := 6) (r := (some b)) (v := .int v8) hx hb hfX3 hown hK hI rfl 6 (by decide) (hts (.fieldLink RX3 83 "CashPools$Desk" "day" "I") (List.mem_of_getElem? (i := 2) (by decide +kernel))) (fun _ h => h) hv8 dX3_passDay_52 ?_
    refine lv_iconst (v := (1)) hx hb dX3_passDay_55 (by decide) ?_
    refine lv_iadd hx hb dX3_passDay_56 ?_
    obtain ⟨μ9, hμ9, hw⟩ := hw
    refine j_putz (C := RX3) (T := TX3) (N := 8) (ci := 6) (r := (some b)) (v := .int (v8 + (1 : Int32))) hx hb hfX3 tyX3 tyX3_ok nmX3 hown hK hI rfl 6 (by decide) (hts (.fieldLink RX3 83 "CashPools$Desk" "day" "I") (List.mem_of_getElem? (i := 2) (by decide +kernel))) (fun _ h => h) rfl (tyX3_ok 6 (by decide)) rfl rfl hμ9 dX3_passDay_57 (fun H locs hI => ?_)
    exact j_vretz hx hb hr hlocks hI hw (by omega) (by omega) dX3_passDay_60
set_option maxHeartbeats 4000000 in
set_option maxRecDepth 100000 in
theorem kX3_passDay_0 {b : Nat} (hX : jX2 D z A p l s m args meth c yX3_passDay cX3_passDay 1 wsX3_passDay none) {Q : Unit → jM → Prop}   {μ : jM} {H : Heap} {locs : List Loc} {ls : Array Slot} {cells slots : Nat} (hw : wX3_passDay_0 z b Q  μ) (hI : jIz D z A s.heap μ H locs) (hl : lv_has ls 1 [(0, va_rf (some b))]) (hcn : cells + 0 ≤ 0) (hsn : slots + 0 ≤ 0) : W p l e rmX3_passDay s m args below meth c H locs cells slots (MQ below (jRz jfV Q D z A) args s 0 0 A) (F0 m 0 ls []) := by
  unfold wX3_passDay_0 at hw
  obtain ⟨hx, hb, hml, hown, hts, hr, hlocks, hnm, hK, hG, hfl⟩ := id hX
  have hown : s.vm.findClass RX3 = some m.cls := hown
  have hfX3 : ∀ w ∈ wsX30, w.before args s = true := fun w h => hts w (List.mem_cons_of_mem _ (List.mem_append_left _ (List.mem_append_left _ (List.mem_append_left _ (List.mem_append_left _ (List.mem_append_left _ (List.mem_append_left _ (List.mem_append_left _ (List.mem_append_left _ (List.mem_append_right _ h))))))))))
  refine j_aload_n (r := (some b)) hx hb dX3_passDay_0 rfl (lv_at hl 0 rfl) ?_
  obtain ⟨v1, hv1, hw⟩ := hw
  refine j_getz (C := RX3) (T := TX3) (N := 8) (ci := 6) (r := (some b)) (v := va_rf v1) hx hb hfX3 hown hK hI rfl 5 (by decide) (hts (.fieldLink RX3 33 "CashPools$Desk" "calendar" "LCashPools$Calendar;") (List.mem_of_getElem? (i := 1) (by decide +kernel))) (fun _ h => h) hv1 dX3_passDay_1 ?_
  refine j_aload_n (r := (some b)) hx hb dX3_passDay_4 rfl (lv_at hl 0 rfl) ?_
  obtain ⟨v2, hv2, hw⟩ := hw
  refine j_getz (C := RX3) (T := TX3) (N := 8) (ci := 6) (r := (some b)) (v := .int v2) hx hb hfX3 hown hK hI rfl 6 (by decide) (hts (.fieldLink RX3 83 "CashPools$Desk" "day" "I") (List.mem_of_getElem? (i := 2) (by decide +kernel))) (fun _ h => h) hv2 dX3_passDay_5 ?_
  obtain ⟨b5, ⟨hrb5, hfs⟩, hw⟩ := hw
  refine j_goz hI (va_runV (As := [.int v2]) (rest := []) ⟨hx, hb, hml, hown, hts⟩ (kX2_settles l hfl D z b5 v2 μ H.size _) (cwV 1 hts gX3_passDay_X2_settles rfl rfl rfl (by decide +kernel) ⟨Nat.le_of_ble_eq_true rfl, Nat.le_of_ble_eq_true rfl⟩) (j_prV2z hK hG hI hw (ci := 5) rfl hfs) rfl rfl hl.1 (by rw [hrb5]; rfl) (lv_room (Nat.le_of_ble_eq_true rfl)) dX3_passDay_8 ⟨by show _ ≤ 0; omega, by show _ ≤ 0; omega⟩) (fun v3 μ4 H locs hw hI => ?_)
  refine W.eq (g2 := F0 m 11 ls [.int v3]) rfl ?_
  refine lv_if_eq (tgt := 30) hx hb dX3_passDay_11 (by decide) (fun hc => ?_) (fun hc => ?_)
  · have hw := hw.1 hc
    exact kX3_passDay_30 hX  hw hI (lv_sub hl [0] rfl) (by omega) (by omega)
  · have hw := hw.2 hc
    refine j_aload_n (r := (some b)) hx hb dX3_passDay_14 rfl (lv_at hl 0 rfl) ?_
    obtain ⟨hfs, hw⟩ := hw
    refine j_goz hI (va_runV (As := []) (rest := []) ⟨hx, hb, hml, hown, hts⟩ (kX3_bookDueFlows l hfl D z b  μ4 H.size _) (cwV 0 hts gX3_passDay_X3_bookDueFlows rfl rfl rfl (by decide +kernel) ⟨Nat.le_of_ble_eq_true rfl, Nat.le_of_ble_eq_true rfl⟩) (j_prV2z hK hG hI hw (ci := 6) rfl hfs) rfl rfl hl.1 rfl (lv_room (Nat.le_of_ble_eq_true rfl)) dX3_passDay_15 ⟨by show _ ≤ 0; omega, by show _ ≤ 0; omega⟩) (fun u6 μ7 H locs hw hI => ?_)
    refine W.eq (g2 := F0 m 18 ls []) rfl ?_
    refine j_aload_n (r := (some b)) hx hb dX3_passDay_18 rfl (lv_at hl 0 rfl) ?_
    obtain ⟨hfs, hw⟩ := hw
    refine j_goz hI (va_runV (As := []) (rest := []) ⟨hx, hb, hml, hown, hts⟩ (kX3_sweepPools l hfl D z b  μ7 H.size _) (cwV 0 hts gX3_passDay_X3_sweepPools rfl rfl rfl (by decide +kernel) ⟨Nat.le_of_ble_eq_true rfl, Nat.le_of_ble_eq_true rfl⟩) (j_prV2z hK hG hI hw (ci := 6) rfl hfs) rfl rfl hl.1 rfl (lv_room (Nat.le_of_ble_eq_true rfl)) dX3_passDay_19 ⟨by show _ ≤ 0; omega, by show _ ≤ 0; omega⟩) (fun u8 μ9 H locs hw hI => ?_)
    refine W.eq (g2 := F0 m 22 ls []) rfl ?_
    refine j_aload_n (r := (some b)) hx hb dX3_passDay_22 rfl (lv_at hl 0 rfl) ?_
    obtain ⟨hfs, hw⟩ := hw
    refine j_goz hI (va_runV (As := []) (rest := []) ⟨hx, hb, hml, hown, hts⟩ (kX3_coverPools l hfl D z b  μ9 H.size _) (cwV 0 hts gX3_passDay_X3_coverPools rfl rfl rfl (by decide +kernel) ⟨Nat.le_of_ble_eq_true rfl, Nat.le_of_ble_eq_true rfl⟩) (j_prV2z hK hG hI hw (ci := 6) rfl hfs) rfl rfl hl.1 rfl (lv_room (Nat.le_of_ble_eq_true rfl)) dX3_passDay_23 ⟨by show _ ≤ 0; omega, by show _ ≤ 0; omega⟩) (fun u10 μ11 H locs hw hI => ?_)
    refine W.eq (g2 := F0 m 26 ls []) rfl ?_
    refine j_aload_n (r := (some b)) hx hb dX3_passDay_26 rfl (lv_at hl 0 rfl) ?_
    obtain ⟨hfs, hw⟩ := hw
    refine j_goz hI (va_runV (As := []) (rest := []) ⟨hx, hb, hml, hown, hts⟩ (kX3_easeBanks l hfl D z b  μ11 H.size _) (cwV 0 hts gX3_passDay_X3_easeBanks rfl rfl rfl (by decide +kernel) ⟨Nat.le_of_ble_eq_true rfl, Nat.le_of_ble_eq_true rfl⟩) (j_prV2z hK hG hI hw (ci := 6) rfl hfs) rfl rfl hl.1 rfl (lv_room (Nat.le_of_ble_eq_true rfl)) dX3_passDay_27 ⟨by show _ ≤ 0; omega, by show _ ≤ 0; omega⟩) (fun u12 μ13 H locs hw hI => ?_)
    refine W.eq (g2 := F0 m 30 ls []) rfl ?_
    exact kX3_passDay_30 hX  hw hI (lv_sub hl [0] rfl) (by omega) (by omega)
set_option maxHeartbeats 4000000 in
set_option maxRecDepth 100000 in
theorem kX3_passDay (l : Launch) (hfl : l.stackTraces = false) (D : jD) (z : Nat × Nat) (b : Nat)  (μ : jM) (sz : Nat) (Q : Unit → jM → Prop) : Met l yX3_passDay wsX3_passDay rmX3_passDay (jPre2z D z μ sz [.ref b] (wX3_passDay z b  μ Q)) (jRz jfV Q D z (jA z μ sz)) 0 0 (jA z μ sz) := by
  refine Met.ofW (cc := cX3_passDay) (maxL := 1) (ret := none) (by decide) rfl ?_
  intro p e s m args below meth c s₁ B hml hv
  obtain ⟨rfl, hsz, hH, hz0, hK, hG, hw⟩ := hv
  subst hsz
  have hX : jX2 D z (jA z μ s.heap.size) p l s m _ meth c yX3_passDay cX3_passDay 1 wsX3_passDay none := ⟨B.exec, B.bytes, hml, findClass_of_methodNamed B.named, atoms_spec (ws := wsX3_passDay) B.pre, B.returns, B.notSynchronized, (name_of_methodNamed B.named B.method).1, hK, hG, hfl⟩
  obtain ⟨ls, hg, hl⟩ : ∃ ls : Array Slot, entryFrame m ([.ref b] : List Value).toArray 1 = F0 m 0 ls [] ∧ lv_has ls 1 [(0, va_rf (some b))] := by
    exact ⟨_, lg_entry_eq .., lv_entry _ (n := 1) (Nat.le_of_ble_eq_true rfl)⟩
  rw [hg]
  exact kX3_passDay_0 hX hw (jIz.start hH hz0) (lv_sub hl [0] rfl) (by decide) (by decide)
set_option maxHeartbeats 4000000 in
set_option maxRecDepth 100000 in
theorem kX0_goBack_0 {b : Nat} (hX : jX2 D z A p l s m args meth c yX0_goBack cX0_goBack 1 wsX0_goBack none) {Q : Unit → jM → Prop}   {μ : jM} {H : Heap} {locs : List Loc} {ls : Array Slot} {cells slots : Nat} (hw : wX0_goBack_0 z b Q  μ) (hI : jIz D z A s.heap μ H locs) (hl : lv_has ls 1 [(0, va_rf (some b))]) (hcn : cells + 0 ≤ 0) (hsn : slots + 0 ≤ 0) : W p l e rmX0_goBack s m args below meth c H locs cells slots (MQ below (jRz jfV Q D z A) args s 0 0 A) (F0 m 0 ls []) := by
  unfold wX0_goBack_0 at hw
  obtain ⟨hx, hb, hml, hown, hts, hr, hlocks, hnm, hK, hG, hfl⟩ := id hX
  have hown : s.vm.findClass RX0 = some m.cls := hown
  have hfX0 : ∀ w ∈ wsX00, w.before args s = true := fun w h => hts w (List.mem_cons_of_mem _ (List.mem_append_right _ h))
  refine j_aload_n (r := (some b)) hx hb dX0_goBack_0 rfl (lv_at hl 0 rfl) ?_
  refine j_aload_n (r := (some b)) hx hb dX0_goBack_1 rfl (lv_at hl 0 rfl) ?_
  obtain ⟨v1, hv1, hw⟩ := hw
  refine j_getz (C := RX0) (T := TX0) (N := 12) (ci := 3) (r := (some b)) (v := .long v1) hx hb hfX0 hown hK hI rfl 10 (by decide) (hts (.fieldLink RX0 54 "CashPools$Account" "keptCash" "J") (List.mem_of_getElem? (i := 1) (by decide +kernel))) (fun _ h => h) hv1 dX0_goBack_2 ?_
  obtain ⟨μ2, hμ2, hw⟩ := hw
  refine j_putz (C := RX0) (T := TX0) (N := 12) (ci := 3) (r := (some b)) (v := .long v1) hx hb hfX0 tyX0 tyX0_ok nmX0 hown hK hI rfl 8 (by decide) (hts (.fieldLink RX0 47 "CashPools$Account" "cash" "J") (List.mem_of_getElem? (i := 2) (by decide +kernel))) (fun _ h => h) rfl (tyX0_ok 8 (by decide)) rfl rfl hμ2 dX0_goBack_5 (fun H locs hI => ?_)
  refine j_aload_n (r := (some b)) hx hb dX0_goBack_8 rfl (lv_at hl 0 rfl) ?_
  refine j_aload_n (r := (some b)) hx hb dX0_goBack_9 rfl (lv_at hl 0 rfl) ?_
  obtain ⟨v3, hv3, hw⟩ := hw
  refine j_getz (C := RX0) (T := TX0) (N := 12) (ci := 3) (r := (some b)) (v := .long v3) hx hb hfX0 hown hK hI rfl 11 (by decide) (hts (.fieldLink RX0 57 "CashPools$Account" "keptInterest" "J") (List.mem_of_getElem? (i := 3) (by decide +kernel))) (fun _ h => h) hv3 dX0_goBack_10 ?_
  obtain ⟨μ4, hμ4, hw⟩ := hw
  refine j_putz (C := RX0) (T := TX0) (N := 12) (ci := 3) (r := (some b)) (v := .long v3) hx hb hfX0 tyX0 tyX0_ok nmX0 hown hK hI rfl 9 (by decide) (hts (.fieldLink RX0 51 "CashPools$Account" "interest" "J") (List.mem_of_getElem? (i := 4) (by decide +kernel))) (fun _ h => h) rfl (tyX0_ok 9 (by decide)) rfl rfl hμ4 dX0_goBack_13 (fun H locs hI => ?_)
  exact j_vretz hx hb hr hlocks hI hw (by omega) (by omega) dX0_goBack_16
set_option maxHeartbeats 4000000 in
set_option maxRecDepth 100000 in
theorem kX0_goBack (l : Launch) (hfl : l.stackTraces = false) (D : jD) (z : Nat × Nat) (b : Nat)  (μ : jM) (sz : Nat) (Q : Unit → jM → Prop) : Met l yX0_goBack wsX0_goBack rmX0_goBack (jPre2z D z μ sz [.ref b] (wX0_goBack z b  μ Q)) (jRz jfV Q D z (jA z μ sz)) 0 0 (jA z μ sz) := by
  refine Met.ofW (cc := cX0_goBack) (maxL := 1) (ret := none) (by decide) rfl ?_
  intro p e s m args below meth c s₁ B hml hv
  obtain ⟨rfl, hsz, hH, hz0, hK, hG, hw⟩ := hv
  subst hsz
  have hX : jX2 D z (jA z μ s.heap.size) p l s m _ meth c yX0_goBack cX0_goBack 1 wsX0_goBack none := ⟨B.exec, B.bytes, hml, findClass_of_methodNamed B.named, atoms_spec (ws := wsX0_goBack) B.pre, B.returns, B.notSynchronized, (name_of_methodNamed B.named B.method).1, hK, hG, hfl⟩
  obtain ⟨ls, hg, hl⟩ : ∃ ls : Array Slot, entryFrame m ([.ref b] : List Value).toArray 1 = F0 m 0 ls [] ∧ lv_has ls 1 [(0, va_rf (some b))] := by
    exact ⟨_, lg_entry_eq .., lv_entry _ (n := 1) (Nat.le_of_ble_eq_true rfl)⟩
  rw [hg]
  exact kX0_goBack_0 hX hw (jIz.start hH hz0) (lv_sub hl [0] rfl) (by decide) (by decide)
set_option maxHeartbeats 4000000 in
set_option maxRecDepth 100000 in
theorem kX7_goBack_0 {b : Nat} (hX : jX2 D z A p l s m args meth c yX7_goBack cX7_goBack 1 wsX7_goBack none) {Q : Unit → jM → Prop}   {μ : jM} {H : Heap} {locs : List Loc} {ls : Array Slot} {cells slots : Nat} (hw : wX7_goBack_0 z b Q  μ) (hI : jIz D z A s.heap μ H locs) (hl : lv_has ls 1 [(0, va_rf (some b))]) (hcn : cells + 0 ≤ 0) (hsn : slots + 0 ≤ 0) : W p l e rmX7_goBack s m args below meth c H locs cells slots (MQ below (jRz jfV Q D z A) args s 0 0 A) (F0 m 0 ls []) := by
  unfold wX7_goBack_0 at hw
  obtain ⟨hx, hb, hml, hown, hts, hr, hlocks, hnm, hK, hG, hfl⟩ := id hX
  have hown : s.vm.findClass RX7 = some m.cls := hown
  have hfX7 : ∀ w ∈ wsX70, w.before args s = true := fun w h => hts w (List.mem_cons_of_mem _ (List.mem_append_right _ h))
  refine j_aload_n (r := (some b)) hx hb dX7_goBack_0 rfl (lv_at hl 0 rfl) ?_
  refine j_aload_n (r := (some b)) hx hb dX7_goBack_1 rfl (lv_at hl 0 rfl) ?_
  obtain ⟨v1, hv1, hw⟩ := hw
  refine j_getz (C := RX7) (T := TX7) (N := 10) (ci := 10) (r := (some b)) (v := .long v1) hx hb hfX7 hown hK hI rfl 7 (by decide) (hts (.fieldLink RX7 73 "CashPools$Side" "keptSum" "J") (List.mem_of_getElem? (i := 1) (by decide +kernel))) (fun _ h => h) hv1 dX7_goBack_2 ?_
  obtain ⟨μ2, hμ2, hw⟩ := hw
  refine j_putz (C := RX7) (T := TX7) (N := 10) (ci := 10) (r := (some b)) (v := .long v1) hx hb hfX7 tyX7 tyX7_ok nmX7 hown hK hI rfl 2 (by decide) (hts (.fieldLink RX7 31 "CashPools$Side" "sum" "J") (List.mem_of_getElem? (i := 2) (by decide +kernel))) (fun _ h => h) rfl (tyX7_ok 2 (by decide)) rfl rfl hμ2 dX7_goBack_5 (fun H locs hI => ?_)
  refine j_aload_n (r := (some b)) hx hb dX7_goBack_8 rfl (lv_at hl 0 rfl) ?_
  refine j_aload_n (r := (some b)) hx hb dX7_goBack_9 rfl (lv_at hl 0 rfl) ?_
  obtain ⟨v3, hv3, hw⟩ := hw
  refine j_getz (C := RX7) (T := TX7) (N := 10) (ci := 10) (r := (some b)) (v := .long v3) hx hb hfX7 hown hK hI rfl 8 (by decide) (hts (.fieldLink RX7 76 "CashPools$Side" "keptBooked" "J") (List.mem_of_getElem? (i := 3) (by decide +kernel))) (fun _ h => h) hv3 dX7_goBack_10 ?_
  obtain ⟨μ4, hμ4, hw⟩ := hw
  refine j_putz (C := RX7) (T := TX7) (N := 10) (ci := 10) (r := (some b)) (v := .long v3) hx hb hfX7 tyX7 tyX7_ok nmX7 hown hK hI rfl 3 (by decide) (hts (.fieldLink RX7 58 "CashPools$Side" "booked" "J") (List.mem_of_getElem? (i := 4) (by decide +kernel))) (fun _ h => h) rfl (tyX7_ok 3 (by decide)) rfl rfl hμ4 dX7_goBack_13 (fun H locs hI => ?_)
  refine j_aload_n (r := (some b)) hx hb dX7_goBack_16 rfl (lv_at hl 0 rfl) ?_
  obtain ⟨v5, hv5, hw⟩ := hw
  refine j_getz (C := RX7) (T := TX7) (N := 10) (ci := 10) (r := (some b)) (v := va_rf v5) hx hb hfX7 hown hK hI rfl 9 (by decide) (hts (.fieldLink RX7 21 "CashPools$Side" "keptWeights" "[J") (List.mem_of_getElem? (i := 5) (by decide +kernel))) (fun _ h => h) hv5 dX7_goBack_17 ?_
  refine lv_iconst (v := (0)) hx hb dX7_goBack_20 (by decide) ?_
  refine j_aload_n (r := (some b)) hx hb dX7_goBack_21 rfl (lv_at hl 0 rfl) ?_
  obtain ⟨v6, hv6, hw⟩ := hw
  refine j_getz (C := RX7) (T := TX7) (N := 10) (ci := 10) (r := (some b)) (v := va_rf v6) hx hb hfX7 hown hK hI rfl 4 (by decide) (hts (.fieldLink RX7 9 "CashPools$Side" "weights" "[J") (List.mem_of_getElem? (i := 6) (by decide +kernel))) (fun _ h => h) hv6 dX7_goBack_22 ?_
  refine lv_iconst (v := (0)) hx hb dX7_goBack_25 (by decide) ?_
  refine lv_bipush (v := (10)) hx hb dX7_goBack_26 (by decide) ?_
  obtain ⟨μ7, hμ7, hw⟩ := hw
  refine j_copyjz (r0 := v5) (r1 := v6) hx hb (by rw [hml]; exact hl.1.symm) hown (hts (.methodLink RX7 79 arraycopyName) (List.mem_of_getElem? (i := 7) (by decide +kernel))) (hts (.native arraycopyName) (List.mem_of_getElem? (i := 8) (by decide +kernel))) (hts (.static arraycopyName) (List.mem_of_getElem? (i := 9) (by decide +kernel))) (hts (.initialized "java/lang/System") (List.mem_of_getElem? (i := 10) (by decide +kernel))) hK hI hμ7 (Nat.le_of_ble_eq_true rfl) (by simp only [List.map, List.sum_cons, List.sum_nil, jrc, jci, jcl, jcr, jcn]; exact Nat.le_of_ble_eq_true rfl) dX7_goBack_28 (fun H locs hI => ?_)
  exact j_vretz hx hb hr hlocks hI hw (by omega) (by omega) dX7_goBack_31
set_option maxHeartbeats 4000000 in
set_option maxRecDepth 100000 in
theorem kX7_goBack (l : Launch) (hfl : l.stackTraces = false) (D : jD) (z : Nat × Nat) (b : Nat)  (μ : jM) (sz : Nat) (Q : Unit → jM → Prop) : Met l yX7_goBack wsX7_goBack rmX7_goBack (jPre2z D z μ sz [.ref b] (wX7_goBack z b  μ Q)) (jRz jfV Q D z (jA z μ sz)) 0 0 (jA z μ sz) := by
  refine Met.ofW (cc := cX7_goBack) (maxL := 1) (ret := none) (by decide) rfl ?_
  intro p e s m args below meth c s₁ B hml hv
  obtain ⟨rfl, hsz, hH, hz0, hK, hG, hw⟩ := hv
  subst hsz
  have hX : jX2 D z (jA z μ s.heap.size) p l s m _ meth c yX7_goBack cX7_goBack 1 wsX7_goBack none := ⟨B.exec, B.bytes, hml, findClass_of_methodNamed B.named, atoms_spec (ws := wsX7_goBack) B.pre, B.returns, B.notSynchronized, (name_of_methodNamed B.named B.method).1, hK, hG, hfl⟩
  obtain ⟨ls, hg, hl⟩ : ∃ ls : Array Slot, entryFrame m ([.ref b] : List Value).toArray 1 = F0 m 0 ls [] ∧ lv_has ls 1 [(0, va_rf (some b))] := by
    exact ⟨_, lg_entry_eq .., lv_entry _ (n := 1) (Nat.le_of_ble_eq_true rfl)⟩
  rw [hg]
  exact kX7_goBack_0 hX hw (jIz.start hH hz0) (lv_sub hl [0] rfl) (by decide) (by decide)
set_option maxHeartbeats 4000000 in
set_option maxRecDepth 100000 in
theorem kX6_goBack_0 {b : Nat} (hX : jX2 D z A p l s m args meth c yX6_goBack cX6_goBack 1 wsX6_goBack none) {Q : Unit → jM → Prop}   {μ : jM} {H : Heap} {locs : List Loc} {ls : Array Slot} {cells slots : Nat} (hw : wX6_goBack_0 z b Q  μ) (hI : jIz D z A s.heap μ H locs) (hl : lv_has ls 1 [(0, va_rf (some b))]) (hcn : cells + 0 ≤ 0) (hsn : slots + 0 ≤ 0) : W p l e rmX6_goBack s m args below meth c H locs cells slots (MQ below (jRz jfV Q D z A) args s 0 0 A) (F0 m 0 ls []) := by
  unfold wX6_goBack_0 at hw
  obtain ⟨hx, hb, hml, hown, hts, hr, hlocks, hnm, hK, hG, hfl⟩ := id hX
  have hown : s.vm.findClass RX6 = some m.cls := hown
  have hfX6 : ∀ w ∈ wsX60, w.before args s = true := fun w h => hts w (List.mem_cons_of_mem _ (List.mem_append_left _ (List.mem_append_right _ h)))
  refine j_aload_n (r := (some b)) hx hb dX6_goBack_0 rfl (lv_at hl 0 rfl) ?_
  obtain ⟨v1, hv1, hw⟩ := hw
  refine j_getz (C := RX6) (T := TX6) (N := 5) (ci := 9) (r := (some b)) (v := va_rf v1) hx hb hfX6 hown hK hI rfl 1 (by decide) (hts (.fieldLink RX6 28 "CashPools$Pool" "credit" "LCashPools$Side;") (List.mem_of_getElem? (i := 1) (by decide +kernel))) (fun _ h => h) hv1 dX6_goBack_1 ?_
  obtain ⟨b4, ⟨hrb4, hfs⟩, hw⟩ := hw
  refine j_goz hI (va_runV (As := []) (rest := []) ⟨hx, hb, hml, hown, hts⟩ (kX7_goBack l hfl D z b4  μ H.size _) (cwV 0 hts gX6_goBack_X7_goBack rfl rfl rfl (by decide +kernel) ⟨Nat.le_of_ble_eq_true rfl, Nat.le_of_ble_eq_true rfl⟩) (j_prV2z hK hG hI hw (ci := 10) rfl hfs) rfl rfl hl.1 (by rw [hrb4]; rfl) (lv_room (Nat.le_of_ble_eq_true rfl)) dX6_goBack_4 ⟨by show _ ≤ 0; omega, by show _ ≤ 0; omega⟩) (fun u2 μ3 H locs hw hI => ?_)
  refine W.eq (g2 := F0 m 7 ls []) rfl ?_
  refine j_aload_n (r := (some b)) hx hb dX6_goBack_7 rfl (lv_at hl 0 rfl) ?_
  obtain ⟨v5, hv5, hw⟩ := hw
  refine j_getz (C := RX6) (T := TX6) (N := 5) (ci := 9) (r := (some b)) (v := va_rf v5) hx hb hfX6 hown hK hI rfl 2 (by decide) (hts (.fieldLink RX6 32 "CashPools$Pool" "debit" "LCashPools$Side;") (List.mem_of_getElem? (i := 2) (by decide +kernel))) (fun _ h => h) hv5 dX6_goBack_8 ?_
  obtain ⟨b8, ⟨hrb8, hfs⟩, hw⟩ := hw
  refine j_goz hI (va_runV (As := []) (rest := []) ⟨hx, hb, hml, hown, hts⟩ (kX7_goBack l hfl D z b8  μ3 H.size _) (cwV 0 hts gX6_goBack_X7_goBack rfl rfl rfl (by decide +kernel) ⟨Nat.le_of_ble_eq_true rfl, Nat.le_of_ble_eq_true rfl⟩) (j_prV2z hK hG hI hw (ci := 10) rfl hfs) rfl rfl hl.1 (by rw [hrb8]; rfl) (lv_room (Nat.le_of_ble_eq_true rfl)) dX6_goBack_11 ⟨by show _ ≤ 0; omega, by show _ ≤ 0; omega⟩) (fun u6 μ7 H locs hw hI => ?_)
  refine W.eq (g2 := F0 m 14 ls []) rfl ?_
  exact j_vretz hx hb hr hlocks hI hw (by omega) (by omega) dX6_goBack_14
set_option maxHeartbeats 4000000 in
set_option maxRecDepth 100000 in
theorem kX6_goBack (l : Launch) (hfl : l.stackTraces = false) (D : jD) (z : Nat × Nat) (b : Nat)  (μ : jM) (sz : Nat) (Q : Unit → jM → Prop) : Met l yX6_goBack wsX6_goBack rmX6_goBack (jPre2z D z μ sz [.ref b] (wX6_goBack z b  μ Q)) (jRz jfV Q D z (jA z μ sz)) 0 0 (jA z μ sz) := by
  refine Met.ofW (cc := cX6_goBack) (maxL := 1) (ret := none) (by decide) rfl ?_
  intro p e s m args below meth c s₁ B hml hv
  obtain ⟨rfl, hsz, hH, hz0, hK, hG, hw⟩ := hv
  subst hsz
  have hX : jX2 D z (jA z μ s.heap.size) p l s m _ meth c yX6_goBack cX6_goBack 1 wsX6_goBack none := ⟨B.exec, B.bytes, hml, findClass_of_methodNamed B.named, atoms_spec (ws := wsX6_goBack) B.pre, B.returns, B.notSynchronized, (name_of_methodNamed B.named B.method).1, hK, hG, hfl⟩
  obtain ⟨ls, hg, hl⟩ : ∃ ls : Array Slot, entryFrame m ([.ref b] : List Value).toArray 1 = F0 m 0 ls [] ∧ lv_has ls 1 [(0, va_rf (some b))] := by
    exact ⟨_, lg_entry_eq .., lv_entry _ (n := 1) (Nat.le_of_ble_eq_true rfl)⟩
  rw [hg]
  exact kX6_goBack_0 hX hw (jIz.start hH hz0) (lv_sub hl [0] rfl) (by decide) (by decide)
set_option maxHeartbeats 4000000 in
set_option maxRecDepth 100000 in
theorem kX5_goBack_0 {b : Nat} (hX : jX2 D z A p l s m args meth c yX5_goBack cX5_goBack 1 wsX5_goBack none) {Q : Unit → jM → Prop}   {μ : jM} {H : Heap} {locs : List Loc} {ls : Array Slot} {cells slots : Nat} (hw : wX5_goBack_0 z b Q  μ) (hI : jIz D z A s.heap μ H locs) (hl : lv_has ls 1 [(0, va_rf (some b))]) (hcn : cells + 0 ≤ 0) (hsn : slots + 0 ≤ 0) : W p l e rmX5_goBack s m args below meth c H locs cells slots (MQ below (jRz jfV Q D z A) args s 0 0 A) (F0 m 0 ls []) := by
  unfold wX5_goBack_0 at hw
  obtain ⟨hx, hb, hml, hown, hts, hr, hlocks, hnm, hK, hG, hfl⟩ := id hX
  have hown : s.vm.findClass RX5 = some m.cls := hown
  have hfX5 : ∀ w ∈ wsX50, w.before args s = true := fun w h => hts w (List.mem_cons_of_mem _ (List.mem_append_right _ h))
  refine j_aload_n (r := (some b)) hx hb dX5_goBack_0 rfl (lv_at hl 0 rfl) ?_
  refine j_aload_n (r := (some b)) hx hb dX5_goBack_1 rfl (lv_at hl 0 rfl) ?_
  obtain ⟨v1, hv1, hw⟩ := hw
  refine j_getz (C := RX5) (T := TX5) (N := 9) (ci := 8) (r := (some b)) (v := .long v1) hx hb hfX5 hown hK hI rfl 6 (by decide) (hts (.fieldLink RX5 39 "CashPools$Line" "keptUsed" "J") (List.mem_of_getElem? (i := 1) (by decide +kernel))) (fun _ h => h) hv1 dX5_goBack_2 ?_
  obtain ⟨μ2, hμ2, hw⟩ := hw
  refine j_putz (C := RX5) (T := TX5) (N := 9) (ci := 8) (r := (some b)) (v := .long v1) hx hb hfX5 tyX5 tyX5_ok nmX5 hown hK hI rfl 3 (by decide) (hts (.fieldLink RX5 26 "CashPools$Line" "used" "J") (List.mem_of_getElem? (i := 2) (by decide +kernel))) (fun _ h => h) rfl (tyX5_ok 3 (by decide)) rfl rfl hμ2 dX5_goBack_5 (fun H locs hI => ?_)
  refine j_aload_n (r := (some b)) hx hb dX5_goBack_8 rfl (lv_at hl 0 rfl) ?_
  refine j_aload_n (r := (some b)) hx hb dX5_goBack_9 rfl (lv_at hl 0 rfl) ?_
  obtain ⟨v3, hv3, hw⟩ := hw
  refine j_getz (C := RX5) (T := TX5) (N := 9) (ci := 8) (r := (some b)) (v := .long v3) hx hb hfX5 hown hK hI rfl 7 (by decide) (hts (.fieldLink RX5 42 "CashPools$Line" "keptCost" "J") (List.mem_of_getElem? (i := 3) (by decide +kernel))) (fun _ h => h) hv3 dX5_goBack_10 ?_
  obtain ⟨μ4, hμ4, hw⟩ := hw
  refine j_putz (C := RX5) (T := TX5) (N := 9) (ci := 8) (r := (some b)) (v := .long v3) hx hb hfX5 tyX5 tyX5_ok nmX5 hown hK hI rfl 4 (by decide) (hts (.fieldLink RX5 31 "CashPools$Line" "cost" "J") (List.mem_of_getElem? (i := 4) (by decide +kernel))) (fun _ h => h) rfl (tyX5_ok 4 (by decide)) rfl rfl hμ4 dX5_goBack_13 (fun H locs hI => ?_)
  refine j_aload_n (r := (some b)) hx hb dX5_goBack_16 rfl (lv_at hl 0 rfl) ?_
  refine j_aload_n (r := (some b)) hx hb dX5_goBack_17 rfl (lv_at hl 0 rfl) ?_
  obtain ⟨v5, hv5, hw⟩ := hw
  refine j_getz (C := RX5) (T := TX5) (N := 9) (ci := 8) (r := (some b)) (v := .long v5) hx hb hfX5 hown hK hI rfl 8 (by decide) (hts (.fieldLink RX5 45 "CashPools$Line" "keptSum" "J") (List.mem_of_getElem? (i := 5) (by decide +kernel))) (fun _ h => h) hv5 dX5_goBack_18 ?_
  obtain ⟨μ6, hμ6, hw⟩ := hw
  refine j_putz (C := RX5) (T := TX5) (N := 9) (ci := 8) (r := (some b)) (v := .long v5) hx hb hfX5 tyX5 tyX5_ok nmX5 hown hK hI rfl 5 (by decide) (hts (.fieldLink RX5 22 "CashPools$Line" "sum" "J") (List.mem_of_getElem? (i := 6) (by decide +kernel))) (fun _ h => h) rfl (tyX5_ok 5 (by decide)) rfl rfl hμ6 dX5_goBack_21 (fun H locs hI => ?_)
  exact j_vretz hx hb hr hlocks hI hw (by omega) (by omega) dX5_goBack_24
set_option maxHeartbeats 4000000 in
set_option maxRecDepth 100000 in
theorem kX5_goBack (l : Launch) (hfl : l.stackTraces = false) (D : jD) (z : Nat × Nat) (b : Nat)  (μ : jM) (sz : Nat) (Q : Unit → jM → Prop) : Met l yX5_goBack wsX5_goBack rmX5_goBack (jPre2z D z μ sz [.ref b] (wX5_goBack z b  μ Q)) (jRz jfV Q D z (jA z μ sz)) 0 0 (jA z μ sz) := by
  refine Met.ofW (cc := cX5_goBack) (maxL := 1) (ret := none) (by decide) rfl ?_
  intro p e s m args below meth c s₁ B hml hv
  obtain ⟨rfl, hsz, hH, hz0, hK, hG, hw⟩ := hv
  subst hsz
  have hX : jX2 D z (jA z μ s.heap.size) p l s m _ meth c yX5_goBack cX5_goBack 1 wsX5_goBack none := ⟨B.exec, B.bytes, hml, findClass_of_methodNamed B.named, atoms_spec (ws := wsX5_goBack) B.pre, B.returns, B.notSynchronized, (name_of_methodNamed B.named B.method).1, hK, hG, hfl⟩
  obtain ⟨ls, hg, hl⟩ : ∃ ls : Array Slot, entryFrame m ([.ref b] : List Value).toArray 1 = F0 m 0 ls [] ∧ lv_has ls 1 [(0, va_rf (some b))] := by
    exact ⟨_, lg_entry_eq .., lv_entry _ (n := 1) (Nat.le_of_ble_eq_true rfl)⟩
  rw [hg]
  exact kX5_goBack_0 hX hw (jIz.start hH hz0) (lv_sub hl [0] rfl) (by decide) (by decide)
set_option maxHeartbeats 4000000 in
set_option maxRecDepth 100000 in
theorem kX4_goBack_0 {b : Nat} (hX : jX2 D z A p l s m args meth c yX4_goBack cX4_goBack 1 wsX4_goBack none) {Q : Unit → jM → Prop}   {μ : jM} {H : Heap} {locs : List Loc} {ls : Array Slot} {cells slots : Nat} (hw : wX4_goBack_0 z b Q  μ) (hI : jIz D z A s.heap μ H locs) (hl : lv_has ls 1 [(0, va_rf (some b))]) (hcn : cells + 0 ≤ 0) (hsn : slots + 0 ≤ 0) : W p l e rmX4_goBack s m args below meth c H locs cells slots (MQ below (jRz jfV Q D z A) args s 0 0 A) (F0 m 0 ls []) := by
  unfold wX4_goBack_0 at hw
  obtain ⟨hx, hb, hml, hown, hts, hr, hlocks, hnm, hK, hG, hfl⟩ := id hX
  have hown : s.vm.findClass RX4 = some m.cls := hown
  have hfX4 : ∀ w ∈ wsX40, w.before args s = true := fun w h => hts w (List.mem_cons_of_mem _ (List.mem_append_right _ h))
  refine j_aload_n (r := (some b)) hx hb dX4_goBack_0 rfl (lv_at hl 0 rfl) ?_
  refine j_aload_n (r := (some b)) hx hb dX4_goBack_1 rfl (lv_at hl 0 rfl) ?_
  obtain ⟨v1, hv1, hw⟩ := hw
  refine j_getz (C := RX4) (T := TX4) (N := 7) (ci := 7) (r := (some b)) (v := .int v1) hx hb hfX4 hown hK hI rfl 5 (by decide) (hts (.fieldLink RX4 38 "CashPools$Flow" "keptDue" "I") (List.mem_of_getElem? (i := 1) (by decide +kernel))) (fun _ h => h) hv1 dX4_goBack_2 ?_
  obtain ⟨μ2, hμ2, hw⟩ := hw
  refine j_putz (C := RX4) (T := TX4) (N := 7) (ci := 7) (r := (some b)) (v := .int v1) hx hb hfX4 tyX4 tyX4_ok nmX4 hown hK hI rfl 3 (by decide) (hts (.fieldLink RX4 20 "CashPools$Flow" "due" "I") (List.mem_of_getElem? (i := 2) (by decide +kernel))) (fun _ h => h) rfl (tyX4_ok 3 (by decide)) rfl rfl hμ2 dX4_goBack_5 (fun H locs hI => ?_)
  refine j_aload_n (r := (some b)) hx hb dX4_goBack_8 rfl (lv_at hl 0 rfl) ?_
  refine j_aload_n (r := (some b)) hx hb dX4_goBack_9 rfl (lv_at hl 0 rfl) ?_
  obtain ⟨v3, hv3, hw⟩ := hw
  refine j_getz (C := RX4) (T := TX4) (N := 7) (ci := 7) (r := (some b)) (v := .int v3) hx hb hfX4 hown hK hI rfl 6 (by decide) (hts (.fieldLink RX4 41 "CashPools$Flow" "keptLeft" "I") (List.mem_of_getElem? (i := 3) (by decide +kernel))) (fun _ h => h) hv3 dX4_goBack_10 ?_
  obtain ⟨μ4, hμ4, hw⟩ := hw
  refine j_putz (C := RX4) (T := TX4) (N := 7) (ci := 7) (r := (some b)) (v := .int v3) hx hb hfX4 tyX4 tyX4_ok nmX4 hown hK hI rfl 4 (by decide) (hts (.fieldLink RX4 23 "CashPools$Flow" "left" "I") (List.mem_of_getElem? (i := 4) (by decide +kernel))) (fun _ h => h) rfl (tyX4_ok 4 (by decide)) rfl rfl hμ4 dX4_goBack_13 (fun H locs hI => ?_)
  exact j_vretz hx hb hr hlocks hI hw (by omega) (by omega) dX4_goBack_16
set_option maxHeartbeats 4000000 in
set_option maxRecDepth 100000 in
theorem kX4_goBack (l : Launch) (hfl : l.stackTraces = false) (D : jD) (z : Nat × Nat) (b : Nat)  (μ : jM) (sz : Nat) (Q : Unit → jM → Prop) : Met l yX4_goBack wsX4_goBack rmX4_goBack (jPre2z D z μ sz [.ref b] (wX4_goBack z b  μ Q)) (jRz jfV Q D z (jA z μ sz)) 0 0 (jA z μ sz) := by
  refine Met.ofW (cc := cX4_goBack) (maxL := 1) (ret := none) (by decide) rfl ?_
  intro p e s m args below meth c s₁ B hml hv
  obtain ⟨rfl, hsz, hH, hz0, hK, hG, hw⟩ := hv
  subst hsz
  have hX : jX2 D z (jA z μ s.heap.size) p l s m _ meth c yX4_goBack cX4_goBack 1 wsX4_goBack none := ⟨B.exec, B.bytes, hml, findClass_of_methodNamed B.named, atoms_spec (ws := wsX4_goBack) B.pre, B.returns, B.notSynchronized, (name_of_methodNamed B.named B.method).1, hK, hG, hfl⟩
  obtain ⟨ls, hg, hl⟩ : ∃ ls : Array Slot, entryFrame m ([.ref b] : List Value).toArray 1 = F0 m 0 ls [] ∧ lv_has ls 1 [(0, va_rf (some b))] := by
    exact ⟨_, lg_entry_eq .., lv_entry _ (n := 1) (Nat.le_of_ble_eq_true rfl)⟩
  rw [hg]
  exact kX4_goBack_0 hX hw (jIz.start hH hz0) (lv_sub hl [0] rfl) (by decide) (by decide)
set_option maxHeartbeats 4000000 in
set_option maxRecDepth 100000 in
theorem kX3_goBack_112 {b : Nat} (hX : jX2 D z A p l s m args meth c yX3_goBack cX3_goBack 2 wsX3_goBack none) {Q : Unit → jM → Prop}  (n : Nat) : ∀ {x1 : Int32} {μ : jM} {H : Heap} {locs : List Loc} {ls : Array Slot} {cells slots : Nat}, wX3_goBack_112 z b Q n x1 μ → jIz D z A s.heap μ H locs → lv_has ls 2 [(0, va_rf (some b)), (1, .int x1)] → cells + 0 ≤ 0 → slots + 0 ≤ 0 → W p l e rmX3_goBack s m args below meth c H locs cells slots (MQ below (jRz jfV Q D z A) args s 0 0 A) (F0 m 112 ls []) := by
  induction n with
  | zero =>
    intros
    rename_i hw _ _ _ _
    exact (show False from hw).elim
  | succ n ih =>
    intro x1 μ H locs ls cells slots hw hI hl hcn hsn
    have hw : wX3_goBack_112_b z b Q (wX3_goBack_112 z b Q n) x1 μ := hw
    unfold wX3_goBack_112_b at hw
    obtain ⟨hx, hb, hml, hown, hts, hr, hlocks, hnm, hK, hG, hfl⟩ := id hX
    have hown : s.vm.findClass RX3 = some m.cls := hown
    have hfX3 : ∀ w ∈ wsX30, w.before args s = true := fun w h => hts w (List.mem_cons_of_mem _ (List.mem_append_left _ (List.mem_append_left _ (List.mem_append_left _ (List.mem_append_left _ (List.mem_append_left _ (List.mem_append_left _ (List.mem_append_right _ h))))))))
    refine lv_iload_n hx hb dX3_goBack_112 rfl (lv_at hl 1 rfl) ?_
    refine j_aload_n (r := (some b)) hx hb dX3_goBack_113 rfl (lv_at hl 0 rfl) ?_
    obtain ⟨v1, hv1, hw⟩ := hw
    refine j_getz (C := RX3) (T := TX3) (N := 8) (ci := 6) (r := (some b)) (v := va_rf v1) hx hb hfX3 hown hK hI rfl 3 (by decide) (hts (.fieldLink RX3 24 "CashPools$Desk" "everyFlow" "Ljava/util/ArrayList;") (List.mem_of_getElem? (i := 9) (by decide +kernel))) (fun _ h => h) hv1 dX3_goBack_114 ?_
    obtain ⟨b4, ⟨hrb4, hfs⟩, hw⟩ := hw
    refine j_goz hI (va_runV (As := []) (rest := [.int x1]) ⟨hx, hb, hml, hown, hts⟩ (kJx4a65c_size_8abf5 l hfl D z b4  μ H.size _) (cwV 0 hts gX3_goBack_Jx4a65c_size_8abf5 rfl rfl rfl (by decide +kernel) ⟨Nat.le_of_ble_eq_true rfl, Nat.le_of_ble_eq_true rfl⟩) (j_prV2z hK hG hI hw (ci := 2) rfl hfs) rfl rfl hl.1 (by rw [hrb4]; rfl) (lv_room (Nat.le_of_ble_eq_true rfl)) dX3_goBack_117 ⟨by show _ ≤ 0; omega, by show _ ≤ 0; omega⟩) (fun v2 μ3 H locs hw hI => ?_)
    refine W.eq (g2 := F0 m 120 ls [.int v2, .int x1]) rfl ?_
    refine lv_icmp_ge (tgt := 143) hx hb dX3_goBack_120 (by decide) (fun hc => ?_) (fun hc => ?_)
    · have hw := hw.1 hc
      exact j_vretz hx hb hr hlocks hI hw (by omega) (by omega) dX3_goBack_143
    · have hw := hw.2 hc
      refine j_aload_n (r := (some b)) hx hb dX3_goBack_123 rfl (lv_at hl 0 rfl) ?_
      obtain ⟨v5, hv5, hw⟩ := hw
      refine j_getz (C := RX3) (T := TX3) (N := 8) (ci := 6) (r := (some b)) (v := va_rf v5) hx hb hfX3 hown hK hI rfl 3 (by decide) (hts (.fieldLink RX3 24 "CashPools$Desk" "everyFlow" "Ljava/util/ArrayList;") (List.mem_of_getElem? (i := 9) (by decide +kernel))) (fun _ h => h) hv5 dX3_goBack_124 ?_
      refine lv_iload_n hx hb dX3_goBack_127 rfl (lv_at hl 1 rfl) ?_
      obtain ⟨b8, ⟨hrb8, hfs⟩, hw⟩ := hw
      refine j_goz hI (va_runV (As := [.int x1]) (rest := []) ⟨hx, hb, hml, hown, hts⟩ (kJx4a65c_get_915e3 l hfl D z b8 x1 μ3 H.size _) (cwV 1 hts gX3_goBack_Jx4a65c_get_915e3 rfl rfl rfl (by decide +kernel) ⟨Nat.le_of_ble_eq_true rfl, Nat.le_of_ble_eq_true rfl⟩) (j_prV2z hK hG hI hw (ci := 2) rfl hfs) rfl rfl hl.1 (by rw [hrb8]; rfl) (lv_room (Nat.le_of_ble_eq_true rfl)) dX3_goBack_128 ⟨by show _ ≤ 0; omega, by show _ ≤ 0; omega⟩) (fun v6 μ7 H locs hw hI => ?_)
      refine W.eq (g2 := F0 m 131 ls [va_rf v6]) rfl ?_
      obtain ⟨h9, hw⟩ := hw
      refine j_castz (C := RX4) (T := TX4) (N := 7) (ci := 7) (r := v6) hx hb hown (hts (.classLink RX3 113 "CashPools$Flow") (List.mem_of_getElem? (i := 10) (by decide +kernel))) hK hI rfl h9 dX3_goBack_131 ?_
      obtain ⟨b12, ⟨hrb12, hfs⟩, hw⟩ := hw
      refine j_goz hI (va_runV (As := []) (rest := []) ⟨hx, hb, hml, hown, hts⟩ (kX4_goBack l hfl D z b12  μ7 H.size _) (cwV 0 hts gX3_goBack_X4_goBack rfl rfl rfl (by decide +kernel) ⟨Nat.le_of_ble_eq_true rfl, Nat.le_of_ble_eq_true rfl⟩) (j_prV2z hK hG hI hw (ci := 7) rfl hfs) rfl rfl hl.1 (by rw [hrb12]; rfl) (lv_room (Nat.le_of_ble_eq_true rfl)) dX3_goBack_134 ⟨by show _ ≤ 0; omega, by show _ ≤ 0; omega⟩) (fun u10 μ11 H locs hw hI => ?_)
      refine W.eq (g2 := F0 m 137 ls []) rfl ?_
      obtain ⟨v13, ev13⟩ : ∃ y : Int32, y = x1 + (1 : Int32) := ⟨_, rfl⟩
      have hw := hw v13 ev13
      refine lv_iinc (v := v13) (lv' := [(1, .int v13), (0, va_rf (some b))]) hx hb dX3_goBack_137 hl (k := 1) rfl (by rw [ev13]; rfl) (by decide) rfl (fun ls hl => ?_)
      refine lv_goto (tgt := 112) hx hb dX3_goBack_140 (by decide) ?_
      exact ih hw hI (lv_sub hl [1, 0] rfl) (by omega) (by omega)
set_option maxHeartbeats 4000000 in
set_option maxRecDepth 100000 in
theorem kX3_goBack_79 {b : Nat} (hX : jX2 D z A p l s m args meth c yX3_goBack cX3_goBack 2 wsX3_goBack none) {Q : Unit → jM → Prop}  (n : Nat) : ∀ {x1 : Int32} {μ : jM} {H : Heap} {locs : List Loc} {ls : Array Slot} {cells slots : Nat}, wX3_goBack_79 z b Q n x1 μ → jIz D z A s.heap μ H locs → lv_has ls 2 [(0, va_rf (some b)), (1, .int x1)] → cells + 0 ≤ 0 → slots + 0 ≤ 0 → W p l e rmX3_goBack s m args below meth c H locs cells slots (MQ below (jRz jfV Q D z A) args s 0 0 A) (F0 m 79 ls []) := by
  induction n with
  | zero =>
    intros
    rename_i hw _ _ _ _
    exact (show False from hw).elim
  | succ n ih =>
    intro x1 μ H locs ls cells slots hw hI hl hcn hsn
    have hw : wX3_goBack_79_b z b Q (wX3_goBack_79 z b Q n) x1 μ := hw
    unfold wX3_goBack_79_b at hw
    obtain ⟨hx, hb, hml, hown, hts, hr, hlocks, hnm, hK, hG, hfl⟩ := id hX
    have hown : s.vm.findClass RX3 = some m.cls := hown
    have hfX3 : ∀ w ∈ wsX30, w.before args s = true := fun w h => hts w (List.mem_cons_of_mem _ (List.mem_append_left _ (List.mem_append_left _ (List.mem_append_left _ (List.mem_append_left _ (List.mem_append_left _ (List.mem_append_left _ (List.mem_append_right _ h))))))))
    refine lv_iload_n hx hb dX3_goBack_79 rfl (lv_at hl 1 rfl) ?_
    refine j_aload_n (r := (some b)) hx hb dX3_goBack_80 rfl (lv_at hl 0 rfl) ?_
    obtain ⟨v1, hv1, hw⟩ := hw
    refine j_getz (C := RX3) (T := TX3) (N := 8) (ci := 6) (r := (some b)) (v := va_rf v1) hx hb hfX3 hown hK hI rfl 2 (by decide) (hts (.fieldLink RX3 21 "CashPools$Desk" "everyLine" "Ljava/util/ArrayList;") (List.mem_of_getElem? (i := 7) (by decide +kernel))) (fun _ h => h) hv1 dX3_goBack_81 ?_
    obtain ⟨b4, ⟨hrb4, hfs⟩, hw⟩ := hw
    refine j_goz hI (va_runV (As := []) (rest := [.int x1]) ⟨hx, hb, hml, hown, hts⟩ (kJx4a65c_size_8abf5 l hfl D z b4  μ H.size _) (cwV 0 hts gX3_goBack_Jx4a65c_size_8abf5 rfl rfl rfl (by decide +kernel) ⟨Nat.le_of_ble_eq_true rfl, Nat.le_of_ble_eq_true rfl⟩) (j_prV2z hK hG hI hw (ci := 2) rfl hfs) rfl rfl hl.1 (by rw [hrb4]; rfl) (lv_room (Nat.le_of_ble_eq_true rfl)) dX3_goBack_84 ⟨by show _ ≤ 0; omega, by show _ ≤ 0; omega⟩) (fun v2 μ3 H locs hw hI => ?_)
    refine W.eq (g2 := F0 m 87 ls [.int v2, .int x1]) rfl ?_
    refine lv_icmp_ge (tgt := 110) hx hb dX3_goBack_87 (by decide) (fun hc => ?_) (fun hc => ?_)
    · have hw := hw.1 hc
      refine lv_iconst (v := (0)) hx hb dX3_goBack_110 (by decide) ?_
      refine lv_topi (fun v5 ev5 => ?_)
      have hw := hw v5 ev5
      refine lv_istore_n (lv' := [(1, .int v5), (0, va_rf (some b))]) hx hb dX3_goBack_111 rfl hl (by decide) rfl (fun ls hl => ?_)
      obtain ⟨n6, hw⟩ := hw
      exact kX3_goBack_112 hX  n6 hw hI (lv_sub hl [1, 0] rfl) (by omega) (by omega)
    · have hw := hw.2 hc
      refine j_aload_n (r := (some b)) hx hb dX3_goBack_90 rfl (lv_at hl 0 rfl) ?_
      obtain ⟨v7, hv7, hw⟩ := hw
      refine j_getz (C := RX3) (T := TX3) (N := 8) (ci := 6) (r := (some b)) (v := va_rf v7) hx hb hfX3 hown hK hI rfl 2 (by decide) (hts (.fieldLink RX3 21 "CashPools$Desk" "everyLine" "Ljava/util/ArrayList;") (List.mem_of_getElem? (i := 7) (by decide +kernel))) (fun _ h => h) hv7 dX3_goBack_91 ?_
      refine lv_iload_n hx hb dX3_goBack_94 rfl (lv_at hl 1 rfl) ?_
      obtain ⟨b10, ⟨hrb10, hfs⟩, hw⟩ := hw
      refine j_goz hI (va_runV (As := [.int x1]) (rest := []) ⟨hx, hb, hml, hown, hts⟩ (kJx4a65c_get_915e3 l hfl D z b10 x1 μ3 H.size _) (cwV 1 hts gX3_goBack_Jx4a65c_get_915e3 rfl rfl rfl (by decide +kernel) ⟨Nat.le_of_ble_eq_true rfl, Nat.le_of_ble_eq_true rfl⟩) (j_prV2z hK hG hI hw (ci := 2) rfl hfs) rfl rfl hl.1 (by rw [hrb10]; rfl) (lv_room (Nat.le_of_ble_eq_true rfl)) dX3_goBack_95 ⟨by show _ ≤ 0; omega, by show _ ≤ 0; omega⟩) (fun v8 μ9 H locs hw hI => ?_)
      refine W.eq (g2 := F0 m 98 ls [va_rf v8]) rfl ?_
      obtain ⟨h11, hw⟩ := hw
      refine j_castz (C := RX5) (T := TX5) (N := 9) (ci := 8) (r := v8) hx hb hown (hts (.classLink RX3 74 "CashPools$Line") (List.mem_of_getElem? (i := 8) (by decide +kernel))) hK hI rfl h11 dX3_goBack_98 ?_
      obtain ⟨b14, ⟨hrb14, hfs⟩, hw⟩ := hw
      refine j_goz hI (va_runV (As := []) (rest := []) ⟨hx, hb, hml, hown, hts⟩ (kX5_goBack l hfl D z b14  μ9 H.size _) (cwV 0 hts gX3_goBack_X5_goBack rfl rfl rfl (by decide +kernel) ⟨Nat.le_of_ble_eq_true rfl, Nat.le_of_ble_eq_true rfl⟩) (j_prV2z hK hG hI hw (ci := 8) rfl hfs) rfl rfl hl.1 (by rw [hrb14]; rfl) (lv_room (Nat.le_of_ble_eq_true rfl)) dX3_goBack_101 ⟨by show _ ≤ 0; omega, by show _ ≤ 0; omega⟩) (fun u12 μ13 H locs hw hI => ?_)
      refine W.eq (g2 := F0 m 104 ls []) rfl ?_
      obtain ⟨v15, ev15⟩ : ∃ y : Int32, y = x1 + (1 : Int32) := ⟨_, rfl⟩
      have hw := hw v15 ev15
      refine lv_iinc (v := v15) (lv' := [(1, .int v15), (0, va_rf (some b))]) hx hb dX3_goBack_104 hl (k := 1) rfl (by rw [ev15]; rfl) (by decide) rfl (fun ls hl => ?_)
      refine lv_goto (tgt := 79) hx hb dX3_goBack_107 (by decide) ?_
      exact ih hw hI (lv_sub hl [1, 0] rfl) (by omega) (by omega)
set_option maxHeartbeats 4000000 in
set_option maxRecDepth 100000 in
theorem kX3_goBack_43 {b : Nat} (hX : jX2 D z A p l s m args meth c yX3_goBack cX3_goBack 2 wsX3_goBack none) {Q : Unit → jM → Prop}  (n : Nat) : ∀ {x1 : Int32} {μ : jM} {H : Heap} {locs : List Loc} {ls : Array Slot} {cells slots : Nat}, wX3_goBack_43 z b Q n x1 μ → jIz D z A s.heap μ H locs → lv_has ls 2 [(0, va_rf (some b)), (1, .int x1)] → cells + 0 ≤ 0 → slots + 0 ≤ 0 → W p l e rmX3_goBack s m args below meth c H locs cells slots (MQ below (jRz jfV Q D z A) args s 0 0 A) (F0 m 43 ls []) := by
  induction n with
  | zero =>
    intros
    rename_i hw _ _ _ _
    exact (show False from hw).elim
  | succ n ih =>
    intro x1 μ H locs ls cells slots hw hI hl hcn hsn
    have hw : wX3_goBack_43_b z b Q (wX3_goBack_43 z b Q n) x1 μ := hw
    unfold wX3_goBack_43_b at hw
    obtain ⟨hx, hb, hml, hown, hts, hr, hlocks, hnm, hK, hG, hfl⟩ := id hX
    have hown : s.vm.findClass RX3 = some m.cls := hown
    have hfX0 : ∀ w ∈ wsX00, w.before args s = true := fun w h => hts w (List.mem_cons_of_mem _ (List.mem_append_left _ (List.mem_append_left _ (List.mem_append_left _ (List.mem_append_left _ (List.mem_append_left _ (List.mem_append_right _ h)))))))
    have hfX3 : ∀ w ∈ wsX30, w.before args s = true := fun w h => hts w (List.mem_cons_of_mem _ (List.mem_append_left _ (List.mem_append_left _ (List.mem_append_left _ (List.mem_append_left _ (List.mem_append_left _ (List.mem_append_left _ (List.mem_append_right _ h))))))))
    refine lv_iload_n hx hb dX3_goBack_43 rfl (lv_at hl 1 rfl) ?_
    refine j_aload_n (r := (some b)) hx hb dX3_goBack_44 rfl (lv_at hl 0 rfl) ?_
    obtain ⟨v1, hv1, hw⟩ := hw
    refine j_getz (C := RX3) (T := TX3) (N := 8) (ci := 6) (r := (some b)) (v := va_rf v1) hx hb hfX3 hown hK hI rfl 1 (by decide) (hts (.fieldLink RX3 18 "CashPools$Desk" "tops" "Ljava/util/ArrayList;") (List.mem_of_getElem? (i := 5) (by decide +kernel))) (fun _ h => h) hv1 dX3_goBack_45 ?_
    obtain ⟨b4, ⟨hrb4, hfs⟩, hw⟩ := hw
    refine j_goz hI (va_runV (As := []) (rest := [.int x1]) ⟨hx, hb, hml, hown, hts⟩ (kJx4a65c_size_8abf5 l hfl D z b4  μ H.size _) (cwV 0 hts gX3_goBack_Jx4a65c_size_8abf5 rfl rfl rfl (by decide +kernel) ⟨Nat.le_of_ble_eq_true rfl, Nat.le_of_ble_eq_true rfl⟩) (j_prV2z hK hG hI hw (ci := 2) rfl hfs) rfl rfl hl.1 (by rw [hrb4]; rfl) (lv_room (Nat.le_of_ble_eq_true rfl)) dX3_goBack_48 ⟨by show _ ≤ 0; omega, by show _ ≤ 0; omega⟩) (fun v2 μ3 H locs hw hI => ?_)
    refine W.eq (g2 := F0 m 51 ls [.int v2, .int x1]) rfl ?_
    refine lv_icmp_ge (tgt := 77) hx hb dX3_goBack_51 (by decide) (fun hc => ?_) (fun hc => ?_)
    · have hw := hw.1 hc
      refine lv_iconst (v := (0)) hx hb dX3_goBack_77 (by decide) ?_
      refine lv_topi (fun v5 ev5 => ?_)
      have hw := hw v5 ev5
      refine lv_istore_n (lv' := [(1, .int v5), (0, va_rf (some b))]) hx hb dX3_goBack_78 rfl hl (by decide) rfl (fun ls hl => ?_)
      obtain ⟨n6, hw⟩ := hw
      exact kX3_goBack_79 hX  n6 hw hI (lv_sub hl [1, 0] rfl) (by omega) (by omega)
    · have hw := hw.2 hc
      refine j_aload_n (r := (some b)) hx hb dX3_goBack_54 rfl (lv_at hl 0 rfl) ?_
      obtain ⟨v7, hv7, hw⟩ := hw
      refine j_getz (C := RX3) (T := TX3) (N := 8) (ci := 6) (r := (some b)) (v := va_rf v7) hx hb hfX3 hown hK hI rfl 1 (by decide) (hts (.fieldLink RX3 18 "CashPools$Desk" "tops" "Ljava/util/ArrayList;") (List.mem_of_getElem? (i := 5) (by decide +kernel))) (fun _ h => h) hv7 dX3_goBack_55 ?_
      refine lv_iload_n hx hb dX3_goBack_58 rfl (lv_at hl 1 rfl) ?_
      obtain ⟨b10, ⟨hrb10, hfs⟩, hw⟩ := hw
      refine j_goz hI (va_runV (As := [.int x1]) (rest := []) ⟨hx, hb, hml, hown, hts⟩ (kJx4a65c_get_915e3 l hfl D z b10 x1 μ3 H.size _) (cwV 1 hts gX3_goBack_Jx4a65c_get_915e3 rfl rfl rfl (by decide +kernel) ⟨Nat.le_of_ble_eq_true rfl, Nat.le_of_ble_eq_true rfl⟩) (j_prV2z hK hG hI hw (ci := 2) rfl hfs) rfl rfl hl.1 (by rw [hrb10]; rfl) (lv_room (Nat.le_of_ble_eq_true rfl)) dX3_goBack_59 ⟨by show _ ≤ 0; omega, by show _ ≤ 0; omega⟩) (fun v8 μ9 H locs hw hI => ?_)
      refine W.eq (g2 := F0 m 62 ls [va_rf v8]) rfl ?_
      obtain ⟨h11, hw⟩ := hw
      refine j_castz (C := RX0) (T := TX0) (N := 12) (ci := 3) (r := v8) hx hb hown (hts (.classLink RX3 55 "CashPools$Account") (List.mem_of_getElem? (i := 4) (by decide +kernel))) hK hI rfl h11 dX3_goBack_62 ?_
      obtain ⟨v12, hv12, hw⟩ := hw
      refine j_getz (C := RX0) (T := TX0) (N := 12) (ci := 3) (r := v8) (v := va_rf v12) hx hb hfX0 hown hK hI rfl 2 (by decide) (hts (.fieldLink RX3 64 "CashPools$Account" "pool" "LCashPools$Pool;") (List.mem_of_getElem? (i := 6) (by decide +kernel))) (fun _ h => h) hv12 dX3_goBack_65 ?_
      obtain ⟨b15, ⟨hrb15, hfs⟩, hw⟩ := hw
      refine j_goz hI (va_runV (As := []) (rest := []) ⟨hx, hb, hml, hown, hts⟩ (kX6_goBack l hfl D z b15  μ9 H.size _) (cwV 0 hts gX3_goBack_X6_goBack rfl rfl rfl (by decide +kernel) ⟨Nat.le_of_ble_eq_true rfl, Nat.le_of_ble_eq_true rfl⟩) (j_prV2z hK hG hI hw (ci := 9) rfl hfs) rfl rfl hl.1 (by rw [hrb15]; rfl) (lv_room (Nat.le_of_ble_eq_true rfl)) dX3_goBack_68 ⟨by show _ ≤ 0; omega, by show _ ≤ 0; omega⟩) (fun u13 μ14 H locs hw hI => ?_)
      refine W.eq (g2 := F0 m 71 ls []) rfl ?_
      obtain ⟨v16, ev16⟩ : ∃ y : Int32, y = x1 + (1 : Int32) := ⟨_, rfl⟩
      have hw := hw v16 ev16
      refine lv_iinc (v := v16) (lv' := [(1, .int v16), (0, va_rf (some b))]) hx hb dX3_goBack_71 hl (k := 1) rfl (by rw [ev16]; rfl) (by decide) rfl (fun ls hl => ?_)
      refine lv_goto (tgt := 43) hx hb dX3_goBack_74 (by decide) ?_
      exact ih hw hI (lv_sub hl [1, 0] rfl) (by omega) (by omega)
set_option maxHeartbeats 4000000 in
set_option maxRecDepth 100000 in
theorem kX3_goBack_10 {b : Nat} (hX : jX2 D z A p l s m args meth c yX3_goBack cX3_goBack 2 wsX3_goBack none) {Q : Unit → jM → Prop}  (n : Nat) : ∀ {x1 : Int32} {μ : jM} {H : Heap} {locs : List Loc} {ls : Array Slot} {cells slots : Nat}, wX3_goBack_10 z b Q n x1 μ → jIz D z A s.heap μ H locs → lv_has ls 2 [(0, va_rf (some b)), (1, .int x1)] → cells + 0 ≤ 0 → slots + 0 ≤ 0 → W p l e rmX3_goBack s m args below meth c H locs cells slots (MQ below (jRz jfV Q D z A) args s 0 0 A) (F0 m 10 ls []) := by
  induction n with
  | zero =>
    intros
    rename_i hw _ _ _ _
    exact (show False from hw).elim
  | succ n ih =>
    intro x1 μ H locs ls cells slots hw hI hl hcn hsn
    have hw : wX3_goBack_10_b z b Q (wX3_goBack_10 z b Q n) x1 μ := hw
    unfold wX3_goBack_10_b at hw
    obtain ⟨hx, hb, hml, hown, hts, hr, hlocks, hnm, hK, hG, hfl⟩ := id hX
    have hown : s.vm.findClass RX3 = some m.cls := hown
    have hfX3 : ∀ w ∈ wsX30, w.before args s = true := fun w h => hts w (List.mem_cons_of_mem _ (List.mem_append_left _ (List.mem_append_left _ (List.mem_append_left _ (List.mem_append_left _ (List.mem_append_left _ (List.mem_append_left _ (List.mem_append_right _ h))))))))
    refine lv_iload_n hx hb dX3_goBack_10 rfl (lv_at hl 1 rfl) ?_
    refine j_aload_n (r := (some b)) hx hb dX3_goBack_11 rfl (lv_at hl 0 rfl) ?_
    obtain ⟨v1, hv1, hw⟩ := hw
    refine j_getz (C := RX3) (T := TX3) (N := 8) (ci := 6) (r := (some b)) (v := va_rf v1) hx hb hfX3 hown hK hI rfl 0 (by decide) (hts (.fieldLink RX3 12 "CashPools$Desk" "everyAccount" "Ljava/util/ArrayList;") (List.mem_of_getElem? (i := 3) (by decide +kernel))) (fun _ h => h) hv1 dX3_goBack_12 ?_
    obtain ⟨b4, ⟨hrb4, hfs⟩, hw⟩ := hw
    refine j_goz hI (va_runV (As := []) (rest := [.int x1]) ⟨hx, hb, hml, hown, hts⟩ (kJx4a65c_size_8abf5 l hfl D z b4  μ H.size _) (cwV 0 hts gX3_goBack_Jx4a65c_size_8abf5 rfl rfl rfl (by decide +kernel) ⟨Nat.le_of_ble_eq_true rfl, Nat.le_of_ble_eq_true rfl⟩) (j_prV2z hK hG hI hw (ci := 2) rfl hfs) rfl rfl hl.1 (by rw [hrb4]; rfl) (lv_room (Nat.le_of_ble_eq_true rfl)) dX3_goBack_15 ⟨by show _ ≤ 0; omega, by show _ ≤ 0; omega⟩) (fun v2 μ3 H locs hw hI => ?_)
    refine W.eq (g2 := F0 m 18 ls [.int v2, .int x1]) rfl ?_
    refine lv_icmp_ge (tgt := 41) hx hb dX3_goBack_18 (by decide) (fun hc => ?_) (fun hc => ?_)
    · have hw := hw.1 hc
      refine lv_iconst (v := (0)) hx hb dX3_goBack_41 (by decide) ?_
      refine lv_topi (fun v5 ev5 => ?_)
      have hw := hw v5 ev5
      refine lv_istore_n (lv' := [(1, .int v5), (0, va_rf (some b))]) hx hb dX3_goBack_42 rfl hl (by decide) rfl (fun ls hl => ?_)
      obtain ⟨n6, hw⟩ := hw
      exact kX3_goBack_43 hX  n6 hw hI (lv_sub hl [1, 0] rfl) (by omega) (by omega)
    · have hw := hw.2 hc
      refine j_aload_n (r := (some b)) hx hb dX3_goBack_21 rfl (lv_at hl 0 rfl) ?_
      obtain ⟨v7, hv7, hw⟩ := hw
      refine j_getz (C := RX3) (T := TX3) (N := 8) (ci := 6) (r := (some b)) (v := va_rf v7) hx hb hfX3 hown hK hI rfl 0 (by decide) (hts (.fieldLink RX3 12 "CashPools$Desk" "everyAccount" "Ljava/util/ArrayList;") (List.mem_of_getElem? (i := 3) (by decide +kernel))) (fun _ h => h) hv7 dX3_goBack_22 ?_
      refine lv_iload_n hx hb dX3_goBack_25 rfl (lv_at hl 1 rfl) ?_
      obtain ⟨b10, ⟨hrb10, hfs⟩, hw⟩ := hw
      refine j_goz hI (va_runV (As := [.int x1]) (rest := []) ⟨hx, hb, hml, hown, hts⟩ (kJx4a65c_get_915e3 l hfl D z b10 x1 μ3 H.size _) (cwV 1 hts gX3_goBack_Jx4a65c_get_915e3 rfl rfl rfl (by decide +kernel) ⟨Nat.le_of_ble_eq_true rfl, Nat.le_of_ble_eq_true rfl⟩) (j_prV2z hK hG hI hw (ci := 2) rfl hfs) rfl rfl hl.1 (by rw [hrb10]; rfl) (lv_room (Nat.le_of_ble_eq_true rfl)) dX3_goBack_26 ⟨by show _ ≤ 0; omega, by show _ ≤ 0; omega⟩) (fun v8 μ9 H locs hw hI => ?_)
      refine W.eq (g2 := F0 m 29 ls [va_rf v8]) rfl ?_
      obtain ⟨h11, hw⟩ := hw
      refine j_castz (C := RX0) (T := TX0) (N := 12) (ci := 3) (r := v8) hx hb hown (hts (.classLink RX3 55 "CashPools$Account") (List.mem_of_getElem? (i := 4) (by decide +kernel))) hK hI rfl h11 dX3_goBack_29 ?_
      obtain ⟨b14, ⟨hrb14, hfs⟩, hw⟩ := hw
      refine j_goz hI (va_runV (As := []) (rest := []) ⟨hx, hb, hml, hown, hts⟩ (kX0_goBack l hfl D z b14  μ9 H.size _) (cwV 0 hts gX3_goBack_X0_goBack rfl rfl rfl (by decide +kernel) ⟨Nat.le_of_ble_eq_true rfl, Nat.le_of_ble_eq_true rfl⟩) (j_prV2z hK hG hI hw (ci := 3) rfl hfs) rfl rfl hl.1 (by rw [hrb14]; rfl) (lv_room (Nat.le_of_ble_eq_true rfl)) dX3_goBack_32 ⟨by show _ ≤ 0; omega, by show _ ≤ 0; omega⟩) (fun u12 μ13 H locs hw hI => ?_)
      refine W.eq (g2 := F0 m 35 ls []) rfl ?_
      obtain ⟨v15, ev15⟩ : ∃ y : Int32, y = x1 + (1 : Int32) := ⟨_, rfl⟩
      have hw := hw v15 ev15
      refine lv_iinc (v := v15) (lv' := [(1, .int v15), (0, va_rf (some b))]) hx hb dX3_goBack_35 hl (k := 1) rfl (by rw [ev15]; rfl) (by decide) rfl (fun ls hl => ?_)
      refine lv_goto (tgt := 10) hx hb dX3_goBack_38 (by decide) ?_
      exact ih hw hI (lv_sub hl [1, 0] rfl) (by omega) (by omega)
set_option maxHeartbeats 4000000 in
set_option maxRecDepth 100000 in
theorem kX3_goBack_0 {b : Nat} (hX : jX2 D z A p l s m args meth c yX3_goBack cX3_goBack 2 wsX3_goBack none) {Q : Unit → jM → Prop}   {μ : jM} {H : Heap} {locs : List Loc} {ls : Array Slot} {cells slots : Nat} (hw : wX3_goBack_0 z b Q  μ) (hI : jIz D z A s.heap μ H locs) (hl : lv_has ls 2 [(0, va_rf (some b))]) (hcn : cells + 0 ≤ 0) (hsn : slots + 0 ≤ 0) : W p l e rmX3_goBack s m args below meth c H locs cells slots (MQ below (jRz jfV Q D z A) args s 0 0 A) (F0 m 0 ls []) := by
  unfold wX3_goBack_0 at hw
  obtain ⟨hx, hb, hml, hown, hts, hr, hlocks, hnm, hK, hG, hfl⟩ := id hX
  have hown : s.vm.findClass RX3 = some m.cls := hown
  have hfX3 : ∀ w ∈ wsX30, w.before args s = true := fun w h => hts w (List.mem_cons_of_mem _ (List.mem_append_left _ (List.mem_append_left _ (List.mem_append_left _ (List.mem_append_left _ (List.mem_append_left _ (List.mem_append_left _ (List.mem_append_right _ h))))))))
  refine j_aload_n (r := (some b)) hx hb dX3_goBack_0 rfl (lv_at hl 0 rfl) ?_
  refine j_aload_n (r := (some b)) hx hb dX3_goBack_1 rfl (lv_at hl 0 rfl) ?_
  obtain ⟨v1, hv1, hw⟩ := hw
  refine j_getz (C := RX3) (T := TX3) (N := 8) (ci := 6) (r := (some b)) (v := .int v1) hx hb hfX3 hown hK hI rfl 7 (by decide) (hts (.fieldLink RX3 193 "CashPools$Desk" "keptDay" "I") (List.mem_of_getElem? (i := 1) (by decide +kernel))) (fun _ h => h) hv1 dX3_goBack_2 ?_
  obtain ⟨μ2, hμ2, hw⟩ := hw
  refine j_putz (C := RX3) (T := TX3) (N := 8) (ci := 6) (r := (some b)) (v := .int v1) hx hb hfX3 tyX3 tyX3_ok nmX3 hown hK hI rfl 6 (by decide) (hts (.fieldLink RX3 83 "CashPools$Desk" "day" "I") (List.mem_of_getElem? (i := 2) (by decide +kernel))) (fun _ h => h) rfl (tyX3_ok 6 (by decide)) rfl rfl hμ2 dX3_goBack_5 (fun H locs hI => ?_)
  refine lv_iconst (v := (0)) hx hb dX3_goBack_8 (by decide) ?_
  refine lv_topi (fun v3 ev3 => ?_)
  have hw := hw v3 ev3
  refine lv_istore_n (lv' := [(1, .int v3), (0, va_rf (some b))]) hx hb dX3_goBack_9 rfl hl (by decide) rfl (fun ls hl => ?_)
  obtain ⟨n4, hw⟩ := hw
  exact kX3_goBack_10 hX  n4 hw hI (lv_sub hl [1, 0] rfl) (by omega) (by omega)
set_option maxHeartbeats 4000000 in
set_option maxRecDepth 100000 in
theorem kX3_goBack (l : Launch) (hfl : l.stackTraces = false) (D : jD) (z : Nat × Nat) (b : Nat)  (μ : jM) (sz : Nat) (Q : Unit → jM → Prop) : Met l yX3_goBack wsX3_goBack rmX3_goBack (jPre2z D z μ sz [.ref b] (wX3_goBack z b  μ Q)) (jRz jfV Q D z (jA z μ sz)) 0 0 (jA z μ sz) := by
  refine Met.ofW (cc := cX3_goBack) (maxL := 2) (ret := none) (by decide) rfl ?_
  intro p e s m args below meth c s₁ B hml hv
  obtain ⟨rfl, hsz, hH, hz0, hK, hG, hw⟩ := hv
  subst hsz
  have hX : jX2 D z (jA z μ s.heap.size) p l s m _ meth c yX3_goBack cX3_goBack 2 wsX3_goBack none := ⟨B.exec, B.bytes, hml, findClass_of_methodNamed B.named, atoms_spec (ws := wsX3_goBack) B.pre, B.returns, B.notSynchronized, (name_of_methodNamed B.named B.method).1, hK, hG, hfl⟩
  obtain ⟨ls, hg, hl⟩ : ∃ ls : Array Slot, entryFrame m ([.ref b] : List Value).toArray 2 = F0 m 0 ls [] ∧ lv_has ls 2 [(0, va_rf (some b))] := by
    exact ⟨_, lg_entry_eq .., lv_entry _ (n := 2) (Nat.le_of_ble_eq_true rfl)⟩
  rw [hg]
  exact kX3_goBack_0 hX hw (jIz.start hH hz0) (lv_sub hl [0] rfl) (by decide) (by decide)
set_option maxHeartbeats 4000000 in
set_option maxRecDepth 100000 in
theorem kX9_daysToShort_67 {b : Nat} (hX : jX2 D z A p l s m args meth c yX9_daysToShort cX9_daysToShort 6 wsX9_daysToShort (some .int)) {Q : Int32 → jM → Prop}  {x4 : Int32} {μ : jM} {H : Heap} {locs : List Loc} {ls : Array Slot} {cells slots : Nat} (hw : wX9_daysToShort_67 z b Q jN x4 μ) (hI : jIz D z A s.heap μ H locs) (hl : lv_has ls 6 [(0, va_rf (some b)), (4, .int x4)]) (hcn : cells + 0 ≤ 0) (hsn : slots + 0 ≤ 0) : W p l e rmX9_daysToShort s m args below meth c H locs cells slots (MQ below (jRz jfI Q D z A) args s 0 0 A) (F0 m 67 ls []) := by
  unfold wX9_daysToShort_67 at hw
  obtain ⟨hx, hb, hml, hown, hts, hr, hlocks, hnm, hK, hG, hfl⟩ := id hX
  have hown : s.vm.findClass RX9 = some m.cls := hown
  have hfX9 : ∀ w ∈ wsX90, w.before args s = true := fun w h => hts w (List.mem_cons_of_mem _ (List.mem_append_left _ (List.mem_append_left _ (List.mem_append_left _ (List.mem_append_left _ (List.mem_append_left _ (List.mem_append_left _ (List.mem_append_left _ (List.mem_append_left _ (List.mem_append_left _ (List.mem_append_left _ (List.mem_append_left _ (List.mem_append_left _ (List.mem_append_right _ h))))))))))))))
  refine j_aload_n (r := (some b)) hx hb dX9_daysToShort_67 rfl (lv_at hl 0 rfl) ?_
  obtain ⟨v1, hv1, hw⟩ := hw
  refine j_getz (C := RX9) (T := TX9) (N := 1) (ci := 11) (r := (some b)) (v := va_rf v1) hx hb hfX9 hown hK hI rfl 0 (by decide) (hts (.fieldLink RX9 10 "CashPools" "desk" "LCashPools$Desk;") (List.mem_of_getElem? (i := 1) (by decide +kernel))) (fun _ h => h) hv1 dX9_daysToShort_68 ?_
  obtain ⟨b4, ⟨hrb4, hfs⟩, hw⟩ := hw
  refine j_goz hI (va_runV (As := []) (rest := []) ⟨hx, hb, hml, hown, hts⟩ (kX3_goBack l hfl D z b4  μ H.size _) (cwV 0 hts gX9_daysToShort_X3_goBack rfl rfl rfl (by decide +kernel) ⟨Nat.le_of_ble_eq_true rfl, Nat.le_of_ble_eq_true rfl⟩) (j_prV2z hK hG hI hw (ci := 6) rfl hfs) rfl rfl hl.1 (by rw [hrb4]; rfl) (lv_room (Nat.le_of_ble_eq_true rfl)) dX9_daysToShort_71 ⟨by show _ ≤ 0; omega, by show _ ≤ 0; omega⟩) (fun u2 μ3 H locs hw hI => ?_)
  refine W.eq (g2 := F0 m 74 ls []) rfl ?_
  refine lv_iload hx hb dX9_daysToShort_74 (lv_at hl 1 rfl) ?_
  exact j_iretz hx hb hr hlocks hI hw (by omega) (by omega) dX9_daysToShort_76
set_option maxHeartbeats 4000000 in
set_option maxRecDepth 100000 in
theorem kX9_daysToShort_30 {b : Nat} (hX : jX2 D z A p l s m args meth c yX9_daysToShort cX9_daysToShort 6 wsX9_daysToShort (some .int)) {Q : Int32 → jM → Prop}  (n : Nat) : ∀ {x2 : Int32} {x3 : Option Nat} {x4 : Int32} {x5 : Int32} {μ : jM} {H : Heap} {locs : List Loc} {ls : Array Slot} {cells slots : Nat}, wX9_daysToShort_30 z b Q jN n x2 x3 x4 x5 μ → jIz D z A s.heap μ H locs → lv_has ls 6 [(0, va_rf (some b)), (2, .int x2), (3, va_rf x3), (4, .int x4), (5, .int x5)] → cells + 0 ≤ 0 → slots + 0 ≤ 0 → W p l e rmX9_daysToShort s m args below meth c H locs cells slots (MQ below (jRz jfI Q D z A) args s 0 0 A) (F0 m 30 ls []) := by
  induction n with
  | zero =>
    intros
    rename_i hw _ _ _ _
    exact (show False from hw).elim
  | succ n ih =>
    intro x2 x3 x4 x5 μ H locs ls cells slots hw hI hl hcn hsn
    have hw : wX9_daysToShort_30_b z b Q jN (wX9_daysToShort_30 z b Q jN n) x2 x3 x4 x5 μ := hw
    unfold wX9_daysToShort_30_b at hw
    obtain ⟨hx, hb, hml, hown, hts, hr, hlocks, hnm, hK, hG, hfl⟩ := id hX
    have hown : s.vm.findClass RX9 = some m.cls := hown
    have hfX0 : ∀ w ∈ wsX00, w.before args s = true := fun w h => hts w (List.mem_cons_of_mem _ (List.mem_append_left _ (List.mem_append_left _ (List.mem_append_left _ (List.mem_append_left _ (List.mem_append_left _ (List.mem_append_left _ (List.mem_append_left _ (List.mem_append_left _ (List.mem_append_left _ (List.mem_append_left _ (List.mem_append_left _ (List.mem_append_right _ h)))))))))))))
    have hfX9 : ∀ w ∈ wsX90, w.before args s = true := fun w h => hts w (List.mem_cons_of_mem _ (List.mem_append_left _ (List.mem_append_left _ (List.mem_append_left _ (List.mem_append_left _ (List.mem_append_left _ (List.mem_append_left _ (List.mem_append_left _ (List.mem_append_left _ (List.mem_append_left _ (List.mem_append_left _ (List.mem_append_left _ (List.mem_append_left _ (List.mem_append_right _ h))))))))))))))
    refine lv_iload hx hb dX9_daysToShort_30 (lv_at hl 3 rfl) ?_
    refine lv_if_ge (tgt := 67) hx hb dX9_daysToShort_32 (by decide) (fun hc => ?_) (fun hc => ?_)
    · have hw := hw.1 hc
      exact kX9_daysToShort_67 hX  hw hI (lv_sub hl [0, 3] rfl) (by omega) (by omega)
    · have hw := hw.2 hc
      refine lv_iload hx hb dX9_daysToShort_35 (lv_at hl 4 rfl) ?_
      refine lv_iload_n hx hb dX9_daysToShort_37 rfl (lv_at hl 1 rfl) ?_
      refine lv_icmp_gt (tgt := 67) hx hb dX9_daysToShort_38 (by decide) (fun hc => ?_) (fun hc => ?_)
      · have hw := hw.1 hc
        exact kX9_daysToShort_67 hX  hw hI (lv_sub hl [0, 3] rfl) (by omega) (by omega)
      · have hw := hw.2 hc
        refine j_aload_n (r := (some b)) hx hb dX9_daysToShort_41 rfl (lv_at hl 0 rfl) ?_
        obtain ⟨v1, hv1, hw⟩ := hw
        refine j_getz (C := RX9) (T := TX9) (N := 1) (ci := 11) (r := (some b)) (v := va_rf v1) hx hb hfX9 hown hK hI rfl 0 (by decide) (hts (.fieldLink RX9 10 "CashPools" "desk" "LCashPools$Desk;") (List.mem_of_getElem? (i := 1) (by decide +kernel))) (fun _ h => h) hv1 dX9_daysToShort_42 ?_
        obtain ⟨b4, ⟨hrb4, hfs⟩, hw⟩ := hw
        refine j_goz hI (va_runV (As := []) (rest := []) ⟨hx, hb, hml, hown, hts⟩ (kX3_passDay l hfl D z b4  μ H.size _) (cwV 0 hts gX9_daysToShort_X3_passDay rfl rfl rfl (by decide +kernel) ⟨Nat.le_of_ble_eq_true rfl, Nat.le_of_ble_eq_true rfl⟩) (j_prV2z hK hG hI hw (ci := 6) rfl hfs) rfl rfl hl.1 (by rw [hrb4]; rfl) (lv_room (Nat.le_of_ble_eq_true rfl)) dX9_daysToShort_45 ⟨by show _ ≤ 0; omega, by show _ ≤ 0; omega⟩) (fun u2 μ3 H locs hw hI => ?_)
        refine W.eq (g2 := F0 m 48 ls []) rfl ?_
        refine j_aload_n (r := x3) hx hb dX9_daysToShort_48 rfl (lv_at hl 2 rfl) ?_
        obtain ⟨v5, hv5, hw⟩ := hw
        refine j_getz (C := RX0) (T := TX0) (N := 12) (ci := 3) (r := x3) (v := .long v5) hx hb hfX0 hown hK hI rfl 8 (by decide) (hts (.fieldLink RX9 119 "CashPools$Account" "cash" "J") (List.mem_of_getElem? (i := 2) (by decide +kernel))) (fun _ h => h) hv5 dX9_daysToShort_49 ?_
        refine lv_lconst (v := (0)) hx hb dX9_daysToShort_52 (by decide) ?_
        refine j_lcmp_ge (tgt := 61) hx hb dX9_daysToShort_53 dX9_daysToShort_54 (by decide) (fun hc => ?_) (fun hc => ?_)
        · have hw := hw.1 hc
          obtain ⟨v6, ev6⟩ : ∃ y : Int32, y = x5 + (1 : Int32) := ⟨_, rfl⟩
          have hw := hw v6 ev6
          refine lv_iinc (v := v6) (lv' := [(5, .int v6), (0, va_rf (some b)), (2, .int x2), (3, va_rf x3), (4, .int x4)]) hx hb dX9_daysToShort_61 hl (k := 4) rfl (by rw [ev6]; rfl) (by decide) rfl (fun ls hl => ?_)
          refine lv_goto (tgt := 30) hx hb dX9_daysToShort_64 (by decide) ?_
          exact ih hw hI (lv_sub hl [1, 2, 3, 4, 0] rfl) (by omega) (by omega)
        · have hw := hw.2 hc
          refine lv_iload hx hb dX9_daysToShort_57 (lv_at hl 4 rfl) ?_
          refine j_istoreA (r := x3) (F := fun w => [(0, va_rf (some b)), (2, .int x2), (3, w), (4, .int x4), (5, .int x5)]) (F2 := fun w => [(4, .int x5), (0, va_rf (some b)), (2, .int x2), (3, w), (5, .int x5)]) hx hb dX9_daysToShort_59 hl (by decide) (fun w hw => by rcases hw with rfl | ⟨_, rfl⟩ <;> rfl) (fun ls hl => ?_)
          obtain ⟨v7, ev7⟩ : ∃ y : Int32, y = x5 + (1 : Int32) := ⟨_, rfl⟩
          have hw := hw v7 ev7
          refine lv_iinc (v := v7) (lv' := [(5, .int v7), (4, .int x5), (0, va_rf (some b)), (2, .int x2), (3, va_rf x3)]) hx hb dX9_daysToShort_61 hl (k := 4) rfl (by rw [ev7]; rfl) (by decide) rfl (fun ls hl => ?_)
          refine lv_goto (tgt := 30) hx hb dX9_daysToShort_64 (by decide) ?_
          exact ih hw hI (lv_sub hl [2, 3, 4, 1, 0] rfl) (by omega) (by omega)
set_option maxHeartbeats 4000000 in
set_option maxRecDepth 100000 in
theorem kX9_daysToShort_0 {b : Nat} (hX : jX2 D z A p l s m args meth c yX9_daysToShort cX9_daysToShort 6 wsX9_daysToShort (some .int)) {Q : Int32 → jM → Prop}  {x1 : Int32} {x2 : Int32} {μ : jM} {H : Heap} {locs : List Loc} {ls : Array Slot} {cells slots : Nat} (hw : wX9_daysToShort_0 z b Q jN x1 x2 μ) (hI : jIz D z A s.heap μ H locs) (hl : lv_has ls 6 [(0, va_rf (some b)), (1, .int x1), (2, .int x2)]) (hcn : cells + 0 ≤ 0) (hsn : slots + 0 ≤ 0) : W p l e rmX9_daysToShort s m args below meth c H locs cells slots (MQ below (jRz jfI Q D z A) args s 0 0 A) (F0 m 0 ls []) := by
  unfold wX9_daysToShort_0 at hw
  obtain ⟨hx, hb, hml, hown, hts, hr, hlocks, hnm, hK, hG, hfl⟩ := id hX
  have hown : s.vm.findClass RX9 = some m.cls := hown
  have hfX9 : ∀ w ∈ wsX90, w.before args s = true := fun w h => hts w (List.mem_cons_of_mem _ (List.mem_append_left _ (List.mem_append_left _ (List.mem_append_left _ (List.mem_append_left _ (List.mem_append_left _ (List.mem_append_left _ (List.mem_append_left _ (List.mem_append_left _ (List.mem_append_left _ (List.mem_append_left _ (List.mem_append_left _ (List.mem_append_left _ (List.mem_append_right _ h))))))))))))))
  refine j_aload_n (r := (some b)) hx hb dX9_daysToShort_0 rfl (lv_at hl 0 rfl) ?_
  refine lv_iload_n hx hb dX9_daysToShort_1 rfl (lv_at hl 1 rfl) ?_
  obtain ⟨hfs, hw⟩ := hw
  refine j_goz hI (va_runV (As := [.int x1]) (rest := []) ⟨hx, hb, hml, hown, hts⟩ (kX9_accountAt l hfl D z b x1 μ H.size _) (cwV 1 hts gX9_daysToShort_X9_accountAt rfl rfl rfl (by decide +kernel) ⟨Nat.le_of_ble_eq_true rfl, Nat.le_of_ble_eq_true rfl⟩) (j_prV2z hK hG hI hw (ci := 11) rfl hfs) rfl rfl hl.1 rfl (lv_room (Nat.le_of_ble_eq_true rfl)) dX9_daysToShort_2 ⟨by show _ ≤ 0; omega, by show _ ≤ 0; omega⟩) (fun v1 μ2 H locs hw hI => ?_)
  refine W.eq (g2 := F0 m 5 ls [va_rf v1]) rfl ?_
  refine j_astore_n (r := v1) (lv' := [(3, va_rf v1), (0, va_rf (some b)), (1, .int x1), (2, .int x2)]) hx hb dX9_daysToShort_5 rfl hl (by decide) rfl (fun ls hl => ?_)
  refine lv_iload_n hx hb dX9_daysToShort_6 rfl (lv_at hl 3 rfl) ?_
  refine lv_iconst (v := (1)) hx hb dX9_daysToShort_7 (by decide) ?_
  refine lv_bipush (v := (60)) hx hb dX9_daysToShort_8 (by decide) ?_
  refine j_goz hI (va_runS (As := [.int x2, .int (1 : Int32), .int (60 : Int32)]) (rest := []) ⟨hx, hb, hml, hown, hts⟩ (kX9_requireWithin l hfl D z x2 (1 : Int32) (60 : Int32) μ2 H.size _) (va_cwS 3 hts gX9_daysToShort_X9_requireWithin rfl rfl rfl (by decide +kernel) ⟨Nat.le_of_ble_eq_true rfl, Nat.le_of_ble_eq_true rfl⟩) (j_prS2z hK hG hI hw) rfl rfl hl.1 rfl (lv_room (Nat.le_of_ble_eq_true rfl)) dX9_daysToShort_10 ⟨by show _ ≤ 0; omega, by show _ ≤ 0; omega⟩) (fun u3 μ4 H locs hw hI => ?_)
  refine W.eq (g2 := F0 m 13 ls []) rfl ?_
  refine j_aload_n (r := v1) hx hb dX9_daysToShort_13 rfl (lv_at hl 0 rfl) ?_
  refine j_goz hI (va_runS (As := [va_rf v1]) (rest := []) ⟨hx, hb, hml, hown, hts⟩ (kX9_requireTop l hfl D z v1 μ4 H.size _) (va_cwS 1 hts gX9_daysToShort_X9_requireTop rfl rfl rfl (by decide +kernel) ⟨Nat.le_of_ble_eq_true rfl, Nat.le_of_ble_eq_true rfl⟩) (j_prS2z hK hG hI hw) rfl rfl hl.1 rfl (lv_room (Nat.le_of_ble_eq_true rfl)) dX9_daysToShort_14 ⟨by show _ ≤ 0; omega, by show _ ≤ 0; omega⟩) (fun u5 μ6 H locs hw hI => ?_)
  refine W.eq (g2 := F0 m 17 ls []) rfl ?_
  refine lv_iconst (v := (-1)) hx hb dX9_daysToShort_17 (by decide) ?_
  refine lv_topi (fun v7 ev7 => ?_)
  have hw := hw v7 ev7
  refine j_istoreA (r := v1) (F := fun w => [(3, w), (0, va_rf (some b)), (1, .int x1), (2, .int x2)]) (F2 := fun w => [(4, .int v7), (3, w), (0, va_rf (some b)), (1, .int x1), (2, .int x2)]) hx hb dX9_daysToShort_18 hl (by decide) (fun w hw => by rcases hw with rfl | ⟨_, rfl⟩ <;> rfl) (fun ls hl => ?_)
  refine j_aload_n (r := (some b)) hx hb dX9_daysToShort_20 rfl (lv_at hl 2 rfl) ?_
  obtain ⟨v8, hv8, hw⟩ := hw
  refine j_getz (C := RX9) (T := TX9) (N := 1) (ci := 11) (r := (some b)) (v := va_rf v8) hx hb hfX9 hown hK hI rfl 0 (by decide) (hts (.fieldLink RX9 10 "CashPools" "desk" "LCashPools$Desk;") (List.mem_of_getElem? (i := 1) (by decide +kernel))) (fun _ h => h) hv8 dX9_daysToShort_21 ?_
  obtain ⟨b11, ⟨hrb11, hfs⟩, hw⟩ := hw
  refine j_goz hI (va_runV (As := []) (rest := []) ⟨hx, hb, hml, hown, hts⟩ (kX3_keep l hfl D z b11  μ6 H.size _) (cwV 0 hts gX9_daysToShort_X3_keep rfl rfl rfl (by decide +kernel) ⟨Nat.le_of_ble_eq_true rfl, Nat.le_of_ble_eq_true rfl⟩) (j_prV2z hK hG hI hw (ci := 6) rfl hfs) rfl rfl hl.1 (by rw [hrb11]; rfl) (lv_room (Nat.le_of_ble_eq_true rfl)) dX9_daysToShort_24 ⟨by show _ ≤ 0; omega, by show _ ≤ 0; omega⟩) (fun u9 μ10 H locs hw hI => ?_)
  refine W.eq (g2 := F0 m 27 ls []) rfl ?_
  refine lv_iconst (v := (1)) hx hb dX9_daysToShort_27 (by decide) ?_
  refine lv_topi (fun v12 ev12 => ?_)
  have hw := hw v12 ev12
  refine lv_istore (lv' := [(5, .int v12), (4, .int v7), (3, va_rf v1), (0, va_rf (some b)), (1, .int x1), (2, .int x2)]) hx hb dX9_daysToShort_28 hl (by decide) rfl (fun ls hl => ?_)
  obtain ⟨n13, hw⟩ := hw
  exact kX9_daysToShort_30 hX  n13 hw hI (lv_sub hl [3, 5, 2, 1, 0] rfl) (by omega) (by omega)
set_option maxHeartbeats 4000000 in
set_option maxRecDepth 100000 in
theorem kX9_daysToShort (l : Launch) (hfl : l.stackTraces = false) (D : jD) (z : Nat × Nat) (b : Nat) (x1 : Int32) (x2 : Int32) (μ : jM) (sz : Nat) (Q : Int32 → jM → Prop) : Met l yX9_daysToShort wsX9_daysToShort rmX9_daysToShort (jPre2z D z μ sz [.ref b, .int x1, .int x2] (wX9_daysToShort z b x1 x2 μ Q jN)) (jRz jfI Q D z (jA z μ sz)) 0 0 (jA z μ sz) := by
  refine Met.ofW (cc := cX9_daysToShort) (maxL := 6) (ret := (some .int)) (by decide) rfl ?_
  intro p e s m args below meth c s₁ B hml hv
  obtain ⟨rfl, hsz, hH, hz0, hK, hG, hw⟩ := hv
  subst hsz
  have hX : jX2 D z (jA z μ s.heap.size) p l s m _ meth c yX9_daysToShort cX9_daysToShort 6 wsX9_daysToShort (some .int) := ⟨B.exec, B.bytes, hml, findClass_of_methodNamed B.named, atoms_spec (ws := wsX9_daysToShort) B.pre, B.returns, B.notSynchronized, (name_of_methodNamed B.named B.method).1, hK, hG, hfl⟩
  obtain ⟨ls, hg, hl⟩ : ∃ ls : Array Slot, entryFrame m ([.ref b, .int x1, .int x2] : List Value).toArray 6 = F0 m 0 ls [] ∧ lv_has ls 6 [(0, va_rf (some b)), (1, .int x1), (2, .int x2)] := by
    exact ⟨_, lg_entry_eq .., lv_entry _ (n := 6) (Nat.le_of_ble_eq_true rfl)⟩
  rw [hg]
  exact kX9_daysToShort_0 hX hw (jIz.start hH hz0) (lv_sub hl [0, 1, 2] rfl) (by decide) (by decide)
set_option maxHeartbeats 4000000 in
set_option maxRecDepth 100000 in
theorem kX9_forecast_23 {b : Nat} (hX : jX2 D z A p l s m args meth c yX9_forecast cX9_forecast 6 wsX9_forecast (some .long)) {Q : Int64 → jM → Prop}  (n : Nat) : ∀ {x2 : Int32} {x3 : Option Nat} {x4 : Int32} {μ : jM} {H : Heap} {locs : List Loc} {ls : Array Slot} {cells slots : Nat}, wX9_forecast_23 z b Q jN n x2 x3 x4 μ → jIz D z A s.heap μ H locs → lv_has ls 6 [(0, va_rf (some b)), (2, .int x2), (3, va_rf x3), (4, .int x4)] → cells + 0 ≤ 0 → slots + 0 ≤ 0 → W p l e rmX9_forecast s m args below meth c H locs cells slots (MQ below (jRz jfJ Q D z A) args s 0 0 A) (F0 m 23 ls []) := by
  induction n with
  | zero =>
    intros
    rename_i hw _ _ _ _
    exact (show False from hw).elim
  | succ n ih =>
    intro x2 x3 x4 μ H locs ls cells slots hw hI hl hcn hsn
    have hw : wX9_forecast_23_b z b Q jN (wX9_forecast_23 z b Q jN n) x2 x3 x4 μ := hw
    unfold wX9_forecast_23_b at hw
    obtain ⟨hx, hb, hml, hown, hts, hr, hlocks, hnm, hK, hG, hfl⟩ := id hX
    have hown : s.vm.findClass RX9 = some m.cls := hown
    have hfX0 : ∀ w ∈ wsX00, w.before args s = true := fun w h => hts w (List.mem_cons_of_mem _ (List.mem_append_left _ (List.mem_append_left _ (List.mem_append_left _ (List.mem_append_left _ (List.mem_append_left _ (List.mem_append_left _ (List.mem_append_left _ (List.mem_append_left _ (List.mem_append_left _ (List.mem_append_left _ (List.mem_append_right _ h))))))))))))
    have hfX9 : ∀ w ∈ wsX90, w.before args s = true := fun w h => hts w (List.mem_cons_of_mem _ (List.mem_append_left _ (List.mem_append_left _ (List.mem_append_left _ (List.mem_append_left _ (List.mem_append_left _ (List.mem_append_left _ (List.mem_append_left _ (List.mem_append_left _ (List.mem_append_left _ (List.mem_append_left _ (List.mem_append_left _ (List.mem_append_right _ h)))))))))))))
    refine lv_iload hx hb dX9_forecast_23 (lv_at hl 3 rfl) ?_
    refine lv_iload_n hx hb dX9_forecast_25 rfl (lv_at hl 1 rfl) ?_
    refine lv_icmp_ge (tgt := 42) hx hb dX9_forecast_26 (by decide) (fun hc => ?_) (fun hc => ?_)
    · have hw := hw.1 hc
      refine j_aload_n (r := x3) hx hb dX9_forecast_42 rfl (lv_at hl 2 rfl) ?_
      obtain ⟨v1, hv1, hw⟩ := hw
      refine j_getz (C := RX0) (T := TX0) (N := 12) (ci := 3) (r := x3) (v := .long v1) hx hb hfX0 hown hK hI rfl 8 (by decide) (hts (.fieldLink RX9 119 "CashPools$Account" "cash" "J") (List.mem_of_getElem? (i := 2) (by decide +kernel))) (fun _ h => h) hv1 dX9_forecast_43 ?_
      refine j_lstoreA (r := x3) (F := fun w => [(0, va_rf (some b)), (2, .int x2), (3, w), (4, .int x4)]) (F2 := fun w => [(4, .long v1), (0, va_rf (some b)), (2, .int x2), (3, w)]) hx hb dX9_forecast_46 hl (by decide) (fun w hw => by rcases hw with rfl | ⟨_, rfl⟩ <;> rfl) (fun ls hl => ?_)
      refine j_aload_n (r := (some b)) hx hb dX9_forecast_48 rfl (lv_at hl 1 rfl) ?_
      obtain ⟨v2, hv2, hw⟩ := hw
      refine j_getz (C := RX9) (T := TX9) (N := 1) (ci := 11) (r := (some b)) (v := va_rf v2) hx hb hfX9 hown hK hI rfl 0 (by decide) (hts (.fieldLink RX9 10 "CashPools" "desk" "LCashPools$Desk;") (List.mem_of_getElem? (i := 1) (by decide +kernel))) (fun _ h => h) hv2 dX9_forecast_49 ?_
      obtain ⟨b5, ⟨hrb5, hfs⟩, hw⟩ := hw
      refine j_goz hI (va_runV (As := []) (rest := []) ⟨hx, hb, hml, hown, hts⟩ (kX3_goBack l hfl D z b5  μ H.size _) (cwV 0 hts gX9_forecast_X3_goBack rfl rfl rfl (by decide +kernel) ⟨Nat.le_of_ble_eq_true rfl, Nat.le_of_ble_eq_true rfl⟩) (j_prV2z hK hG hI hw (ci := 6) rfl hfs) rfl rfl hl.1 (by rw [hrb5]; rfl) (lv_room (Nat.le_of_ble_eq_true rfl)) dX9_forecast_52 ⟨by show _ ≤ 0; omega, by show _ ≤ 0; omega⟩) (fun u3 μ4 H locs hw hI => ?_)
      refine W.eq (g2 := F0 m 55 ls []) rfl ?_
      refine lv_lload hx hb dX9_forecast_55 (lv_at hl 0 rfl) ?_
      exact j_lretz hx hb hr hlocks hI hw (by omega) (by omega) dX9_forecast_57
    · have hw := hw.2 hc
      refine j_aload_n (r := (some b)) hx hb dX9_forecast_29 rfl (lv_at hl 0 rfl) ?_
      obtain ⟨v6, hv6, hw⟩ := hw
      refine j_getz (C := RX9) (T := TX9) (N := 1) (ci := 11) (r := (some b)) (v := va_rf v6) hx hb hfX9 hown hK hI rfl 0 (by decide) (hts (.fieldLink RX9 10 "CashPools" "desk" "LCashPools$Desk;") (List.mem_of_getElem? (i := 1) (by decide +kernel))) (fun _ h => h) hv6 dX9_forecast_30 ?_
      obtain ⟨b9, ⟨hrb9, hfs⟩, hw⟩ := hw
      refine j_goz hI (va_runV (As := []) (rest := []) ⟨hx, hb, hml, hown, hts⟩ (kX3_passDay l hfl D z b9  μ H.size _) (cwV 0 hts gX9_forecast_X3_passDay rfl rfl rfl (by decide +kernel) ⟨Nat.le_of_ble_eq_true rfl, Nat.le_of_ble_eq_true rfl⟩) (j_prV2z hK hG hI hw (ci := 6) rfl hfs) rfl rfl hl.1 (by rw [hrb9]; rfl) (lv_room (Nat.le_of_ble_eq_true rfl)) dX9_forecast_33 ⟨by show _ ≤ 0; omega, by show _ ≤ 0; omega⟩) (fun u7 μ8 H locs hw hI => ?_)
      refine W.eq (g2 := F0 m 36 ls []) rfl ?_
      obtain ⟨v10, ev10⟩ : ∃ y : Int32, y = x4 + (1 : Int32) := ⟨_, rfl⟩
      have hw := hw v10 ev10
      refine j_iincA (r := x3) (F := fun w => [(0, va_rf (some b)), (2, .int x2), (3, w), (4, .int x4)]) (F2 := fun w => [(4, .int v10), (0, va_rf (some b)), (2, .int x2), (3, w)]) (v := v10) hx hb dX9_forecast_36 hl (k := 3) (fun _ => rfl) (by rw [ev10]; rfl) (by decide) (fun w hw => by rcases hw with rfl | ⟨_, rfl⟩ <;> rfl) (fun ls hl => ?_)
      refine lv_goto (tgt := 23) hx hb dX9_forecast_39 (by decide) ?_
      exact ih hw hI (lv_sub hl [1, 2, 3, 0] rfl) (by omega) (by omega)
set_option maxHeartbeats 4000000 in
set_option maxRecDepth 100000 in
theorem kX9_forecast_0 {b : Nat} (hX : jX2 D z A p l s m args meth c yX9_forecast cX9_forecast 6 wsX9_forecast (some .long)) {Q : Int64 → jM → Prop}  {x1 : Int32} {x2 : Int32} {μ : jM} {H : Heap} {locs : List Loc} {ls : Array Slot} {cells slots : Nat} (hw : wX9_forecast_0 z b Q jN x1 x2 μ) (hI : jIz D z A s.heap μ H locs) (hl : lv_has ls 6 [(0, va_rf (some b)), (1, .int x1), (2, .int x2)]) (hcn : cells + 0 ≤ 0) (hsn : slots + 0 ≤ 0) : W p l e rmX9_forecast s m args below meth c H locs cells slots (MQ below (jRz jfJ Q D z A) args s 0 0 A) (F0 m 0 ls []) := by
  unfold wX9_forecast_0 at hw
  obtain ⟨hx, hb, hml, hown, hts, hr, hlocks, hnm, hK, hG, hfl⟩ := id hX
  have hown : s.vm.findClass RX9 = some m.cls := hown
  have hfX9 : ∀ w ∈ wsX90, w.before args s = true := fun w h => hts w (List.mem_cons_of_mem _ (List.mem_append_left _ (List.mem_append_left _ (List.mem_append_left _ (List.mem_append_left _ (List.mem_append_left _ (List.mem_append_left _ (List.mem_append_left _ (List.mem_append_left _ (List.mem_append_left _ (List.mem_append_left _ (List.mem_append_left _ (List.mem_append_right _ h)))))))))))))
  refine j_aload_n (r := (some b)) hx hb dX9_forecast_0 rfl (lv_at hl 0 rfl) ?_
  refine lv_iload_n hx hb dX9_forecast_1 rfl (lv_at hl 1 rfl) ?_
  obtain ⟨hfs, hw⟩ := hw
  refine j_goz hI (va_runV (As := [.int x1]) (rest := []) ⟨hx, hb, hml, hown, hts⟩ (kX9_accountAt l hfl D z b x1 μ H.size _) (cwV 1 hts gX9_forecast_X9_accountAt rfl rfl rfl (by decide +kernel) ⟨Nat.le_of_ble_eq_true rfl, Nat.le_of_ble_eq_true rfl⟩) (j_prV2z hK hG hI hw (ci := 11) rfl hfs) rfl rfl hl.1 rfl (lv_room (Nat.le_of_ble_eq_true rfl)) dX9_forecast_2 ⟨by show _ ≤ 0; omega, by show _ ≤ 0; omega⟩) (fun v1 μ2 H locs hw hI => ?_)
  refine W.eq (g2 := F0 m 5 ls [va_rf v1]) rfl ?_
  refine j_astore_n (r := v1) (lv' := [(3, va_rf v1), (0, va_rf (some b)), (1, .int x1), (2, .int x2)]) hx hb dX9_forecast_5 rfl hl (by decide) rfl (fun ls hl => ?_)
  refine lv_iload_n hx hb dX9_forecast_6 rfl (lv_at hl 3 rfl) ?_
  refine lv_iconst (v := (1)) hx hb dX9_forecast_7 (by decide) ?_
  refine lv_bipush (v := (60)) hx hb dX9_forecast_8 (by decide) ?_
  refine j_goz hI (va_runS (As := [.int x2, .int (1 : Int32), .int (60 : Int32)]) (rest := []) ⟨hx, hb, hml, hown, hts⟩ (kX9_requireWithin l hfl D z x2 (1 : Int32) (60 : Int32) μ2 H.size _) (va_cwS 3 hts gX9_forecast_X9_requireWithin rfl rfl rfl (by decide +kernel) ⟨Nat.le_of_ble_eq_true rfl, Nat.le_of_ble_eq_true rfl⟩) (j_prS2z hK hG hI hw) rfl rfl hl.1 rfl (lv_room (Nat.le_of_ble_eq_true rfl)) dX9_forecast_10 ⟨by show _ ≤ 0; omega, by show _ ≤ 0; omega⟩) (fun u3 μ4 H locs hw hI => ?_)
  refine W.eq (g2 := F0 m 13 ls []) rfl ?_
  refine j_aload_n (r := (some b)) hx hb dX9_forecast_13 rfl (lv_at hl 1 rfl) ?_
  obtain ⟨v5, hv5, hw⟩ := hw
  refine j_getz (C := RX9) (T := TX9) (N := 1) (ci := 11) (r := (some b)) (v := va_rf v5) hx hb hfX9 hown hK hI rfl 0 (by decide) (hts (.fieldLink RX9 10 "CashPools" "desk" "LCashPools$Desk;") (List.mem_of_getElem? (i := 1) (by decide +kernel))) (fun _ h => h) hv5 dX9_forecast_14 ?_
  obtain ⟨b8, ⟨hrb8, hfs⟩, hw⟩ := hw
  refine j_goz hI (va_runV (As := []) (rest := []) ⟨hx, hb, hml, hown, hts⟩ (kX3_keep l hfl D z b8  μ4 H.size _) (cwV 0 hts gX9_forecast_X3_keep rfl rfl rfl (by decide +kernel) ⟨Nat.le_of_ble_eq_true rfl, Nat.le_of_ble_eq_true rfl⟩) (j_prV2z hK hG hI hw (ci := 6) rfl hfs) rfl rfl hl.1 (by rw [hrb8]; rfl) (lv_room (Nat.le_of_ble_eq_true rfl)) dX9_forecast_17 ⟨by show _ ≤ 0; omega, by show _ ≤ 0; omega⟩) (fun u6 μ7 H locs hw hI => ?_)
  refine W.eq (g2 := F0 m 20 ls []) rfl ?_
  refine lv_iconst (v := (0)) hx hb dX9_forecast_20 (by decide) ?_
  refine lv_topi (fun v9 ev9 => ?_)
  have hw := hw v9 ev9
  refine j_istoreA (r := v1) (F := fun w => [(3, w), (0, va_rf (some b)), (1, .int x1), (2, .int x2)]) (F2 := fun w => [(4, .int v9), (3, w), (0, va_rf (some b)), (1, .int x1), (2, .int x2)]) hx hb dX9_forecast_21 hl (by decide) (fun w hw => by rcases hw with rfl | ⟨_, rfl⟩ <;> rfl) (fun ls hl => ?_)
  obtain ⟨n10, hw⟩ := hw
  exact kX9_forecast_23 hX  n10 hw hI (lv_sub hl [2, 4, 1, 0] rfl) (by omega) (by omega)
set_option maxHeartbeats 4000000 in
set_option maxRecDepth 100000 in
theorem kX9_forecast (l : Launch) (hfl : l.stackTraces = false) (D : jD) (z : Nat × Nat) (b : Nat) (x1 : Int32) (x2 : Int32) (μ : jM) (sz : Nat) (Q : Int64 → jM → Prop) : Met l yX9_forecast wsX9_forecast rmX9_forecast (jPre2z D z μ sz [.ref b, .int x1, .int x2] (wX9_forecast z b x1 x2 μ Q jN)) (jRz jfJ Q D z (jA z μ sz)) 0 0 (jA z μ sz) := by
  refine Met.ofW (cc := cX9_forecast) (maxL := 6) (ret := (some .long)) (by decide) rfl ?_
  intro p e s m args below meth c s₁ B hml hv
  obtain ⟨rfl, hsz, hH, hz0, hK, hG, hw⟩ := hv
  subst hsz
  have hX : jX2 D z (jA z μ s.heap.size) p l s m _ meth c yX9_forecast cX9_forecast 6 wsX9_forecast (some .long) := ⟨B.exec, B.bytes, hml, findClass_of_methodNamed B.named, atoms_spec (ws := wsX9_forecast) B.pre, B.returns, B.notSynchronized, (name_of_methodNamed B.named B.method).1, hK, hG, hfl⟩
  obtain ⟨ls, hg, hl⟩ : ∃ ls : Array Slot, entryFrame m ([.ref b, .int x1, .int x2] : List Value).toArray 6 = F0 m 0 ls [] ∧ lv_has ls 6 [(0, va_rf (some b)), (1, .int x1), (2, .int x2)] := by
    exact ⟨_, lg_entry_eq .., lv_entry _ (n := 6) (Nat.le_of_ble_eq_true rfl)⟩
  rw [hg]
  exact kX9_forecast_0 hX hw (jIz.start hH hz0) (lv_sub hl [0, 1, 2] rfl) (by decide) (by decide)
set_option maxHeartbeats 4000000 in
set_option maxRecDepth 100000 in
theorem kX9_passDays_34 {b : Nat} (hX : jX2 D z A p l s m args meth c yX9_passDays cX9_passDays 3 wsX9_passDays (some .int)) {Q : Int32 → jM → Prop}  (n : Nat) : ∀ {x1 : Int32} {x2 : Int32} {μ : jM} {H : Heap} {locs : List Loc} {ls : Array Slot} {cells slots : Nat}, wX9_passDays_34 z b Q jN n x1 x2 μ → jIz D z A s.heap μ H locs → lv_has ls 3 [(0, va_rf (some b)), (1, .int x1), (2, .int x2)] → cells + 0 ≤ 0 → slots + 0 ≤ 0 → W p l e rmX9_passDays s m args below meth c H locs cells slots (MQ below (jRz jfI Q D z A) args s 0 0 A) (F0 m 34 ls []) := by
  induction n with
  | zero =>
    intros
    rename_i hw _ _ _ _
    exact (show False from hw).elim
  | succ n ih =>
    intro x1 x2 μ H locs ls cells slots hw hI hl hcn hsn
    have hw : wX9_passDays_34_b z b Q jN (wX9_passDays_34 z b Q jN n) x1 x2 μ := hw
    unfold wX9_passDays_34_b at hw
    obtain ⟨hx, hb, hml, hown, hts, hr, hlocks, hnm, hK, hG, hfl⟩ := id hX
    have hown : s.vm.findClass RX9 = some m.cls := hown
    have hfX3 : ∀ w ∈ wsX30, w.before args s = true := fun w h => hts w (List.mem_cons_of_mem _ (List.mem_append_left _ (List.mem_append_left _ (List.mem_append_left _ (List.mem_append_left _ (List.mem_append_left _ (List.mem_append_left _ (List.mem_append_left _ (List.mem_append_left _ (List.mem_append_left _ (List.mem_append_left _ (List.mem_append_right _ h))))))))))))
    have hfX9 : ∀ w ∈ wsX90, w.before args s = true := fun w h => hts w (List.mem_cons_of_mem _ (List.mem_append_left _ (List.mem_append_left _ (List.mem_append_left _ (List.mem_append_left _ (List.mem_append_left _ (List.mem_append_left _ (List.mem_append_left _ (List.mem_append_left _ (List.mem_append_left _ (List.mem_append_left _ (List.mem_append_left _ (List.mem_append_right _ h)))))))))))))
    refine lv_iload_n hx hb dX9_passDays_34 rfl (lv_at hl 2 rfl) ?_
    refine lv_iload_n hx hb dX9_passDays_35 rfl (lv_at hl 1 rfl) ?_
    refine lv_icmp_ge (tgt := 52) hx hb dX9_passDays_36 (by decide) (fun hc => ?_) (fun hc => ?_)
    · have hw := hw.1 hc
      refine j_aload_n (r := (some b)) hx hb dX9_passDays_52 rfl (lv_at hl 0 rfl) ?_
      obtain ⟨v1, hv1, hw⟩ := hw
      refine j_getz (C := RX9) (T := TX9) (N := 1) (ci := 11) (r := (some b)) (v := va_rf v1) hx hb hfX9 hown hK hI rfl 0 (by decide) (hts (.fieldLink RX9 10 "CashPools" "desk" "LCashPools$Desk;") (List.mem_of_getElem? (i := 3) (by decide +kernel))) (fun _ h => h) hv1 dX9_passDays_53 ?_
      obtain ⟨v2, hv2, hw⟩ := hw
      refine j_getz (C := RX3) (T := TX3) (N := 8) (ci := 6) (r := v1) (v := .int v2) hx hb hfX3 hown hK hI rfl 6 (by decide) (hts (.fieldLink RX9 91 "CashPools$Desk" "day" "I") (List.mem_of_getElem? (i := 4) (by decide +kernel))) (fun _ h => h) hv2 dX9_passDays_56 ?_
      exact j_iretz hx hb hr hlocks hI hw (by omega) (by omega) dX9_passDays_59
    · have hw := hw.2 hc
      refine j_aload_n (r := (some b)) hx hb dX9_passDays_39 rfl (lv_at hl 0 rfl) ?_
      obtain ⟨v3, hv3, hw⟩ := hw
      refine j_getz (C := RX9) (T := TX9) (N := 1) (ci := 11) (r := (some b)) (v := va_rf v3) hx hb hfX9 hown hK hI rfl 0 (by decide) (hts (.fieldLink RX9 10 "CashPools" "desk" "LCashPools$Desk;") (List.mem_of_getElem? (i := 3) (by decide +kernel))) (fun _ h => h) hv3 dX9_passDays_40 ?_
      obtain ⟨b6, ⟨hrb6, hfs⟩, hw⟩ := hw
      refine j_goz hI (va_runV (As := []) (rest := []) ⟨hx, hb, hml, hown, hts⟩ (kX3_passDay l hfl D z b6  μ H.size _) (cwV 0 hts gX9_passDays_X3_passDay rfl rfl rfl (by decide +kernel) ⟨Nat.le_of_ble_eq_true rfl, Nat.le_of_ble_eq_true rfl⟩) (j_prV2z hK hG hI hw (ci := 6) rfl hfs) rfl rfl hl.1 (by rw [hrb6]; rfl) (lv_room (Nat.le_of_ble_eq_true rfl)) dX9_passDays_43 ⟨by show _ ≤ 0; omega, by show _ ≤ 0; omega⟩) (fun u4 μ5 H locs hw hI => ?_)
      refine W.eq (g2 := F0 m 46 ls []) rfl ?_
      obtain ⟨v7, ev7⟩ : ∃ y : Int32, y = x2 + (1 : Int32) := ⟨_, rfl⟩
      have hw := hw v7 ev7
      refine lv_iinc (v := v7) (lv' := [(2, .int v7), (0, va_rf (some b)), (1, .int x1)]) hx hb dX9_passDays_46 hl (k := 2) rfl (by rw [ev7]; rfl) (by decide) rfl (fun ls hl => ?_)
      refine lv_goto (tgt := 34) hx hb dX9_passDays_49 (by decide) ?_
      exact ih hw hI (lv_sub hl [1, 2, 0] rfl) (by omega) (by omega)
set_option maxHeartbeats 4000000 in
set_option maxRecDepth 100000 in
theorem kX9_passDays_0 {b : Nat} (hX : jX2 D z A p l s m args meth c yX9_passDays cX9_passDays 3 wsX9_passDays (some .int)) {Q : Int32 → jM → Prop}  {x1 : Int32} {μ : jM} {H : Heap} {locs : List Loc} {ls : Array Slot} {cells slots : Nat} (hw : wX9_passDays_0 z b Q jN x1 μ) (hI : jIz D z A s.heap μ H locs) (hl : lv_has ls 3 [(0, va_rf (some b)), (1, .int x1)]) (hcn : cells + 0 ≤ 0) (hsn : slots + 0 ≤ 0) : W p l e rmX9_passDays s m args below meth c H locs cells slots (MQ below (jRz jfI Q D z A) args s 0 0 A) (F0 m 0 ls []) := by
  unfold wX9_passDays_0 at hw
  obtain ⟨hx, hb, hml, hown, hts, hr, hlocks, hnm, hK, hG, hfl⟩ := id hX
  have hown : s.vm.findClass RX9 = some m.cls := hown
  have hfX3 : ∀ w ∈ wsX30, w.before args s = true := fun w h => hts w (List.mem_cons_of_mem _ (List.mem_append_left _ (List.mem_append_left _ (List.mem_append_left _ (List.mem_append_left _ (List.mem_append_left _ (List.mem_append_left _ (List.mem_append_left _ (List.mem_append_left _ (List.mem_append_left _ (List.mem_append_left _ (List.mem_append_right _ h))))))))))))
  have hfX9 : ∀ w ∈ wsX90, w.before args s = true := fun w h => hts w (List.mem_cons_of_mem _ (List.mem_append_left _ (List.mem_append_left _ (List.mem_append_left _ (List.mem_append_left _ (List.mem_append_left _ (List.mem_append_left _ (List.mem_append_left _ (List.mem_append_left _ (List.mem_append_left _ (List.mem_append_left _ (List.mem_append_left _ (List.mem_append_right _ h)))))))))))))
  refine lv_iload_n hx hb dX9_passDays_0 rfl (lv_at hl 1 rfl) ?_
  refine lv_iconst (v := (1)) hx hb dX9_passDays_1 (by decide) ?_
  refine lv_bipush (v := (60)) hx hb dX9_passDays_2 (by decide) ?_
  refine j_goz hI (va_runS (As := [.int x1, .int (1 : Int32), .int (60 : Int32)]) (rest := []) ⟨hx, hb, hml, hown, hts⟩ (kX9_requireWithin l hfl D z x1 (1 : Int32) (60 : Int32) μ H.size _) (va_cwS 3 hts gX9_passDays_X9_requireWithin rfl rfl rfl (by decide +kernel) ⟨Nat.le_of_ble_eq_true rfl, Nat.le_of_ble_eq_true rfl⟩) (j_prS2z hK hG hI hw) rfl rfl hl.1 rfl (lv_room (Nat.le_of_ble_eq_true rfl)) dX9_passDays_4 ⟨by show _ ≤ 0; omega, by show _ ≤ 0; omega⟩) (fun u1 μ2 H locs hw hI => ?_)
  refine W.eq (g2 := F0 m 7 ls []) rfl ?_
  refine j_aload_n (r := (some b)) hx hb dX9_passDays_7 rfl (lv_at hl 0 rfl) ?_
  obtain ⟨v3, hv3, hw⟩ := hw
  refine j_getz (C := RX9) (T := TX9) (N := 1) (ci := 11) (r := (some b)) (v := va_rf v3) hx hb hfX9 hown hK hI rfl 0 (by decide) (hts (.fieldLink RX9 10 "CashPools" "desk" "LCashPools$Desk;") (List.mem_of_getElem? (i := 3) (by decide +kernel))) (fun _ h => h) hv3 dX9_passDays_8 ?_
  obtain ⟨v4, hv4, hw⟩ := hw
  refine j_getz (C := RX3) (T := TX3) (N := 8) (ci := 6) (r := v3) (v := .int v4) hx hb hfX3 hown hK hI rfl 6 (by decide) (hts (.fieldLink RX9 91 "CashPools$Desk" "day" "I") (List.mem_of_getElem? (i := 4) (by decide +kernel))) (fun _ h => h) hv4 dX9_passDays_11 ?_
  refine lv_iload_n hx hb dX9_passDays_14 rfl (lv_at hl 1 rfl) ?_
  refine lv_iadd hx hb dX9_passDays_15 ?_
  refine lv_sipush (v := (400)) hx hb dX9_passDays_16 (by decide) ?_
  refine lv_icmp_le (tgt := 32) hx hb dX9_passDays_19 (by decide) (fun hc => ?_) (fun hc => ?_)
  · have hw := hw.1 hc
    refine lv_iconst (v := (0)) hx hb dX9_passDays_32 (by decide) ?_
    refine lv_topi (fun v5 ev5 => ?_)
    have hw := hw v5 ev5
    refine lv_istore_n (lv' := [(2, .int v5), (0, va_rf (some b)), (1, .int x1)]) hx hb dX9_passDays_33 rfl hl (by decide) rfl (fun ls hl => ?_)
    obtain ⟨n6, hw⟩ := hw
    exact kX9_passDays_34 hX  n6 hw hI (lv_sub hl [1, 2, 0] rfl) (by omega) (by omega)
  · have hw := hw.2 hc
    exact (show False from hw).elim
set_option maxHeartbeats 4000000 in
set_option maxRecDepth 100000 in
theorem kX9_passDays (l : Launch) (hfl : l.stackTraces = false) (D : jD) (z : Nat × Nat) (b : Nat) (x1 : Int32) (μ : jM) (sz : Nat) (Q : Int32 → jM → Prop) : Met l yX9_passDays wsX9_passDays rmX9_passDays (jPre2z D z μ sz [.ref b, .int x1] (wX9_passDays z b x1 μ Q jN)) (jRz jfI Q D z (jA z μ sz)) 0 0 (jA z μ sz) := by
  refine Met.ofW (cc := cX9_passDays) (maxL := 3) (ret := (some .int)) (by decide) rfl ?_
  intro p e s m args below meth c s₁ B hml hv
  obtain ⟨rfl, hsz, hH, hz0, hK, hG, hw⟩ := hv
  subst hsz
  have hX : jX2 D z (jA z μ s.heap.size) p l s m _ meth c yX9_passDays cX9_passDays 3 wsX9_passDays (some .int) := ⟨B.exec, B.bytes, hml, findClass_of_methodNamed B.named, atoms_spec (ws := wsX9_passDays) B.pre, B.returns, B.notSynchronized, (name_of_methodNamed B.named B.method).1, hK, hG, hfl⟩
  obtain ⟨ls, hg, hl⟩ : ∃ ls : Array Slot, entryFrame m ([.ref b, .int x1] : List Value).toArray 3 = F0 m 0 ls [] ∧ lv_has ls 3 [(0, va_rf (some b)), (1, .int x1)] := by
    exact ⟨_, lg_entry_eq .., lv_entry _ (n := 3) (Nat.le_of_ble_eq_true rfl)⟩
  rw [hg]
  exact kX9_passDays_0 hX hw (jIz.start hH hz0) (lv_sub hl [0, 1] rfl) (by decide) (by decide)
end
