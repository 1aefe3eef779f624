section
variable {p : Program} {l : Launch} {e : Env} {s : State} {m : MethodId} {args : Array Value} {below : List Frame} {meth : Method} {c : Code} {D : jD} {z : Nat × Nat} {A : Nat → Prop}
set_option maxHeartbeats 4000000 in
set_option maxRecDepth 100000 in
theorem kX5_accrue_0 {b : Nat} (hX : jX2 D z A p l s m args meth c yX5_accrue cX5_accrue 1 wsX5_accrue none) {Q : Unit → jM → Prop}   {μ : jM} {H : Heap} {locs : List Loc} {ls : Array Slot} {cells slots : Nat} (hw : wX5_accrue_0 z b Q  μ) (hI : jIz D z A s.heap μ H locs) (hl : lv_has ls 1 [(0, va_rf (some b))]) (hcn : cells + 0 ≤ 0) (hsn : slots + 0 ≤ 0) : W p l e rmX5_accrue s m args below meth c H locs cells slots (MQ below (jRz jfV Q D z A) args s 0 0 A) (F0 m 0 ls []) := by
  unfold wX5_accrue_0 at hw
  obtain ⟨hx, hb, hml, hown, hts, hr, hlocks, hnm, hK, hG, hfl⟩ := id hX
  have hown : s.vm.findClass RX5 = some m.cls := hown
  have hfX5 : ∀ w ∈ wsX50, w.before args s = true := fun w h => hts w (List.mem_cons_of_mem _ (List.mem_append_right _ h))
  refine j_aload_n (r := (some b)) hx hb dX5_accrue_0 rfl (lv_at hl 0 rfl) ?_
  refine lv_dup hx hb dX5_accrue_1 rfl ?_
  obtain ⟨v1, hv1, hw⟩ := hw
  refine j_getz (C := RX5) (T := TX5) (N := 9) (ci := 8) (r := (some b)) (v := .long v1) hx hb hfX5 hown hK hI rfl 5 (by decide) (hts (.fieldLink RX5 22 "CashPools$Line" "sum" "J") (List.mem_of_getElem? (i := 1) (by decide +kernel))) (fun _ h => h) hv1 dX5_accrue_2 ?_
  refine j_aload_n (r := (some b)) hx hb dX5_accrue_5 rfl (lv_at hl 0 rfl) ?_
  obtain ⟨v2, hv2, hw⟩ := hw
  refine j_getz (C := RX5) (T := TX5) (N := 9) (ci := 8) (r := (some b)) (v := .long v2) hx hb hfX5 hown hK hI rfl 3 (by decide) (hts (.fieldLink RX5 26 "CashPools$Line" "used" "J") (List.mem_of_getElem? (i := 2) (by decide +kernel))) (fun _ h => h) hv2 dX5_accrue_6 ?_
  refine j_aload_n (r := (some b)) hx hb dX5_accrue_9 rfl (lv_at hl 0 rfl) ?_
  obtain ⟨v3, hv3, hw⟩ := hw
  refine j_getz (C := RX5) (T := TX5) (N := 9) (ci := 8) (r := (some b)) (v := .int v3) hx hb hfX5 hown hK hI rfl 2 (by decide) (hts (.fieldLink RX5 19 "CashPools$Line" "rate" "I") (List.mem_of_getElem? (i := 3) (by decide +kernel))) (fun _ h => h) hv3 dX5_accrue_10 ?_
  refine lv_i2l hx hb dX5_accrue_13 rfl ?_
  refine lv_lmul hx hb dX5_accrue_14 ?_
  refine lv_ladd hx hb dX5_accrue_15 ?_
  obtain ⟨μ4, hμ4, hw⟩ := hw
  refine j_putz (C := RX5) (T := TX5) (N := 9) (ci := 8) (r := (some b)) (v := .long (v1 + (v2 * (Int32.toInt64 v3)))) hx hb hfX5 tyX5 tyX5_ok nmX5 hown hK hI rfl 5 (by decide) (hts (.fieldLink RX5 22 "CashPools$Line" "sum" "J") (List.mem_of_getElem? (i := 1) (by decide +kernel))) (fun _ h => h) rfl (tyX5_ok 5 (by decide)) rfl rfl hμ4 dX5_accrue_16 (fun H locs hI => ?_)
  exact j_vretz hx hb hr hlocks hI hw (by omega) (by omega) dX5_accrue_19
set_option maxHeartbeats 4000000 in
set_option maxRecDepth 100000 in
theorem kX5_accrue (l : Launch) (hfl : l.stackTraces = false) (D : jD) (z : Nat × Nat) (b : Nat)  (μ : jM) (sz : Nat) (Q : Unit → jM → Prop) : Met l yX5_accrue wsX5_accrue rmX5_accrue (jPre2z D z μ sz [.ref b] (wX5_accrue z b  μ Q)) (jRz jfV Q D z (jA z μ sz)) 0 0 (jA z μ sz) := by
  refine Met.ofW (cc := cX5_accrue) (maxL := 1) (ret := none) (by decide) rfl ?_
  intro p e s m args below meth c s₁ B hml hv
  obtain ⟨rfl, hsz, hH, hz0, hK, hG, hw⟩ := hv
  subst hsz
  have hX : jX2 D z (jA z μ s.heap.size) p l s m _ meth c yX5_accrue cX5_accrue 1 wsX5_accrue none := ⟨B.exec, B.bytes, hml, findClass_of_methodNamed B.named, atoms_spec (ws := wsX5_accrue) B.pre, B.returns, B.notSynchronized, (name_of_methodNamed B.named B.method).1, hK, hG, hfl⟩
  obtain ⟨ls, hg, hl⟩ : ∃ ls : Array Slot, entryFrame m ([.ref b] : List Value).toArray 1 = F0 m 0 ls [] ∧ lv_has ls 1 [(0, va_rf (some b))] := by
    exact ⟨_, lg_entry_eq .., lv_entry _ (n := 1) (Nat.le_of_ble_eq_true rfl)⟩
  rw [hg]
  exact kX5_accrue_0 hX hw (jIz.start hH hz0) (lv_sub hl [0] rfl) (by decide) (by decide)
set_option maxHeartbeats 4000000 in
set_option maxRecDepth 100000 in
theorem kX3_accrueInterest_38 {b : Nat} (hX : jX2 D z A p l s m args meth c yX3_accrueInterest cX3_accrueInterest 2 wsX3_accrueInterest none) {Q : Unit → jM → Prop}  (n : Nat) : ∀ {x1 : Int32} {μ : jM} {H : Heap} {locs : List Loc} {ls : Array Slot} {cells slots : Nat}, wX3_accrueInterest_38 z b Q n x1 μ → jIz D z A s.heap μ H locs → lv_has ls 2 [(0, va_rf (some b)), (1, .int x1)] → cells + 0 ≤ 0 → slots + 0 ≤ 0 → W p l e rmX3_accrueInterest s m args below meth c H locs cells slots (MQ below (jRz jfV Q D z A) args s 0 0 A) (F0 m 38 ls []) := by
  induction n with
  | zero =>
    intros
    rename_i hw _ _ _ _
    exact (show False from hw).elim
  | succ n ih =>
    intro x1 μ H locs ls cells slots hw hI hl hcn hsn
    have hw : wX3_accrueInterest_38_b z b Q (wX3_accrueInterest_38 z b Q n) x1 μ := hw
    unfold wX3_accrueInterest_38_b at hw
    obtain ⟨hx, hb, hml, hown, hts, hr, hlocks, hnm, hK, hG, hfl⟩ := id hX
    have hown : s.vm.findClass RX3 = some m.cls := hown
    have hfX3 : ∀ w ∈ wsX30, w.before args s = true := fun w h => hts w (List.mem_cons_of_mem _ (List.mem_append_left _ (List.mem_append_left _ (List.mem_append_left _ (List.mem_append_left _ (List.mem_append_left _ (List.mem_append_right _ h)))))))
    refine lv_iload_n hx hb dX3_accrueInterest_38 rfl (lv_at hl 1 rfl) ?_
    refine j_aload_n (r := (some b)) hx hb dX3_accrueInterest_39 rfl (lv_at hl 0 rfl) ?_
    obtain ⟨v1, hv1, hw⟩ := hw
    refine j_getz (C := RX3) (T := TX3) (N := 8) (ci := 6) (r := (some b)) (v := va_rf v1) hx hb hfX3 hown hK hI rfl 2 (by decide) (hts (.fieldLink RX3 21 "CashPools$Desk" "everyLine" "Ljava/util/ArrayList;") (List.mem_of_getElem? (i := 4) (by decide +kernel))) (fun _ h => h) hv1 dX3_accrueInterest_40 ?_
    obtain ⟨b4, ⟨hrb4, hfs⟩, hw⟩ := hw
    refine j_goz hI (va_runV (As := []) (rest := [.int x1]) ⟨hx, hb, hml, hown, hts⟩ (kJx4a65c_size_8abf5 l hfl D z b4  μ H.size _) (cwV 0 hts gX3_accrueInterest_Jx4a65c_size_8abf5 rfl rfl rfl (by decide +kernel) ⟨Nat.le_of_ble_eq_true rfl, Nat.le_of_ble_eq_true rfl⟩) (j_prV2z hK hG hI hw (ci := 2) rfl hfs) rfl rfl hl.1 (by rw [hrb4]; rfl) (lv_room (Nat.le_of_ble_eq_true rfl)) dX3_accrueInterest_43 ⟨by show _ ≤ 0; omega, by show _ ≤ 0; omega⟩) (fun v2 μ3 H locs hw hI => ?_)
    refine W.eq (g2 := F0 m 46 ls [.int v2, .int x1]) rfl ?_
    refine lv_icmp_ge (tgt := 69) hx hb dX3_accrueInterest_46 (by decide) (fun hc => ?_) (fun hc => ?_)
    · have hw := hw.1 hc
      exact j_vretz hx hb hr hlocks hI hw (by omega) (by omega) dX3_accrueInterest_69
    · have hw := hw.2 hc
      refine j_aload_n (r := (some b)) hx hb dX3_accrueInterest_49 rfl (lv_at hl 0 rfl) ?_
      obtain ⟨v5, hv5, hw⟩ := hw
      refine j_getz (C := RX3) (T := TX3) (N := 8) (ci := 6) (r := (some b)) (v := va_rf v5) hx hb hfX3 hown hK hI rfl 2 (by decide) (hts (.fieldLink RX3 21 "CashPools$Desk" "everyLine" "Ljava/util/ArrayList;") (List.mem_of_getElem? (i := 4) (by decide +kernel))) (fun _ h => h) hv5 dX3_accrueInterest_50 ?_
      refine lv_iload_n hx hb dX3_accrueInterest_53 rfl (lv_at hl 1 rfl) ?_
      obtain ⟨b8, ⟨hrb8, hfs⟩, hw⟩ := hw
      refine j_goz hI (va_runV (As := [.int x1]) (rest := []) ⟨hx, hb, hml, hown, hts⟩ (kJx4a65c_get_915e3 l hfl D z b8 x1 μ3 H.size _) (cwV 1 hts gX3_accrueInterest_Jx4a65c_get_915e3 rfl rfl rfl (by decide +kernel) ⟨Nat.le_of_ble_eq_true rfl, Nat.le_of_ble_eq_true rfl⟩) (j_prV2z hK hG hI hw (ci := 2) rfl hfs) rfl rfl hl.1 (by rw [hrb8]; rfl) (lv_room (Nat.le_of_ble_eq_true rfl)) dX3_accrueInterest_54 ⟨by show _ ≤ 0; omega, by show _ ≤ 0; omega⟩) (fun v6 μ7 H locs hw hI => ?_)
      refine W.eq (g2 := F0 m 57 ls [va_rf v6]) rfl ?_
      obtain ⟨h9, hw⟩ := hw
      refine j_castz (C := RX5) (T := TX5) (N := 9) (ci := 8) (r := v6) hx hb hown (hts (.classLink RX3 74 "CashPools$Line") (List.mem_of_getElem? (i := 5) (by decide +kernel))) hK hI rfl h9 dX3_accrueInterest_57 ?_
      obtain ⟨b12, ⟨hrb12, hfs⟩, hw⟩ := hw
      refine j_goz hI (va_runV (As := []) (rest := []) ⟨hx, hb, hml, hown, hts⟩ (kX5_accrue l hfl D z b12  μ7 H.size _) (cwV 0 hts gX3_accrueInterest_X5_accrue rfl rfl rfl (by decide +kernel) ⟨Nat.le_of_ble_eq_true rfl, Nat.le_of_ble_eq_true rfl⟩) (j_prV2z hK hG hI hw (ci := 8) rfl hfs) rfl rfl hl.1 (by rw [hrb12]; rfl) (lv_room (Nat.le_of_ble_eq_true rfl)) dX3_accrueInterest_60 ⟨by show _ ≤ 0; omega, by show _ ≤ 0; omega⟩) (fun u10 μ11 H locs hw hI => ?_)
      refine W.eq (g2 := F0 m 63 ls []) rfl ?_
      obtain ⟨v13, ev13⟩ : ∃ y : Int32, y = x1 + (1 : Int32) := ⟨_, rfl⟩
      have hw := hw v13 ev13
      refine lv_iinc (v := v13) (lv' := [(1, .int v13), (0, va_rf (some b))]) hx hb dX3_accrueInterest_63 hl (k := 1) rfl (by rw [ev13]; rfl) (by decide) rfl (fun ls hl => ?_)
      refine lv_goto (tgt := 38) hx hb dX3_accrueInterest_66 (by decide) ?_
      exact ih hw hI (lv_sub hl [1, 0] rfl) (by omega) (by omega)
set_option maxHeartbeats 4000000 in
set_option maxRecDepth 100000 in
theorem kX3_accrueInterest_2 {b : Nat} (hX : jX2 D z A p l s m args meth c yX3_accrueInterest cX3_accrueInterest 2 wsX3_accrueInterest none) {Q : Unit → jM → Prop}  (n : Nat) : ∀ {x1 : Int32} {μ : jM} {H : Heap} {locs : List Loc} {ls : Array Slot} {cells slots : Nat}, wX3_accrueInterest_2 z b Q n x1 μ → jIz D z A s.heap μ H locs → lv_has ls 2 [(0, va_rf (some b)), (1, .int x1)] → cells + 0 ≤ 0 → slots + 0 ≤ 0 → W p l e rmX3_accrueInterest s m args below meth c H locs cells slots (MQ below (jRz jfV Q D z A) args s 0 0 A) (F0 m 2 ls []) := by
  induction n with
  | zero =>
    intros
    rename_i hw _ _ _ _
    exact (show False from hw).elim
  | succ n ih =>
    intro x1 μ H locs ls cells slots hw hI hl hcn hsn
    have hw : wX3_accrueInterest_2_b z b Q (wX3_accrueInterest_2 z b Q n) x1 μ := hw
    unfold wX3_accrueInterest_2_b at hw
    obtain ⟨hx, hb, hml, hown, hts, hr, hlocks, hnm, hK, hG, hfl⟩ := id hX
    have hown : s.vm.findClass RX3 = some m.cls := hown
    have hfX0 : ∀ w ∈ wsX00, w.before args s = true := fun w h => hts w (List.mem_cons_of_mem _ (List.mem_append_left _ (List.mem_append_left _ (List.mem_append_left _ (List.mem_append_left _ (List.mem_append_right _ h))))))
    have hfX3 : ∀ w ∈ wsX30, w.before args s = true := fun w h => hts w (List.mem_cons_of_mem _ (List.mem_append_left _ (List.mem_append_left _ (List.mem_append_left _ (List.mem_append_left _ (List.mem_append_left _ (List.mem_append_right _ h)))))))
    refine lv_iload_n hx hb dX3_accrueInterest_2 rfl (lv_at hl 1 rfl) ?_
    refine j_aload_n (r := (some b)) hx hb dX3_accrueInterest_3 rfl (lv_at hl 0 rfl) ?_
    obtain ⟨v1, hv1, hw⟩ := hw
    refine j_getz (C := RX3) (T := TX3) (N := 8) (ci := 6) (r := (some b)) (v := va_rf v1) hx hb hfX3 hown hK hI rfl 1 (by decide) (hts (.fieldLink RX3 18 "CashPools$Desk" "tops" "Ljava/util/ArrayList;") (List.mem_of_getElem? (i := 1) (by decide +kernel))) (fun _ h => h) hv1 dX3_accrueInterest_4 ?_
    obtain ⟨b4, ⟨hrb4, hfs⟩, hw⟩ := hw
    refine j_goz hI (va_runV (As := []) (rest := [.int x1]) ⟨hx, hb, hml, hown, hts⟩ (kJx4a65c_size_8abf5 l hfl D z b4  μ H.size _) (cwV 0 hts gX3_accrueInterest_Jx4a65c_size_8abf5 rfl rfl rfl (by decide +kernel) ⟨Nat.le_of_ble_eq_true rfl, Nat.le_of_ble_eq_true rfl⟩) (j_prV2z hK hG hI hw (ci := 2) rfl hfs) rfl rfl hl.1 (by rw [hrb4]; rfl) (lv_room (Nat.le_of_ble_eq_true rfl)) dX3_accrueInterest_7 ⟨by show _ ≤ 0; omega, by show _ ≤ 0; omega⟩) (fun v2 μ3 H locs hw hI => ?_)
    refine W.eq (g2 := F0 m 10 ls [.int v2, .int x1]) rfl ?_
    refine lv_icmp_ge (tgt := 36) hx hb dX3_accrueInterest_10 (by decide) (fun hc => ?_) (fun hc => ?_)
    · have hw := hw.1 hc
      refine lv_iconst (v := (0)) hx hb dX3_accrueInterest_36 (by decide) ?_
      refine lv_topi (fun v5 ev5 => ?_)
      have hw := hw v5 ev5
      refine lv_istore_n (lv' := [(1, .int v5), (0, va_rf (some b))]) hx hb dX3_accrueInterest_37 rfl hl (by decide) rfl (fun ls hl => ?_)
      obtain ⟨n6, hw⟩ := hw
      exact kX3_accrueInterest_38 hX  n6 hw hI (lv_sub hl [1, 0] rfl) (by omega) (by omega)
    · have hw := hw.2 hc
      refine j_aload_n (r := (some b)) hx hb dX3_accrueInterest_13 rfl (lv_at hl 0 rfl) ?_
      obtain ⟨v7, hv7, hw⟩ := hw
      refine j_getz (C := RX3) (T := TX3) (N := 8) (ci := 6) (r := (some b)) (v := va_rf v7) hx hb hfX3 hown hK hI rfl 1 (by decide) (hts (.fieldLink RX3 18 "CashPools$Desk" "tops" "Ljava/util/ArrayList;") (List.mem_of_getElem? (i := 1) (by decide +kernel))) (fun _ h => h) hv7 dX3_accrueInterest_14 ?_
      refine lv_iload_n hx hb dX3_accrueInterest_17 rfl (lv_at hl 1 rfl) ?_
      obtain ⟨b10, ⟨hrb10, hfs⟩, hw⟩ := hw
      refine j_goz hI (va_runV (As := [.int x1]) (rest := []) ⟨hx, hb, hml, hown, hts⟩ (kJx4a65c_get_915e3 l hfl D z b10 x1 μ3 H.size _) (cwV 1 hts gX3_accrueInterest_Jx4a65c_get_915e3 rfl rfl rfl (by decide +kernel) ⟨Nat.le_of_ble_eq_true rfl, Nat.le_of_ble_eq_true rfl⟩) (j_prV2z hK hG hI hw (ci := 2) rfl hfs) rfl rfl hl.1 (by rw [hrb10]; rfl) (lv_room (Nat.le_of_ble_eq_true rfl)) dX3_accrueInterest_18 ⟨by show _ ≤ 0; omega, by show _ ≤ 0; omega⟩) (fun v8 μ9 H locs hw hI => ?_)
      refine W.eq (g2 := F0 m 21 ls [va_rf v8]) rfl ?_
      obtain ⟨h11, hw⟩ := hw
      refine j_castz (C := RX0) (T := TX0) (N := 12) (ci := 3) (r := v8) hx hb hown (hts (.classLink RX3 55 "CashPools$Account") (List.mem_of_getElem? (i := 2) (by decide +kernel))) hK hI rfl h11 dX3_accrueInterest_21 ?_
      obtain ⟨v12, hv12, hw⟩ := hw
      refine j_getz (C := RX0) (T := TX0) (N := 12) (ci := 3) (r := v8) (v := va_rf v12) hx hb hfX0 hown hK hI rfl 2 (by decide) (hts (.fieldLink RX3 64 "CashPools$Account" "pool" "LCashPools$Pool;") (List.mem_of_getElem? (i := 3) (by decide +kernel))) (fun _ h => h) hv12 dX3_accrueInterest_24 ?_
      obtain ⟨b15, ⟨hrb15, hfs⟩, hw⟩ := hw
      refine j_goz hI (va_runV (As := []) (rest := []) ⟨hx, hb, hml, hown, hts⟩ (kX6_accrue l hfl D z b15  μ9 H.size _) (cwV 0 hts gX3_accrueInterest_X6_accrue rfl rfl rfl (by decide +kernel) ⟨Nat.le_of_ble_eq_true rfl, Nat.le_of_ble_eq_true rfl⟩) (j_prV2z hK hG hI hw (ci := 9) rfl hfs) rfl rfl hl.1 (by rw [hrb15]; rfl) (lv_room (Nat.le_of_ble_eq_true rfl)) dX3_accrueInterest_27 ⟨by show _ ≤ 0; omega, by show _ ≤ 0; omega⟩) (fun u13 μ14 H locs hw hI => ?_)
      refine W.eq (g2 := F0 m 30 ls []) rfl ?_
      obtain ⟨v16, ev16⟩ : ∃ y : Int32, y = x1 + (1 : Int32) := ⟨_, rfl⟩
      have hw := hw v16 ev16
      refine lv_iinc (v := v16) (lv' := [(1, .int v16), (0, va_rf (some b))]) hx hb dX3_accrueInterest_30 hl (k := 1) rfl (by rw [ev16]; rfl) (by decide) rfl (fun ls hl => ?_)
      refine lv_goto (tgt := 2) hx hb dX3_accrueInterest_33 (by decide) ?_
      exact ih hw hI (lv_sub hl [1, 0] rfl) (by omega) (by omega)
set_option maxHeartbeats 4000000 in
set_option maxRecDepth 100000 in
theorem kX3_accrueInterest_0 {b : Nat} (hX : jX2 D z A p l s m args meth c yX3_accrueInterest cX3_accrueInterest 2 wsX3_accrueInterest none) {Q : Unit → jM → Prop}   {μ : jM} {H : Heap} {locs : List Loc} {ls : Array Slot} {cells slots : Nat} (hw : wX3_accrueInterest_0 z b Q  μ) (hI : jIz D z A s.heap μ H locs) (hl : lv_has ls 2 [(0, va_rf (some b))]) (hcn : cells + 0 ≤ 0) (hsn : slots + 0 ≤ 0) : W p l e rmX3_accrueInterest s m args below meth c H locs cells slots (MQ below (jRz jfV Q D z A) args s 0 0 A) (F0 m 0 ls []) := by
  unfold wX3_accrueInterest_0 at hw
  obtain ⟨hx, hb, hml, hown, hts, hr, hlocks, hnm, hK, hG, hfl⟩ := id hX
  have hown : s.vm.findClass RX3 = some m.cls := hown
  refine lv_iconst (v := (0)) hx hb dX3_accrueInterest_0 (by decide) ?_
  refine lv_topi (fun v1 ev1 => ?_)
  have hw := hw v1 ev1
  refine lv_istore_n (lv' := [(1, .int v1), (0, va_rf (some b))]) hx hb dX3_accrueInterest_1 rfl hl (by decide) rfl (fun ls hl => ?_)
  obtain ⟨n2, hw⟩ := hw
  exact kX3_accrueInterest_2 hX  n2 hw hI (lv_sub hl [1, 0] rfl) (by omega) (by omega)
set_option maxHeartbeats 4000000 in
set_option maxRecDepth 100000 in
theorem kX3_accrueInterest (l : Launch) (hfl : l.stackTraces = false) (D : jD) (z : Nat × Nat) (b : Nat)  (μ : jM) (sz : Nat) (Q : Unit → jM → Prop) : Met l yX3_accrueInterest wsX3_accrueInterest rmX3_accrueInterest (jPre2z D z μ sz [.ref b] (wX3_accrueInterest z b  μ Q)) (jRz jfV Q D z (jA z μ sz)) 0 0 (jA z μ sz) := by
  refine Met.ofW (cc := cX3_accrueInterest) (maxL := 2) (ret := none) (by decide) rfl ?_
  intro p e s m args below meth c s₁ B hml hv
  obtain ⟨rfl, hsz, hH, hz0, hK, hG, hw⟩ := hv
  subst hsz
  have hX : jX2 D z (jA z μ s.heap.size) p l s m _ meth c yX3_accrueInterest cX3_accrueInterest 2 wsX3_accrueInterest none := ⟨B.exec, B.bytes, hml, findClass_of_methodNamed B.named, atoms_spec (ws := wsX3_accrueInterest) B.pre, B.returns, B.notSynchronized, (name_of_methodNamed B.named B.method).1, hK, hG, hfl⟩
  obtain ⟨ls, hg, hl⟩ : ∃ ls : Array Slot, entryFrame m ([.ref b] : List Value).toArray 2 = F0 m 0 ls [] ∧ lv_has ls 2 [(0, va_rf (some b))] := by
    exact ⟨_, lg_entry_eq .., lv_entry _ (n := 2) (Nat.le_of_ble_eq_true rfl)⟩
  rw [hg]
  exact kX3_accrueInterest_0 hX hw (jIz.start hH hz0) (lv_sub hl [0] rfl) (by decide) (by decide)
set_option maxHeartbeats 4000000 in
set_option maxRecDepth 100000 in
theorem kX7_giveCents_24 {b : Nat} (hX : jX2 D z A p l s m args meth c yX7_giveCents cX7_giveCents 6 wsX7_giveCents none) {Q : Unit → jM → Prop} {K2 : Int64 → Int32 → jM → Prop} (hK2 : ∀ {x1 : Int64} {x3 : Int32} {μ : jM} {H : Heap} {locs : List Loc} {ls : Array Slot} {cells slots : Nat}, K2 x1 x3 μ → jIz D z A s.heap μ H locs → lv_has ls 6 [(0, va_rf (some b)), (1, .long x1), (3, .int x3)] → cells + 0 ≤ 0 → slots + 0 ≤ 0 → W p l e rmX7_giveCents s m args below meth c H locs cells slots (MQ below (jRz jfV Q D z A) args s 0 0 A) (F0 m 2 ls [])) (n : Nat) : ∀ {x1 : Int64} {x3 : Int32} {x4 : Int32} {x5 : Int32} {μ : jM} {H : Heap} {locs : List Loc} {ls : Array Slot} {cells slots : Nat}, wX7_giveCents_24 z b K2 Q n x1 x3 x4 x5 μ → jIz D z A s.heap μ H locs → lv_has ls 6 [(0, va_rf (some b)), (1, .long x1), (3, .int x3), (4, .int x4), (5, .int x5)] → cells + 0 ≤ 0 → slots + 0 ≤ 0 → W p l e rmX7_giveCents s m args below meth c H locs cells slots (MQ below (jRz jfV Q D z A) args s 0 0 A) (F0 m 24 ls []) := by
  induction n with
  | zero =>
    intros
    rename_i hw _ _ _ _
    exact (show False from hw).elim
  | succ n ih =>
    intro x1 x3 x4 x5 μ H locs ls cells slots hw hI hl hcn hsn
    have hw : wX7_giveCents_24_b z b K2 Q (wX7_giveCents_24 z b K2 Q n) x1 x3 x4 x5 μ := hw
    unfold wX7_giveCents_24_b at hw
    obtain ⟨hx, hb, hml, hown, hts, hr, hlocks, hnm, hK, hG, hfl⟩ := id hX
    have hown : s.vm.findClass RX7 = some m.cls := hown
    have hfX7 : ∀ w ∈ wsX70, w.before args s = true := fun w h => hts w (List.mem_cons_of_mem _ (List.mem_append_right _ h))
    refine lv_iload hx hb dX7_giveCents_24 (lv_at hl 4 rfl) ?_
    refine j_aload_n (r := (some b)) hx hb dX7_giveCents_26 rfl (lv_at hl 0 rfl) ?_
    obtain ⟨v1, hv1, hw⟩ := hw
    refine j_getz (C := RX7) (T := TX7) (N := 10) (ci := 10) (r := (some b)) (v := va_rf v1) hx hb hfX7 hown hK hI rfl 6 (by decide) (hts (.fieldLink RX7 18 "CashPools$Side" "remainders" "[J") (List.mem_of_getElem? (i := 2) (by decide +kernel))) (fun _ h => h) hv1 dX7_giveCents_27 ?_
    obtain ⟨v2, hv2, hw⟩ := hw
    refine j_alenz (r := v1) hx hb hK hI hv2 dX7_giveCents_30 ?_
    refine lv_icmp_ge (tgt := 62) hx hb dX7_giveCents_31 (by decide) (fun hc => ?_) (fun hc => ?_)
    · have hw := hw.1 hc
      refine j_aload_n (r := (some b)) hx hb dX7_giveCents_62 rfl (lv_at hl 0 rfl) ?_
      obtain ⟨v3, hv3, hw⟩ := hw
      refine j_getz (C := RX7) (T := TX7) (N := 10) (ci := 10) (r := (some b)) (v := va_rf v3) hx hb hfX7 hown hK hI rfl 5 (by decide) (hts (.fieldLink RX7 15 "CashPools$Side" "shares" "[J") (List.mem_of_getElem? (i := 1) (by decide +kernel))) (fun _ h => h) hv3 dX7_giveCents_63 ?_
      refine lv_iload hx hb dX7_giveCents_66 (lv_at hl 3 rfl) ?_
      refine lv_dup2_11 hx hb dX7_giveCents_68 rfl (jrc v3) ?_
      obtain ⟨v4, hv4, hw⟩ := hw
      refine j_laldz (r := v3) hx hb hK hI hv4 dX7_giveCents_69 ?_
      refine lv_lconst (v := (1)) hx hb dX7_giveCents_70 (by decide) ?_
      refine lv_ladd hx hb dX7_giveCents_71 ?_
      obtain ⟨μ5, hμ5, hw⟩ := hw
      refine j_lastz (r := v3) hx hb hK hI hμ5 dX7_giveCents_72 (fun H locs hI => ?_)
      refine j_aload_n (r := (some b)) hx hb dX7_giveCents_73 rfl (lv_at hl 0 rfl) ?_
      obtain ⟨v6, hv6, hw⟩ := hw
      refine j_getz (C := RX7) (T := TX7) (N := 10) (ci := 10) (r := (some b)) (v := va_rf v6) hx hb hfX7 hown hK hI rfl 6 (by decide) (hts (.fieldLink RX7 18 "CashPools$Side" "remainders" "[J") (List.mem_of_getElem? (i := 2) (by decide +kernel))) (fun _ h => h) hv6 dX7_giveCents_74 ?_
      refine lv_iload hx hb dX7_giveCents_77 (lv_at hl 3 rfl) ?_
      refine lv_ldc2 (v := (-1)) hx hb hown (hts (.constantLong RX7 71 (-1)) (List.mem_of_getElem? (i := 3) (by decide +kernel))) dX7_giveCents_79 ?_
      obtain ⟨μ7, hμ7, hw⟩ := hw
      refine j_lastz (r := v6) hx hb hK hI hμ7 dX7_giveCents_82 (fun H locs hI => ?_)
      obtain ⟨v8, ev8⟩ : ∃ y : Int32, y = x3 + (1 : Int32) := ⟨_, rfl⟩
      have hw := hw v8 ev8
      refine lv_iinc (v := v8) (lv' := [(3, .int v8), (0, va_rf (some b)), (1, .long x1), (4, .int x4), (5, .int x5)]) hx hb dX7_giveCents_83 hl (k := 2) rfl (by rw [ev8]; rfl) (by decide) rfl (fun ls hl => ?_)
      refine lv_goto (tgt := 2) hx hb dX7_giveCents_86 (by decide) ?_
      exact hK2 hw hI (lv_sub hl [1, 2, 0] rfl) (by omega) (by omega)
    · have hw := hw.2 hc
      refine j_aload_n (r := (some b)) hx hb dX7_giveCents_34 rfl (lv_at hl 0 rfl) ?_
      obtain ⟨v9, hv9, hw⟩ := hw
      refine j_getz (C := RX7) (T := TX7) (N := 10) (ci := 10) (r := (some b)) (v := va_rf v9) hx hb hfX7 hown hK hI rfl 6 (by decide) (hts (.fieldLink RX7 18 "CashPools$Side" "remainders" "[J") (List.mem_of_getElem? (i := 2) (by decide +kernel))) (fun _ h => h) hv9 dX7_giveCents_35 ?_
      refine lv_iload hx hb dX7_giveCents_38 (lv_at hl 4 rfl) ?_
      obtain ⟨v10, hv10, hw⟩ := hw
      refine j_laldz (r := v9) hx hb hK hI hv10 dX7_giveCents_40 ?_
      refine j_aload_n (r := (some b)) hx hb dX7_giveCents_41 rfl (lv_at hl 0 rfl) ?_
      obtain ⟨v11, hv11, hw⟩ := hw
      refine j_getz (C := RX7) (T := TX7) (N := 10) (ci := 10) (r := (some b)) (v := va_rf v11) hx hb hfX7 hown hK hI rfl 6 (by decide) (hts (.fieldLink RX7 18 "CashPools$Side" "remainders" "[J") (List.mem_of_getElem? (i := 2) (by decide +kernel))) (fun _ h => h) hv11 dX7_giveCents_42 ?_
      refine lv_iload hx hb dX7_giveCents_45 (lv_at hl 3 rfl) ?_
      obtain ⟨v12, hv12, hw⟩ := hw
      refine j_laldz (r := v11) hx hb hK hI hv12 dX7_giveCents_47 ?_
      refine j_lcmp_le (tgt := 56) hx hb dX7_giveCents_48 dX7_giveCents_49 (by decide) (fun hc => ?_) (fun hc => ?_)
      · have hw := hw.1 hc
        obtain ⟨v13, ev13⟩ : ∃ y : Int32, y = x5 + (1 : Int32) := ⟨_, rfl⟩
        have hw := hw v13 ev13
        refine lv_iinc (v := v13) (lv' := [(5, .int v13), (0, va_rf (some b)), (1, .long x1), (3, .int x3), (4, .int x4)]) hx hb dX7_giveCents_56 hl (k := 4) rfl (by rw [ev13]; rfl) (by decide) rfl (fun ls hl => ?_)
        refine lv_goto (tgt := 24) hx hb dX7_giveCents_59 (by decide) ?_
        exact ih hw hI (lv_sub hl [1, 2, 3, 4, 0] rfl) (by omega) (by omega)
      · have hw := hw.2 hc
        refine lv_iload hx hb dX7_giveCents_52 (lv_at hl 4 rfl) ?_
        refine lv_istore (lv' := [(4, .int x5), (0, va_rf (some b)), (1, .long x1), (3, .int x3), (5, .int x5)]) hx hb dX7_giveCents_54 hl (by decide) rfl (fun ls hl => ?_)
        obtain ⟨v14, ev14⟩ : ∃ y : Int32, y = x5 + (1 : Int32) := ⟨_, rfl⟩
        have hw := hw v14 ev14
        refine lv_iinc (v := v14) (lv' := [(5, .int v14), (4, .int x5), (0, va_rf (some b)), (1, .long x1), (3, .int x3)]) hx hb dX7_giveCents_56 hl (k := 4) rfl (by rw [ev14]; rfl) (by decide) rfl (fun ls hl => ?_)
        refine lv_goto (tgt := 24) hx hb dX7_giveCents_59 (by decide) ?_
        exact ih hw hI (lv_sub hl [2, 3, 4, 1, 0] rfl) (by omega) (by omega)
set_option maxHeartbeats 4000000 in
set_option maxRecDepth 100000 in
theorem kX7_giveCents_2 {b : Nat} (hX : jX2 D z A p l s m args meth c yX7_giveCents cX7_giveCents 6 wsX7_giveCents none) {Q : Unit → jM → Prop}  (n : Nat) : ∀ {x1 : Int64} {x3 : Int32} {μ : jM} {H : Heap} {locs : List Loc} {ls : Array Slot} {cells slots : Nat}, wX7_giveCents_2 z b Q n x1 x3 μ → jIz D z A s.heap μ H locs → lv_has ls 6 [(0, va_rf (some b)), (1, .long x1), (3, .int x3)] → cells + 0 ≤ 0 → slots + 0 ≤ 0 → W p l e rmX7_giveCents s m args below meth c H locs cells slots (MQ below (jRz jfV Q D z A) args s 0 0 A) (F0 m 2 ls []) := by
  induction n with
  | zero =>
    intros
    rename_i hw _ _ _ _
    exact (show False from hw).elim
  | succ n ih =>
    intro x1 x3 μ H locs ls cells slots hw hI hl hcn hsn
    have hw : wX7_giveCents_2_b z b Q (wX7_giveCents_2 z b Q n) x1 x3 μ := hw
    unfold wX7_giveCents_2_b at hw
    obtain ⟨hx, hb, hml, hown, hts, hr, hlocks, hnm, hK, hG, hfl⟩ := id hX
    have hown : s.vm.findClass RX7 = some m.cls := hown
    have hfX7 : ∀ w ∈ wsX70, w.before args s = true := fun w h => hts w (List.mem_cons_of_mem _ (List.mem_append_right _ h))
    refine lv_iload_n hx hb dX7_giveCents_2 rfl (lv_at hl 2 rfl) ?_
    refine lv_i2l hx hb dX7_giveCents_3 rfl ?_
    refine lv_lload_n hx hb dX7_giveCents_4 rfl (lv_at hl 1 rfl) ?_
    refine j_lcmp_ge (tgt := 89) hx hb dX7_giveCents_5 dX7_giveCents_6 (by decide) (fun hc => ?_) (fun hc => ?_)
    · have hw := hw.1 hc
      exact j_vretz hx hb hr hlocks hI hw (by omega) (by omega) dX7_giveCents_89
    · have hw := hw.2 hc
      refine lv_iload_n hx hb dX7_giveCents_9 rfl (lv_at hl 2 rfl) ?_
      refine j_aload_n (r := (some b)) hx hb dX7_giveCents_10 rfl (lv_at hl 0 rfl) ?_
      obtain ⟨v1, hv1, hw⟩ := hw
      refine j_getz (C := RX7) (T := TX7) (N := 10) (ci := 10) (r := (some b)) (v := va_rf v1) hx hb hfX7 hown hK hI rfl 5 (by decide) (hts (.fieldLink RX7 15 "CashPools$Side" "shares" "[J") (List.mem_of_getElem? (i := 1) (by decide +kernel))) (fun _ h => h) hv1 dX7_giveCents_11 ?_
      obtain ⟨v2, hv2, hw⟩ := hw
      refine j_alenz (r := v1) hx hb hK hI hv2 dX7_giveCents_14 ?_
      refine lv_icmp_ge (tgt := 89) hx hb dX7_giveCents_15 (by decide) (fun hc => ?_) (fun hc => ?_)
      · have hw := hw.1 hc
        exact j_vretz hx hb hr hlocks hI hw (by omega) (by omega) dX7_giveCents_89
      · have hw := hw.2 hc
        refine lv_iconst (v := (0)) hx hb dX7_giveCents_18 (by decide) ?_
        refine lv_topi (fun v3 ev3 => ?_)
        have hw := hw v3 ev3
        refine lv_istore (lv' := [(4, .int v3), (0, va_rf (some b)), (1, .long x1), (3, .int x3)]) hx hb dX7_giveCents_19 hl (by decide) rfl (fun ls hl => ?_)
        refine lv_iconst (v := (1)) hx hb dX7_giveCents_21 (by decide) ?_
        refine lv_topi (fun v4 ev4 => ?_)
        have hw := hw v4 ev4
        refine lv_istore (lv' := [(5, .int v4), (4, .int v3), (0, va_rf (some b)), (1, .long x1), (3, .int x3)]) hx hb dX7_giveCents_22 hl (by decide) rfl (fun ls hl => ?_)
        obtain ⟨n5, hw⟩ := hw
        exact kX7_giveCents_24 hX ih n5 hw hI (lv_sub hl [2, 3, 4, 1, 0] rfl) (by omega) (by omega)
set_option maxHeartbeats 4000000 in
set_option maxRecDepth 100000 in
theorem kX7_giveCents_0 {b : Nat} (hX : jX2 D z A p l s m args meth c yX7_giveCents cX7_giveCents 6 wsX7_giveCents none) {Q : Unit → jM → Prop}  {x1 : Int64} {μ : jM} {H : Heap} {locs : List Loc} {ls : Array Slot} {cells slots : Nat} (hw : wX7_giveCents_0 z b Q x1 μ) (hI : jIz D z A s.heap μ H locs) (hl : lv_has ls 6 [(0, va_rf (some b)), (1, .long x1)]) (hcn : cells + 0 ≤ 0) (hsn : slots + 0 ≤ 0) : W p l e rmX7_giveCents s m args below meth c H locs cells slots (MQ below (jRz jfV Q D z A) args s 0 0 A) (F0 m 0 ls []) := by
  unfold wX7_giveCents_0 at hw
  obtain ⟨hx, hb, hml, hown, hts, hr, hlocks, hnm, hK, hG, hfl⟩ := id hX
  have hown : s.vm.findClass RX7 = some m.cls := hown
  refine lv_iconst (v := (0)) hx hb dX7_giveCents_0 (by decide) ?_
  refine lv_topi (fun v1 ev1 => ?_)
  have hw := hw v1 ev1
  refine lv_istore_n (lv' := [(3, .int v1), (0, va_rf (some b)), (1, .long x1)]) hx hb dX7_giveCents_1 rfl hl (by decide) rfl (fun ls hl => ?_)
  obtain ⟨n2, hw⟩ := hw
  exact kX7_giveCents_2 hX  n2 hw hI (lv_sub hl [1, 2, 0] rfl) (by omega) (by omega)
set_option maxHeartbeats 4000000 in
set_option maxRecDepth 100000 in
theorem kX7_giveCents (l : Launch) (hfl : l.stackTraces = false) (D : jD) (z : Nat × Nat) (b : Nat) (x1 : Int64) (μ : jM) (sz : Nat) (Q : Unit → jM → Prop) : Met l yX7_giveCents wsX7_giveCents rmX7_giveCents (jPre2z D z μ sz [.ref b, .long x1] (wX7_giveCents z b x1 μ Q)) (jRz jfV Q D z (jA z μ sz)) 0 0 (jA z μ sz) := by
  refine Met.ofW (cc := cX7_giveCents) (maxL := 6) (ret := none) (by decide) rfl ?_
  intro p e s m args below meth c s₁ B hml hv
  obtain ⟨rfl, hsz, hH, hz0, hK, hG, hw⟩ := hv
  subst hsz
  have hX : jX2 D z (jA z μ s.heap.size) p l s m _ meth c yX7_giveCents cX7_giveCents 6 wsX7_giveCents none := ⟨B.exec, B.bytes, hml, findClass_of_methodNamed B.named, atoms_spec (ws := wsX7_giveCents) B.pre, B.returns, B.notSynchronized, (name_of_methodNamed B.named B.method).1, hK, hG, hfl⟩
  obtain ⟨ls, hg, hl⟩ : ∃ ls : Array Slot, entryFrame m ([.ref b, .long x1] : List Value).toArray 6 = F0 m 0 ls [] ∧ lv_has ls 6 [(0, va_rf (some b)), (1, .long x1)] := by
    exact ⟨_, lg_entry_eq .., lv_entry _ (n := 6) (Nat.le_of_ble_eq_true rfl)⟩
  rw [hg]
  exact kX7_giveCents_0 hX hw (jIz.start hH hz0) (lv_sub hl [0, 1] rfl) (by decide) (by decide)
set_option maxHeartbeats 4000000 in
set_option maxRecDepth 100000 in
theorem kX7_split_52 {b : Nat} (hX : jX2 D z A p l s m args meth c yX7_split cX7_split 10 wsX7_split none) {Q : Unit → jM → Prop}  (n : Nat) : ∀ {x1 : Int64} {x3 : Int64} {x5 : Int64} {x7 : Int32} {μ : jM} {H : Heap} {locs : List Loc} {ls : Array Slot} {cells slots : Nat}, wX7_split_52 z b Q n x1 x3 x5 x7 μ → jIz D z A s.heap μ H locs → lv_has ls 10 [(0, va_rf (some b)), (1, .long x1), (3, .long x3), (5, .long x5), (7, .int x7)] → cells + 0 ≤ 0 → slots + 0 ≤ 0 → W p l e rmX7_split s m args below meth c H locs cells slots (MQ below (jRz jfV Q D z A) args s 0 0 A) (F0 m 52 ls []) := by
  induction n with
  | zero =>
    intros
    rename_i hw _ _ _ _
    exact (show False from hw).elim
  | succ n ih =>
    intro x1 x3 x5 x7 μ H locs ls cells slots hw hI hl hcn hsn
    have hw : wX7_split_52_b z b Q (wX7_split_52 z b Q n) x1 x3 x5 x7 μ := hw
    unfold wX7_split_52_b at hw
    obtain ⟨hx, hb, hml, hown, hts, hr, hlocks, hnm, hK, hG, hfl⟩ := id hX
    have hown : s.vm.findClass RX7 = some m.cls := hown
    have hfX7 : ∀ w ∈ wsX70, w.before args s = true := fun w h => hts w (List.mem_cons_of_mem _ (List.mem_append_right _ h))
    refine lv_iload hx hb dX7_split_52 (lv_at hl 4 rfl) ?_
    refine j_aload_n (r := (some b)) hx hb dX7_split_54 rfl (lv_at hl 0 rfl) ?_
    obtain ⟨v1, hv1, hw⟩ := hw
    refine j_getz (C := RX7) (T := TX7) (N := 10) (ci := 10) (r := (some b)) (v := va_rf v1) hx hb hfX7 hown hK hI rfl 4 (by decide) (hts (.fieldLink RX7 9 "CashPools$Side" "weights" "[J") (List.mem_of_getElem? (i := 1) (by decide +kernel))) (fun _ h => h) hv1 dX7_split_55 ?_
    obtain ⟨v2, hv2, hw⟩ := hw
    refine j_alenz (r := v1) hx hb hK hI hv2 dX7_split_58 ?_
    refine lv_icmp_ge (tgt := 113) hx hb dX7_split_59 (by decide) (fun hc => ?_) (fun hc => ?_)
    · have hw := hw.1 hc
      refine j_aload_n (r := (some b)) hx hb dX7_split_113 rfl (lv_at hl 0 rfl) ?_
      refine lv_lload hx hb dX7_split_114 (lv_at hl 3 rfl) ?_
      obtain ⟨hfs, hw⟩ := hw
      refine j_goz hI (va_runV (As := [.long x5]) (rest := []) ⟨hx, hb, hml, hown, hts⟩ (kX7_giveCents l hfl D z b x5 μ H.size _) (cwV 1 hts gX7_split_X7_giveCents rfl rfl rfl (by decide +kernel) ⟨Nat.le_of_ble_eq_true rfl, Nat.le_of_ble_eq_true rfl⟩) (j_prV2z hK hG hI hw (ci := 10) rfl hfs) rfl rfl hl.1 rfl (lv_room (Nat.le_of_ble_eq_true rfl)) dX7_split_116 ⟨by show _ ≤ 0; omega, by show _ ≤ 0; omega⟩) (fun u3 μ4 H locs hw hI => ?_)
      refine W.eq (g2 := F0 m 119 ls []) rfl ?_
      exact j_vretz hx hb hr hlocks hI hw (by omega) (by omega) dX7_split_119
    · have hw := hw.2 hc
      refine lv_lload_n hx hb dX7_split_62 rfl (lv_at hl 1 rfl) ?_
      refine j_aload_n (r := (some b)) hx hb dX7_split_63 rfl (lv_at hl 0 rfl) ?_
      obtain ⟨v5, hv5, hw⟩ := hw
      refine j_getz (C := RX7) (T := TX7) (N := 10) (ci := 10) (r := (some b)) (v := va_rf v5) hx hb hfX7 hown hK hI rfl 4 (by decide) (hts (.fieldLink RX7 9 "CashPools$Side" "weights" "[J") (List.mem_of_getElem? (i := 1) (by decide +kernel))) (fun _ h => h) hv5 dX7_split_64 ?_
      refine lv_iload hx hb dX7_split_67 (lv_at hl 4 rfl) ?_
      obtain ⟨v6, hv6, hw⟩ := hw
      refine j_laldz (r := v5) hx hb hK hI hv6 dX7_split_69 ?_
      refine lv_lmul hx hb dX7_split_70 ?_
      refine lv_topl (fun v7 ev7 => ?_)
      have hw := hw v7 ev7
      refine lv_lstore (lv' := [(8, .long v7), (0, va_rf (some b)), (1, .long x1), (3, .long x3), (5, .long x5), (7, .int x7)]) hx hb dX7_split_71 hl (by decide) rfl (fun ls hl => ?_)
      refine j_aload_n (r := (some b)) hx hb dX7_split_73 rfl (lv_at hl 1 rfl) ?_
      obtain ⟨v8, hv8, hw⟩ := hw
      refine j_getz (C := RX7) (T := TX7) (N := 10) (ci := 10) (r := (some b)) (v := va_rf v8) hx hb hfX7 hown hK hI rfl 5 (by decide) (hts (.fieldLink RX7 15 "CashPools$Side" "shares" "[J") (List.mem_of_getElem? (i := 2) (by decide +kernel))) (fun _ h => h) hv8 dX7_split_74 ?_
      refine lv_iload hx hb dX7_split_77 (lv_at hl 5 rfl) ?_
      refine lv_lload hx hb dX7_split_79 (lv_at hl 0 rfl) ?_
      refine lv_lload_n hx hb dX7_split_81 rfl (lv_at hl 3 rfl) ?_
      obtain ⟨h9, hw⟩ := hw
      refine lv_ldiv hx hb dX7_split_82 h9 ?_
      obtain ⟨μ10, hμ10, hw⟩ := hw
      refine j_lastz (r := v8) hx hb hK hI hμ10 dX7_split_83 (fun H locs hI => ?_)
      refine j_aload_n (r := (some b)) hx hb dX7_split_84 rfl (lv_at hl 1 rfl) ?_
      obtain ⟨v11, hv11, hw⟩ := hw
      refine j_getz (C := RX7) (T := TX7) (N := 10) (ci := 10) (r := (some b)) (v := va_rf v11) hx hb hfX7 hown hK hI rfl 6 (by decide) (hts (.fieldLink RX7 18 "CashPools$Side" "remainders" "[J") (List.mem_of_getElem? (i := 3) (by decide +kernel))) (fun _ h => h) hv11 dX7_split_85 ?_
      refine lv_iload hx hb dX7_split_88 (lv_at hl 5 rfl) ?_
      refine lv_lload hx hb dX7_split_90 (lv_at hl 0 rfl) ?_
      refine lv_lload_n hx hb dX7_split_92 rfl (lv_at hl 3 rfl) ?_
      obtain ⟨h12, hw⟩ := hw
      refine lv_lrem hx hb dX7_split_93 h12 ?_
      obtain ⟨μ13, hμ13, hw⟩ := hw
      refine j_lastz (r := v11) hx hb hK hI hμ13 dX7_split_94 (fun H locs hI => ?_)
      refine lv_lload hx hb dX7_split_95 (lv_at hl 4 rfl) ?_
      refine j_aload_n (r := (some b)) hx hb dX7_split_97 rfl (lv_at hl 1 rfl) ?_
      obtain ⟨v14, hv14, hw⟩ := hw
      refine j_getz (C := RX7) (T := TX7) (N := 10) (ci := 10) (r := (some b)) (v := va_rf v14) hx hb hfX7 hown hK hI rfl 5 (by decide) (hts (.fieldLink RX7 15 "CashPools$Side" "shares" "[J") (List.mem_of_getElem? (i := 2) (by decide +kernel))) (fun _ h => h) hv14 dX7_split_98 ?_
      refine lv_iload hx hb dX7_split_101 (lv_at hl 5 rfl) ?_
      obtain ⟨v15, hv15, hw⟩ := hw
      refine j_laldz (r := v14) hx hb hK hI hv15 dX7_split_103 ?_
      refine lv_lsub hx hb dX7_split_104 ?_
      refine lv_topl (fun v16 ev16 => ?_)
      have hw := hw v16 ev16
      refine lv_lstore (lv' := [(5, .long v16), (8, .long v7), (0, va_rf (some b)), (1, .long x1), (3, .long x3), (7, .int x7)]) hx hb dX7_split_105 hl (by decide) rfl (fun ls hl => ?_)
      obtain ⟨v17, ev17⟩ : ∃ y : Int32, y = x7 + (1 : Int32) := ⟨_, rfl⟩
      have hw := hw v17 ev17
      refine lv_iinc (v := v17) (lv' := [(7, .int v17), (5, .long v16), (8, .long v7), (0, va_rf (some b)), (1, .long x1), (3, .long x3)]) hx hb dX7_split_107 hl (k := 5) rfl (by rw [ev17]; rfl) (by decide) rfl (fun ls hl => ?_)
      refine lv_goto (tgt := 52) hx hb dX7_split_110 (by decide) ?_
      exact ih hw hI (lv_sub hl [3, 4, 5, 1, 0] rfl) (by omega) (by omega)
set_option maxHeartbeats 4000000 in
set_option maxRecDepth 100000 in
theorem kX7_split_5 {b : Nat} (hX : jX2 D z A p l s m args meth c yX7_split cX7_split 10 wsX7_split none) {Q : Unit → jM → Prop}  (n : Nat) : ∀ {x1 : Int64} {x3 : Int64} {x5 : Int32} {μ : jM} {H : Heap} {locs : List Loc} {ls : Array Slot} {cells slots : Nat}, wX7_split_5 z b Q n x1 x3 x5 μ → jIz D z A s.heap μ H locs → lv_has ls 10 [(0, va_rf (some b)), (1, .long x1), (3, .long x3), (5, .int x5)] → cells + 0 ≤ 0 → slots + 0 ≤ 0 → W p l e rmX7_split s m args below meth c H locs cells slots (MQ below (jRz jfV Q D z A) args s 0 0 A) (F0 m 5 ls []) := by
  induction n with
  | zero =>
    intros
    rename_i hw _ _ _ _
    exact (show False from hw).elim
  | succ n ih =>
    intro x1 x3 x5 μ H locs ls cells slots hw hI hl hcn hsn
    have hw : wX7_split_5_b z b Q (wX7_split_5 z b Q n) x1 x3 x5 μ := hw
    unfold wX7_split_5_b at hw
    obtain ⟨hx, hb, hml, hown, hts, hr, hlocks, hnm, hK, hG, hfl⟩ := id hX
    have hown : s.vm.findClass RX7 = some m.cls := hown
    have hfX7 : ∀ w ∈ wsX70, w.before args s = true := fun w h => hts w (List.mem_cons_of_mem _ (List.mem_append_right _ h))
    refine lv_iload hx hb dX7_split_5 (lv_at hl 3 rfl) ?_
    refine j_aload_n (r := (some b)) hx hb dX7_split_7 rfl (lv_at hl 0 rfl) ?_
    obtain ⟨v1, hv1, hw⟩ := hw
    refine j_getz (C := RX7) (T := TX7) (N := 10) (ci := 10) (r := (some b)) (v := va_rf v1) hx hb hfX7 hown hK hI rfl 4 (by decide) (hts (.fieldLink RX7 9 "CashPools$Side" "weights" "[J") (List.mem_of_getElem? (i := 1) (by decide +kernel))) (fun _ h => h) hv1 dX7_split_8 ?_
    obtain ⟨v2, hv2, hw⟩ := hw
    refine j_alenz (r := v1) hx hb hK hI hv2 dX7_split_11 ?_
    refine lv_icmp_ge (tgt := 39) hx hb dX7_split_12 (by decide) (fun hc => ?_) (fun hc => ?_)
    · have hw := hw.1 hc
      refine lv_lload_n hx hb dX7_split_39 rfl (lv_at hl 2 rfl) ?_
      refine lv_lconst (v := (0)) hx hb dX7_split_40 (by decide) ?_
      refine j_lcmp_gt (tgt := 46) hx hb dX7_split_41 dX7_split_42 (by decide) (fun hc => ?_) (fun hc => ?_)
      · have hw := hw.1 hc
        refine lv_lload_n hx hb dX7_split_46 rfl (lv_at hl 1 rfl) ?_
        refine lv_lstore (lv' := [(5, .long x1), (0, va_rf (some b)), (1, .long x1), (3, .long x3)]) hx hb dX7_split_47 hl (by decide) rfl (fun ls hl => ?_)
        refine lv_iconst (v := (0)) hx hb dX7_split_49 (by decide) ?_
        refine lv_topi (fun v3 ev3 => ?_)
        have hw := hw v3 ev3
        refine lv_istore (lv' := [(7, .int v3), (5, .long x1), (0, va_rf (some b)), (1, .long x1), (3, .long x3)]) hx hb dX7_split_50 hl (by decide) rfl (fun ls hl => ?_)
        obtain ⟨n4, hw⟩ := hw
        exact kX7_split_52 hX  n4 hw hI (lv_sub hl [2, 3, 4, 1, 0] rfl) (by omega) (by omega)
      · have hw := hw.2 hc
        exact j_vretz hx hb hr hlocks hI hw (by omega) (by omega) dX7_split_45
    · have hw := hw.2 hc
      refine lv_lload_n hx hb dX7_split_15 rfl (lv_at hl 2 rfl) ?_
      refine j_aload_n (r := (some b)) hx hb dX7_split_16 rfl (lv_at hl 0 rfl) ?_
      obtain ⟨v5, hv5, hw⟩ := hw
      refine j_getz (C := RX7) (T := TX7) (N := 10) (ci := 10) (r := (some b)) (v := va_rf v5) hx hb hfX7 hown hK hI rfl 4 (by decide) (hts (.fieldLink RX7 9 "CashPools$Side" "weights" "[J") (List.mem_of_getElem? (i := 1) (by decide +kernel))) (fun _ h => h) hv5 dX7_split_17 ?_
      refine lv_iload hx hb dX7_split_20 (lv_at hl 3 rfl) ?_
      obtain ⟨v6, hv6, hw⟩ := hw
      refine j_laldz (r := v5) hx hb hK hI hv6 dX7_split_22 ?_
      refine lv_ladd hx hb dX7_split_23 ?_
      refine lv_topl (fun v7 ev7 => ?_)
      have hw := hw v7 ev7
      refine lv_lstore_n (lv' := [(3, .long v7), (0, va_rf (some b)), (1, .long x1), (5, .int x5)]) hx hb dX7_split_24 rfl hl (by decide) rfl (fun ls hl => ?_)
      refine j_aload_n (r := (some b)) hx hb dX7_split_25 rfl (lv_at hl 1 rfl) ?_
      obtain ⟨v8, hv8, hw⟩ := hw
      refine j_getz (C := RX7) (T := TX7) (N := 10) (ci := 10) (r := (some b)) (v := va_rf v8) hx hb hfX7 hown hK hI rfl 5 (by decide) (hts (.fieldLink RX7 15 "CashPools$Side" "shares" "[J") (List.mem_of_getElem? (i := 2) (by decide +kernel))) (fun _ h => h) hv8 dX7_split_26 ?_
      refine lv_iload hx hb dX7_split_29 (lv_at hl 3 rfl) ?_
      refine lv_lconst (v := (0)) hx hb dX7_split_31 (by decide) ?_
      obtain ⟨μ9, hμ9, hw⟩ := hw
      refine j_lastz (r := v8) hx hb hK hI hμ9 dX7_split_32 (fun H locs hI => ?_)
      obtain ⟨v10, ev10⟩ : ∃ y : Int32, y = x5 + (1 : Int32) := ⟨_, rfl⟩
      have hw := hw v10 ev10
      refine lv_iinc (v := v10) (lv' := [(5, .int v10), (3, .long v7), (0, va_rf (some b)), (1, .long x1)]) hx hb dX7_split_33 hl (k := 3) rfl (by rw [ev10]; rfl) (by decide) rfl (fun ls hl => ?_)
      refine lv_goto (tgt := 5) hx hb dX7_split_36 (by decide) ?_
      exact ih hw hI (lv_sub hl [2, 3, 1, 0] rfl) (by omega) (by omega)
set_option maxHeartbeats 4000000 in
set_option maxRecDepth 100000 in
theorem kX7_split_0 {b : Nat} (hX : jX2 D z A p l s m args meth c yX7_split cX7_split 10 wsX7_split none) {Q : Unit → jM → Prop}  {x1 : Int64} {μ : jM} {H : Heap} {locs : List Loc} {ls : Array Slot} {cells slots : Nat} (hw : wX7_split_0 z b Q x1 μ) (hI : jIz D z A s.heap μ H locs) (hl : lv_has ls 10 [(0, va_rf (some b)), (1, .long x1)]) (hcn : cells + 0 ≤ 0) (hsn : slots + 0 ≤ 0) : W p l e rmX7_split s m args below meth c H locs cells slots (MQ below (jRz jfV Q D z A) args s 0 0 A) (F0 m 0 ls []) := by
  unfold wX7_split_0 at hw
  obtain ⟨hx, hb, hml, hown, hts, hr, hlocks, hnm, hK, hG, hfl⟩ := id hX
  have hown : s.vm.findClass RX7 = some m.cls := hown
  refine lv_lconst (v := (0)) hx hb dX7_split_0 (by decide) ?_
  refine lv_topl (fun v1 ev1 => ?_)
  have hw := hw v1 ev1
  refine lv_lstore_n (lv' := [(3, .long v1), (0, va_rf (some b)), (1, .long x1)]) hx hb dX7_split_1 rfl hl (by decide) rfl (fun ls hl => ?_)
  refine lv_iconst (v := (0)) hx hb dX7_split_2 (by decide) ?_
  refine lv_topi (fun v2 ev2 => ?_)
  have hw := hw v2 ev2
  refine lv_istore (lv' := [(5, .int v2), (3, .long v1), (0, va_rf (some b)), (1, .long x1)]) hx hb dX7_split_3 hl (by decide) rfl (fun ls hl => ?_)
  obtain ⟨n3, hw⟩ := hw
  exact kX7_split_5 hX  n3 hw hI (lv_sub hl [2, 3, 1, 0] rfl) (by omega) (by omega)
set_option maxHeartbeats 4000000 in
set_option maxRecDepth 100000 in
theorem kX7_split (l : Launch) (hfl : l.stackTraces = false) (D : jD) (z : Nat × Nat) (b : Nat) (x1 : Int64) (μ : jM) (sz : Nat) (Q : Unit → jM → Prop) : Met l yX7_split wsX7_split rmX7_split (jPre2z D z μ sz [.ref b, .long x1] (wX7_split z b x1 μ Q)) (jRz jfV Q D z (jA z μ sz)) 0 0 (jA z μ sz) := by
  refine Met.ofW (cc := cX7_split) (maxL := 10) (ret := none) (by decide) rfl ?_
  intro p e s m args below meth c s₁ B hml hv
  obtain ⟨rfl, hsz, hH, hz0, hK, hG, hw⟩ := hv
  subst hsz
  have hX : jX2 D z (jA z μ s.heap.size) p l s m _ meth c yX7_split cX7_split 10 wsX7_split none := ⟨B.exec, B.bytes, hml, findClass_of_methodNamed B.named, atoms_spec (ws := wsX7_split) B.pre, B.returns, B.notSynchronized, (name_of_methodNamed B.named B.method).1, hK, hG, hfl⟩
  obtain ⟨ls, hg, hl⟩ : ∃ ls : Array Slot, entryFrame m ([.ref b, .long x1] : List Value).toArray 10 = F0 m 0 ls [] ∧ lv_has ls 10 [(0, va_rf (some b)), (1, .long x1)] := by
    exact ⟨_, lg_entry_eq .., lv_entry _ (n := 10) (Nat.le_of_ble_eq_true rfl)⟩
  rw [hg]
  exact kX7_split_0 hX hw (jIz.start hH hz0) (lv_sub hl [0, 1] rfl) (by decide) (by decide)
set_option maxHeartbeats 4000000 in
set_option maxRecDepth 100000 in
theorem kX0_addInterest_0 {b : Nat} (hX : jX2 D z A p l s m args meth c yX0_addInterest cX0_addInterest 3 wsX0_addInterest none) {Q : Unit → jM → Prop}  {x1 : Int64} {μ : jM} {H : Heap} {locs : List Loc} {ls : Array Slot} {cells slots : Nat} (hw : wX0_addInterest_0 z b Q x1 μ) (hI : jIz D z A s.heap μ H locs) (hl : lv_has ls 3 [(0, va_rf (some b)), (1, .long x1)]) (hcn : cells + 0 ≤ 0) (hsn : slots + 0 ≤ 0) : W p l e rmX0_addInterest s m args below meth c H locs cells slots (MQ below (jRz jfV Q D z A) args s 0 0 A) (F0 m 0 ls []) := by
  unfold wX0_addInterest_0 at hw
  obtain ⟨hx, hb, hml, hown, hts, hr, hlocks, hnm, hK, hG, hfl⟩ := id hX
  have hown : s.vm.findClass RX0 = some m.cls := hown
  have hfX0 : ∀ w ∈ wsX00, w.before args s = true := fun w h => hts w (List.mem_cons_of_mem _ (List.mem_append_right _ h))
  refine j_aload_n (r := (some b)) hx hb dX0_addInterest_0 rfl (lv_at hl 0 rfl) ?_
  refine lv_dup hx hb dX0_addInterest_1 rfl ?_
  obtain ⟨v1, hv1, hw⟩ := hw
  refine j_getz (C := RX0) (T := TX0) (N := 12) (ci := 3) (r := (some b)) (v := .long v1) hx hb hfX0 hown hK hI rfl 8 (by decide) (hts (.fieldLink RX0 47 "CashPools$Account" "cash" "J") (List.mem_of_getElem? (i := 1) (by decide +kernel))) (fun _ h => h) hv1 dX0_addInterest_2 ?_
  refine lv_lload_n hx hb dX0_addInterest_5 rfl (lv_at hl 1 rfl) ?_
  refine lv_ladd hx hb dX0_addInterest_6 ?_
  obtain ⟨μ2, hμ2, hw⟩ := hw
  refine j_putz (C := RX0) (T := TX0) (N := 12) (ci := 3) (r := (some b)) (v := .long (v1 + x1)) hx hb hfX0 tyX0 tyX0_ok nmX0 hown hK hI rfl 8 (by decide) (hts (.fieldLink RX0 47 "CashPools$Account" "cash" "J") (List.mem_of_getElem? (i := 1) (by decide +kernel))) (fun _ h => h) rfl (tyX0_ok 8 (by decide)) rfl rfl hμ2 dX0_addInterest_7 (fun H locs hI => ?_)
  refine j_aload_n (r := (some b)) hx hb dX0_addInterest_10 rfl (lv_at hl 0 rfl) ?_
  refine lv_dup hx hb dX0_addInterest_11 rfl ?_
  obtain ⟨v3, hv3, hw⟩ := hw
  refine j_getz (C := RX0) (T := TX0) (N := 12) (ci := 3) (r := (some b)) (v := .long v3) hx hb hfX0 hown hK hI rfl 9 (by decide) (hts (.fieldLink RX0 51 "CashPools$Account" "interest" "J") (List.mem_of_getElem? (i := 2) (by decide +kernel))) (fun _ h => h) hv3 dX0_addInterest_12 ?_
  refine lv_lload_n hx hb dX0_addInterest_15 rfl (lv_at hl 1 rfl) ?_
  refine lv_ladd hx hb dX0_addInterest_16 ?_
  obtain ⟨μ4, hμ4, hw⟩ := hw
  refine j_putz (C := RX0) (T := TX0) (N := 12) (ci := 3) (r := (some b)) (v := .long (v3 + x1)) hx hb hfX0 tyX0 tyX0_ok nmX0 hown hK hI rfl 9 (by decide) (hts (.fieldLink RX0 51 "CashPools$Account" "interest" "J") (List.mem_of_getElem? (i := 2) (by decide +kernel))) (fun _ h => h) rfl (tyX0_ok 9 (by decide)) rfl rfl hμ4 dX0_addInterest_17 (fun H locs hI => ?_)
  exact j_vretz hx hb hr hlocks hI hw (by omega) (by omega) dX0_addInterest_20
set_option maxHeartbeats 4000000 in
set_option maxRecDepth 100000 in
theorem kX0_addInterest (l : Launch) (hfl : l.stackTraces = false) (D : jD) (z : Nat × Nat) (b : Nat) (x1 : Int64) (μ : jM) (sz : Nat) (Q : Unit → jM → Prop) : Met l yX0_addInterest wsX0_addInterest rmX0_addInterest (jPre2z D z μ sz [.ref b, .long x1] (wX0_addInterest z b x1 μ Q)) (jRz jfV Q D z (jA z μ sz)) 0 0 (jA z μ sz) := by
  refine Met.ofW (cc := cX0_addInterest) (maxL := 3) (ret := none) (by decide) rfl ?_
  intro p e s m args below meth c s₁ B hml hv
  obtain ⟨rfl, hsz, hH, hz0, hK, hG, hw⟩ := hv
  subst hsz
  have hX : jX2 D z (jA z μ s.heap.size) p l s m _ meth c yX0_addInterest cX0_addInterest 3 wsX0_addInterest none := ⟨B.exec, B.bytes, hml, findClass_of_methodNamed B.named, atoms_spec (ws := wsX0_addInterest) B.pre, B.returns, B.notSynchronized, (name_of_methodNamed B.named B.method).1, hK, hG, hfl⟩
  obtain ⟨ls, hg, hl⟩ : ∃ ls : Array Slot, entryFrame m ([.ref b, .long x1] : List Value).toArray 3 = F0 m 0 ls [] ∧ lv_has ls 3 [(0, va_rf (some b)), (1, .long x1)] := by
    exact ⟨_, lg_entry_eq .., lv_entry _ (n := 3) (Nat.le_of_ble_eq_true rfl)⟩
  rw [hg]
  exact kX0_addInterest_0 hX hw (jIz.start hH hz0) (lv_sub hl [0, 1] rfl) (by decide) (by decide)
set_option maxHeartbeats 4000000 in
set_option maxRecDepth 100000 in
theorem kX7_bookTo_41 {b : Nat} (hX : jX2 D z A p l s m args meth c yX7_bookTo cX7_bookTo 5 wsX7_bookTo none) {Q : Unit → jM → Prop}  (n : Nat) : ∀ {x1 : Option Nat} {x4 : Int32} {μ : jM} {H : Heap} {locs : List Loc} {ls : Array Slot} {cells slots : Nat}, wX7_bookTo_41 z b Q n x1 x4 μ → jIz D z A s.heap μ H locs → lv_has ls 5 [(0, va_rf (some b)), (1, va_rf x1), (4, .int x4)] → cells + 0 ≤ 0 → slots + 0 ≤ 0 → W p l e rmX7_bookTo s m args below meth c H locs cells slots (MQ below (jRz jfV Q D z A) args s 0 0 A) (F0 m 41 ls []) := by
  induction n with
  | zero =>
    intros
    rename_i hw _ _ _ _
    exact (show False from hw).elim
  | succ n ih =>
    intro x1 x4 μ H locs ls cells slots hw hI hl hcn hsn
    have hw : wX7_bookTo_41_b z b Q (wX7_bookTo_41 z b Q n) x1 x4 μ := hw
    unfold wX7_bookTo_41_b at hw
    obtain ⟨hx, hb, hml, hown, hts, hr, hlocks, hnm, hK, hG, hfl⟩ := id hX
    have hown : s.vm.findClass RX7 = some m.cls := hown
    have hfX7 : ∀ w ∈ wsX70, w.before args s = true := fun w h => hts w (List.mem_cons_of_mem _ (List.mem_append_left _ (List.mem_append_left _ (List.mem_append_right _ h))))
    refine lv_iload hx hb dX7_bookTo_41 (lv_at hl 2 rfl) ?_
    refine j_aload_n (r := (some b)) hx hb dX7_bookTo_43 rfl (lv_at hl 0 rfl) ?_
    obtain ⟨v1, hv1, hw⟩ := hw
    refine j_getz (C := RX7) (T := TX7) (N := 10) (ci := 10) (r := (some b)) (v := va_rf v1) hx hb hfX7 hown hK hI rfl 4 (by decide) (hts (.fieldLink RX7 9 "CashPools$Side" "weights" "[J") (List.mem_of_getElem? (i := 4) (by decide +kernel))) (fun _ h => h) hv1 dX7_bookTo_44 ?_
    obtain ⟨v2, hv2, hw⟩ := hw
    refine j_alenz (r := v1) hx hb hK hI hv2 dX7_bookTo_47 ?_
    refine lv_icmp_ge (tgt := 99) hx hb dX7_bookTo_48 (by decide) (fun hc => ?_) (fun hc => ?_)
    · have hw := hw.1 hc
      exact j_vretz hx hb hr hlocks hI hw (by omega) (by omega) dX7_bookTo_99
    · have hw := hw.2 hc
      refine lv_iload hx hb dX7_bookTo_51 (lv_at hl 2 rfl) ?_
      refine j_aload_n (r := x1) hx hb dX7_bookTo_53 rfl (lv_at hl 1 rfl) ?_
      obtain ⟨b5, ⟨hrb5, hfs⟩, hw⟩ := hw
      refine j_goz hI (va_runV (As := []) (rest := [.int x4]) ⟨hx, hb, hml, hown, hts⟩ (kJx4a65c_size_8abf5 l hfl D z b5  μ H.size _) (cwV 0 hts gX7_bookTo_Jx4a65c_size_8abf5 rfl rfl rfl (by decide +kernel) ⟨Nat.le_of_ble_eq_true rfl, Nat.le_of_ble_eq_true rfl⟩) (j_prV2z hK hG hI hw (ci := 2) rfl hfs) rfl rfl hl.1 (by rw [hrb5]; rfl) (lv_room (Nat.le_of_ble_eq_true rfl)) dX7_bookTo_54 ⟨by show _ ≤ 0; omega, by show _ ≤ 0; omega⟩) (fun v3 μ4 H locs hw hI => ?_)
      refine W.eq (g2 := F0 m 57 ls [.int v3, .int x4]) rfl ?_
      refine lv_icmp_ge (tgt := 85) hx hb dX7_bookTo_57 (by decide) (fun hc => ?_) (fun hc => ?_)
      · have hw := hw.1 hc
        refine j_aload_n (r := (some b)) hx hb dX7_bookTo_85 rfl (lv_at hl 0 rfl) ?_
        obtain ⟨v6, hv6, hw⟩ := hw
        refine j_getz (C := RX7) (T := TX7) (N := 10) (ci := 10) (r := (some b)) (v := va_rf v6) hx hb hfX7 hown hK hI rfl 4 (by decide) (hts (.fieldLink RX7 9 "CashPools$Side" "weights" "[J") (List.mem_of_getElem? (i := 4) (by decide +kernel))) (fun _ h => h) hv6 dX7_bookTo_86 ?_
        refine lv_iload hx hb dX7_bookTo_89 (lv_at hl 2 rfl) ?_
        refine lv_lconst (v := (0)) hx hb dX7_bookTo_91 (by decide) ?_
        obtain ⟨μ7, hμ7, hw⟩ := hw
        refine j_lastz (r := v6) hx hb hK hI hμ7 dX7_bookTo_92 (fun H locs hI => ?_)
        obtain ⟨v8, ev8⟩ : ∃ y : Int32, y = x4 + (1 : Int32) := ⟨_, rfl⟩
        have hw := hw v8 ev8
        refine lv_iinc (v := v8) (lv' := [(4, .int v8), (0, va_rf (some b)), (1, va_rf x1)]) hx hb dX7_bookTo_93 hl (k := 2) rfl (by rw [ev8]; rfl) (by decide) rfl (fun ls hl => ?_)
        refine lv_goto (tgt := 41) hx hb dX7_bookTo_96 (by decide) ?_
        exact ih hw hI (lv_sub hl [1, 2, 0] rfl) (by omega) (by omega)
      · have hw := hw.2 hc
        refine j_aload_n (r := x1) hx hb dX7_bookTo_60 rfl (lv_at hl 1 rfl) ?_
        refine lv_iload hx hb dX7_bookTo_61 (lv_at hl 2 rfl) ?_
        obtain ⟨b11, ⟨hrb11, hfs⟩, hw⟩ := hw
        refine j_goz hI (va_runV (As := [.int x4]) (rest := []) ⟨hx, hb, hml, hown, hts⟩ (kJx4a65c_get_915e3 l hfl D z b11 x4 μ4 H.size _) (cwV 1 hts gX7_bookTo_Jx4a65c_get_915e3 rfl rfl rfl (by decide +kernel) ⟨Nat.le_of_ble_eq_true rfl, Nat.le_of_ble_eq_true rfl⟩) (j_prV2z hK hG hI hw (ci := 2) rfl hfs) rfl rfl hl.1 (by rw [hrb11]; rfl) (lv_room (Nat.le_of_ble_eq_true rfl)) dX7_bookTo_63 ⟨by show _ ≤ 0; omega, by show _ ≤ 0; omega⟩) (fun v9 μ10 H locs hw hI => ?_)
        refine W.eq (g2 := F0 m 66 ls [va_rf v9]) rfl ?_
        obtain ⟨h12, hw⟩ := hw
        refine j_castz (C := RX0) (T := TX0) (N := 12) (ci := 3) (r := v9) hx hb hown (hts (.classLink RX7 45 "CashPools$Account") (List.mem_of_getElem? (i := 5) (by decide +kernel))) hK hI rfl h12 dX7_bookTo_66 ?_
        refine j_aload_n (r := (some b)) hx hb dX7_bookTo_69 rfl (lv_at hl 0 rfl) ?_
        obtain ⟨v13, hv13, hw⟩ := hw
        refine j_getz (C := RX7) (T := TX7) (N := 10) (ci := 10) (r := (some b)) (v := .int v13) hx hb hfX7 hown hK hI rfl 1 (by decide) (hts (.fieldLink RX7 28 "CashPools$Side" "sign" "I") (List.mem_of_getElem? (i := 6) (by decide +kernel))) (fun _ h => h) hv13 dX7_bookTo_70 ?_
        refine lv_i2l hx hb dX7_bookTo_73 rfl ?_
        refine j_aload_n (r := (some b)) hx hb dX7_bookTo_74 rfl (lv_at hl 0 rfl) ?_
        obtain ⟨v14, hv14, hw⟩ := hw
        refine j_getz (C := RX7) (T := TX7) (N := 10) (ci := 10) (r := (some b)) (v := va_rf v14) hx hb hfX7 hown hK hI rfl 5 (by decide) (hts (.fieldLink RX7 15 "CashPools$Side" "shares" "[J") (List.mem_of_getElem? (i := 7) (by decide +kernel))) (fun _ h => h) hv14 dX7_bookTo_75 ?_
        refine lv_iload hx hb dX7_bookTo_78 (lv_at hl 2 rfl) ?_
        obtain ⟨v15, hv15, hw⟩ := hw
        refine j_laldz (r := v14) hx hb hK hI hv15 dX7_bookTo_80 ?_
        refine lv_lmul hx hb dX7_bookTo_81 ?_
        obtain ⟨b18, ⟨hrb18, hfs⟩, hw⟩ := hw
        refine j_goz hI (va_runV (As := [.long ((Int32.toInt64 v13) * v15)]) (rest := []) ⟨hx, hb, hml, hown, hts⟩ (kX0_addInterest l hfl D z b18 ((Int32.toInt64 v13) * v15) μ10 H.size _) (cwV 1 hts gX7_bookTo_X0_addInterest rfl rfl rfl (by decide +kernel) ⟨Nat.le_of_ble_eq_true rfl, Nat.le_of_ble_eq_true rfl⟩) (j_prV2z hK hG hI hw (ci := 3) rfl hfs) rfl rfl hl.1 (by rw [hrb18]; rfl) (lv_room (Nat.le_of_ble_eq_true rfl)) dX7_bookTo_82 ⟨by show _ ≤ 0; omega, by show _ ≤ 0; omega⟩) (fun u16 μ17 H locs hw hI => ?_)
        refine W.eq (g2 := F0 m 85 ls []) rfl ?_
        refine j_aload_n (r := (some b)) hx hb dX7_bookTo_85 rfl (lv_at hl 0 rfl) ?_
        obtain ⟨v19, hv19, hw⟩ := hw
        refine j_getz (C := RX7) (T := TX7) (N := 10) (ci := 10) (r := (some b)) (v := va_rf v19) hx hb hfX7 hown hK hI rfl 4 (by decide) (hts (.fieldLink RX7 9 "CashPools$Side" "weights" "[J") (List.mem_of_getElem? (i := 4) (by decide +kernel))) (fun _ h => h) hv19 dX7_bookTo_86 ?_
        refine lv_iload hx hb dX7_bookTo_89 (lv_at hl 2 rfl) ?_
        refine lv_lconst (v := (0)) hx hb dX7_bookTo_91 (by decide) ?_
        obtain ⟨μ20, hμ20, hw⟩ := hw
        refine j_lastz (r := v19) hx hb hK hI hμ20 dX7_bookTo_92 (fun H locs hI => ?_)
        obtain ⟨v21, ev21⟩ : ∃ y : Int32, y = x4 + (1 : Int32) := ⟨_, rfl⟩
        have hw := hw v21 ev21
        refine lv_iinc (v := v21) (lv' := [(4, .int v21), (0, va_rf (some b)), (1, va_rf x1)]) hx hb dX7_bookTo_93 hl (k := 2) rfl (by rw [ev21]; rfl) (by decide) rfl (fun ls hl => ?_)
        refine lv_goto (tgt := 41) hx hb dX7_bookTo_96 (by decide) ?_
        exact ih hw hI (lv_sub hl [1, 2, 0] rfl) (by omega) (by omega)
set_option maxHeartbeats 4000000 in
set_option maxRecDepth 100000 in
theorem kX7_bookTo_0 {b : Nat} (hX : jX2 D z A p l s m args meth c yX7_bookTo cX7_bookTo 5 wsX7_bookTo none) {Q : Unit → jM → Prop}  {x1 : Option Nat} {μ : jM} {H : Heap} {locs : List Loc} {ls : Array Slot} {cells slots : Nat} (hw : wX7_bookTo_0 z b Q x1 μ) (hI : jIz D z A s.heap μ H locs) (hl : lv_has ls 5 [(0, va_rf (some b)), (1, va_rf x1)]) (hcn : cells + 0 ≤ 0) (hsn : slots + 0 ≤ 0) : W p l e rmX7_bookTo s m args below meth c H locs cells slots (MQ below (jRz jfV Q D z A) args s 0 0 A) (F0 m 0 ls []) := by
  unfold wX7_bookTo_0 at hw
  obtain ⟨hx, hb, hml, hown, hts, hr, hlocks, hnm, hK, hG, hfl⟩ := id hX
  have hown : s.vm.findClass RX7 = some m.cls := hown
  have hfX7 : ∀ w ∈ wsX70, w.before args s = true := fun w h => hts w (List.mem_cons_of_mem _ (List.mem_append_left _ (List.mem_append_left _ (List.mem_append_right _ h))))
  refine j_aload_n (r := (some b)) hx hb dX7_bookTo_0 rfl (lv_at hl 0 rfl) ?_
  obtain ⟨v1, hv1, hw⟩ := hw
  refine j_getz (C := RX7) (T := TX7) (N := 10) (ci := 10) (r := (some b)) (v := .long v1) hx hb hfX7 hown hK hI rfl 2 (by decide) (hts (.fieldLink RX7 31 "CashPools$Side" "sum" "J") (List.mem_of_getElem? (i := 1) (by decide +kernel))) (fun _ h => h) hv1 dX7_bookTo_1 ?_
  refine lv_ldc2 (v := (3600000)) hx hb hown (hts (.constantLong RX7 56 (3600000)) (List.mem_of_getElem? (i := 2) (by decide +kernel))) dX7_bookTo_4 ?_
  refine lv_ldiv hx hb dX7_bookTo_7 (by decide) ?_
  refine lv_topl (fun v2 ev2 => ?_)
  have hw := hw v2 ev2
  refine j_lstore_nA (r := x1) (F := fun w => [(0, va_rf (some b)), (1, w)]) (F2 := fun w => [(2, .long v2), (0, va_rf (some b)), (1, w)]) hx hb dX7_bookTo_8 rfl hl (by decide) (fun w hw => by rcases hw with rfl | ⟨_, rfl⟩ <;> rfl) (fun ls hl => ?_)
  refine j_aload_n (r := (some b)) hx hb dX7_bookTo_9 rfl (lv_at hl 1 rfl) ?_
  refine lv_dup hx hb dX7_bookTo_10 rfl ?_
  obtain ⟨v3, hv3, hw⟩ := hw
  refine j_getz (C := RX7) (T := TX7) (N := 10) (ci := 10) (r := (some b)) (v := .long v3) hx hb hfX7 hown hK hI rfl 2 (by decide) (hts (.fieldLink RX7 31 "CashPools$Side" "sum" "J") (List.mem_of_getElem? (i := 1) (by decide +kernel))) (fun _ h => h) hv3 dX7_bookTo_11 ?_
  refine lv_lload_n hx hb dX7_bookTo_14 rfl (lv_at hl 0 rfl) ?_
  refine lv_ldc2 (v := (3600000)) hx hb hown (hts (.constantLong RX7 56 (3600000)) (List.mem_of_getElem? (i := 2) (by decide +kernel))) dX7_bookTo_15 ?_
  refine lv_lmul hx hb dX7_bookTo_18 ?_
  refine lv_lsub hx hb dX7_bookTo_19 ?_
  obtain ⟨μ4, hμ4, hw⟩ := hw
  refine j_putz (C := RX7) (T := TX7) (N := 10) (ci := 10) (r := (some b)) (v := .long (v3 - (v2 * (3600000 : Int64)))) hx hb hfX7 tyX7 tyX7_ok nmX7 hown hK hI rfl 2 (by decide) (hts (.fieldLink RX7 31 "CashPools$Side" "sum" "J") (List.mem_of_getElem? (i := 1) (by decide +kernel))) (fun _ h => h) rfl (tyX7_ok 2 (by decide)) rfl rfl hμ4 dX7_bookTo_20 (fun H locs hI => ?_)
  refine j_aload_n (r := (some b)) hx hb dX7_bookTo_23 rfl (lv_at hl 1 rfl) ?_
  refine lv_dup hx hb dX7_bookTo_24 rfl ?_
  obtain ⟨v5, hv5, hw⟩ := hw
  refine j_getz (C := RX7) (T := TX7) (N := 10) (ci := 10) (r := (some b)) (v := .long v5) hx hb hfX7 hown hK hI rfl 3 (by decide) (hts (.fieldLink RX7 58 "CashPools$Side" "booked" "J") (List.mem_of_getElem? (i := 3) (by decide +kernel))) (fun _ h => h) hv5 dX7_bookTo_25 ?_
  refine lv_lload_n hx hb dX7_bookTo_28 rfl (lv_at hl 0 rfl) ?_
  refine lv_ladd hx hb dX7_bookTo_29 ?_
  obtain ⟨μ6, hμ6, hw⟩ := hw
  refine j_putz (C := RX7) (T := TX7) (N := 10) (ci := 10) (r := (some b)) (v := .long (v5 + v2)) hx hb hfX7 tyX7 tyX7_ok nmX7 hown hK hI rfl 3 (by decide) (hts (.fieldLink RX7 58 "CashPools$Side" "booked" "J") (List.mem_of_getElem? (i := 3) (by decide +kernel))) (fun _ h => h) rfl (tyX7_ok 3 (by decide)) rfl rfl hμ6 dX7_bookTo_30 (fun H locs hI => ?_)
  refine j_aload_n (r := (some b)) hx hb dX7_bookTo_33 rfl (lv_at hl 1 rfl) ?_
  refine lv_lload_n hx hb dX7_bookTo_34 rfl (lv_at hl 0 rfl) ?_
  obtain ⟨hfs, hw⟩ := hw
  refine j_goz hI (va_runV (As := [.long v2]) (rest := []) ⟨hx, hb, hml, hown, hts⟩ (kX7_split l hfl D z b v2 μ6 H.size _) (cwV 1 hts gX7_bookTo_X7_split rfl rfl rfl (by decide +kernel) ⟨Nat.le_of_ble_eq_true rfl, Nat.le_of_ble_eq_true rfl⟩) (j_prV2z hK hG hI hw (ci := 10) rfl hfs) rfl rfl hl.1 rfl (lv_room (Nat.le_of_ble_eq_true rfl)) dX7_bookTo_35 ⟨by show _ ≤ 0; omega, by show _ ≤ 0; omega⟩) (fun u7 μ8 H locs hw hI => ?_)
  refine W.eq (g2 := F0 m 38 ls []) rfl ?_
  refine lv_iconst (v := (0)) hx hb dX7_bookTo_38 (by decide) ?_
  refine lv_topi (fun v9 ev9 => ?_)
  have hw := hw v9 ev9
  refine lv_istore (lv' := [(4, .int v9), (2, .long v2), (0, va_rf (some b)), (1, va_rf x1)]) hx hb dX7_bookTo_39 hl (by decide) rfl (fun ls hl => ?_)
  obtain ⟨n10, hw⟩ := hw
  exact kX7_bookTo_41 hX  n10 hw hI (lv_sub hl [2, 3, 0] rfl) (by omega) (by omega)
set_option maxHeartbeats 4000000 in
set_option maxRecDepth 100000 in
theorem kX7_bookTo (l : Launch) (hfl : l.stackTraces = false) (D : jD) (z : Nat × Nat) (b : Nat) (x1 : Option Nat) (μ : jM) (sz : Nat) (Q : Unit → jM → Prop) : Met l yX7_bookTo wsX7_bookTo rmX7_bookTo (jPre2z D z μ sz [.ref b, va_rf x1] (wX7_bookTo z b x1 μ Q)) (jRz jfV Q D z (jA z μ sz)) 0 0 (jA z μ sz) := by
  refine Met.ofW (cc := cX7_bookTo) (maxL := 5) (ret := none) (by decide) rfl ?_
  intro p e s m args below meth c s₁ B hml hv
  obtain ⟨rfl, hsz, hH, hz0, hK, hG, hw⟩ := hv
  subst hsz
  have hX : jX2 D z (jA z μ s.heap.size) p l s m _ meth c yX7_bookTo cX7_bookTo 5 wsX7_bookTo none := ⟨B.exec, B.bytes, hml, findClass_of_methodNamed B.named, atoms_spec (ws := wsX7_bookTo) B.pre, B.returns, B.notSynchronized, (name_of_methodNamed B.named B.method).1, hK, hG, hfl⟩
  obtain ⟨ls, hg, hl⟩ : ∃ ls : Array Slot, entryFrame m ([.ref b, va_rf x1] : List Value).toArray 5 = F0 m 0 ls [] ∧ lv_has ls 5 [(0, va_rf (some b)), (1, va_rf x1)] := by
    cases x1 <;> exact ⟨_, lg_entry_eq .., lv_entry _ (n := 5) (Nat.le_of_ble_eq_true rfl)⟩
  rw [hg]
  exact kX7_bookTo_0 hX hw (jIz.start hH hz0) (lv_sub hl [0, 1] rfl) (by decide) (by decide)
set_option maxHeartbeats 4000000 in
set_option maxRecDepth 100000 in
theorem kX6_bookInterest_0 {b : Nat} (hX : jX2 D z A p l s m args meth c yX6_bookInterest cX6_bookInterest 1 wsX6_bookInterest none) {Q : Unit → jM → Prop}   {μ : jM} {H : Heap} {locs : List Loc} {ls : Array Slot} {cells slots : Nat} (hw : wX6_bookInterest_0 z b Q  μ) (hI : jIz D z A s.heap μ H locs) (hl : lv_has ls 1 [(0, va_rf (some b))]) (hcn : cells + 0 ≤ 0) (hsn : slots + 0 ≤ 0) : W p l e rmX6_bookInterest s m args below meth c H locs cells slots (MQ below (jRz jfV Q D z A) args s 0 0 A) (F0 m 0 ls []) := by
  unfold wX6_bookInterest_0 at hw
  obtain ⟨hx, hb, hml, hown, hts, hr, hlocks, hnm, hK, hG, hfl⟩ := id hX
  have hown : s.vm.findClass RX6 = some m.cls := hown
  have hfX6 : ∀ w ∈ wsX60, w.before args s = true := fun w h => hts w (List.mem_cons_of_mem _ (List.mem_append_left _ (List.mem_append_left _ (List.mem_append_left _ (List.mem_append_right _ h)))))
  refine j_aload_n (r := (some b)) hx hb dX6_bookInterest_0 rfl (lv_at hl 0 rfl) ?_
  obtain ⟨v1, hv1, hw⟩ := hw
  refine j_getz (C := RX6) (T := TX6) (N := 5) (ci := 9) (r := (some b)) (v := va_rf v1) hx hb hfX6 hown hK hI rfl 1 (by decide) (hts (.fieldLink RX6 28 "CashPools$Pool" "credit" "LCashPools$Side;") (List.mem_of_getElem? (i := 1) (by decide +kernel))) (fun _ h => h) hv1 dX6_bookInterest_1 ?_
  refine j_aload_n (r := (some b)) hx hb dX6_bookInterest_4 rfl (lv_at hl 0 rfl) ?_
  obtain ⟨v2, hv2, hw⟩ := hw
  refine j_getz (C := RX6) (T := TX6) (N := 5) (ci := 9) (r := (some b)) (v := va_rf v2) hx hb hfX6 hown hK hI rfl 3 (by decide) (hts (.fieldLink RX6 10 "CashPools$Pool" "members" "Ljava/util/ArrayList;") (List.mem_of_getElem? (i := 2) (by decide +kernel))) (fun _ h => h) hv2 dX6_bookInterest_5 ?_
  obtain ⟨b5, ⟨hrb5, hfs⟩, hw⟩ := hw
  refine j_goz hI (va_runV (As := [va_rf v2]) (rest := []) ⟨hx, hb, hml, hown, hts⟩ (kX7_bookTo l hfl D z b5 v2 μ H.size _) (cwV 1 hts gX6_bookInterest_X7_bookTo rfl rfl rfl (by decide +kernel) ⟨Nat.le_of_ble_eq_true rfl, Nat.le_of_ble_eq_true rfl⟩) (j_prV2z hK hG hI hw (ci := 10) rfl hfs) rfl rfl hl.1 (by rw [hrb5]; rfl) (lv_room (Nat.le_of_ble_eq_true rfl)) dX6_bookInterest_8 ⟨by show _ ≤ 0; omega, by show _ ≤ 0; omega⟩) (fun u3 μ4 H locs hw hI => ?_)
  refine W.eq (g2 := F0 m 11 ls []) rfl ?_
  refine j_aload_n (r := (some b)) hx hb dX6_bookInterest_11 rfl (lv_at hl 0 rfl) ?_
  obtain ⟨v6, hv6, hw⟩ := hw
  refine j_getz (C := RX6) (T := TX6) (N := 5) (ci := 9) (r := (some b)) (v := va_rf v6) hx hb hfX6 hown hK hI rfl 2 (by decide) (hts (.fieldLink RX6 32 "CashPools$Pool" "debit" "LCashPools$Side;") (List.mem_of_getElem? (i := 3) (by decide +kernel))) (fun _ h => h) hv6 dX6_bookInterest_12 ?_
  refine j_aload_n (r := (some b)) hx hb dX6_bookInterest_15 rfl (lv_at hl 0 rfl) ?_
  obtain ⟨v7, hv7, hw⟩ := hw
  refine j_getz (C := RX6) (T := TX6) (N := 5) (ci := 9) (r := (some b)) (v := va_rf v7) hx hb hfX6 hown hK hI rfl 3 (by decide) (hts (.fieldLink RX6 10 "CashPools$Pool" "members" "Ljava/util/ArrayList;") (List.mem_of_getElem? (i := 2) (by decide +kernel))) (fun _ h => h) hv7 dX6_bookInterest_16 ?_
  obtain ⟨b10, ⟨hrb10, hfs⟩, hw⟩ := hw
  refine j_goz hI (va_runV (As := [va_rf v7]) (rest := []) ⟨hx, hb, hml, hown, hts⟩ (kX7_bookTo l hfl D z b10 v7 μ4 H.size _) (cwV 1 hts gX6_bookInterest_X7_bookTo rfl rfl rfl (by decide +kernel) ⟨Nat.le_of_ble_eq_true rfl, Nat.le_of_ble_eq_true rfl⟩) (j_prV2z hK hG hI hw (ci := 10) rfl hfs) rfl rfl hl.1 (by rw [hrb10]; rfl) (lv_room (Nat.le_of_ble_eq_true rfl)) dX6_bookInterest_19 ⟨by show _ ≤ 0; omega, by show _ ≤ 0; omega⟩) (fun u8 μ9 H locs hw hI => ?_)
  refine W.eq (g2 := F0 m 22 ls []) rfl ?_
  exact j_vretz hx hb hr hlocks hI hw (by omega) (by omega) dX6_bookInterest_22
set_option maxHeartbeats 4000000 in
set_option maxRecDepth 100000 in
theorem kX6_bookInterest (l : Launch) (hfl : l.stackTraces = false) (D : jD) (z : Nat × Nat) (b : Nat)  (μ : jM) (sz : Nat) (Q : Unit → jM → Prop) : Met l yX6_bookInterest wsX6_bookInterest rmX6_bookInterest (jPre2z D z μ sz [.ref b] (wX6_bookInterest z b  μ Q)) (jRz jfV Q D z (jA z μ sz)) 0 0 (jA z μ sz) := by
  refine Met.ofW (cc := cX6_bookInterest) (maxL := 1) (ret := none) (by decide) rfl ?_
  intro p e s m args below meth c s₁ B hml hv
  obtain ⟨rfl, hsz, hH, hz0, hK, hG, hw⟩ := hv
  subst hsz
  have hX : jX2 D z (jA z μ s.heap.size) p l s m _ meth c yX6_bookInterest cX6_bookInterest 1 wsX6_bookInterest none := ⟨B.exec, B.bytes, hml, findClass_of_methodNamed B.named, atoms_spec (ws := wsX6_bookInterest) B.pre, B.returns, B.notSynchronized, (name_of_methodNamed B.named B.method).1, hK, hG, hfl⟩
  obtain ⟨ls, hg, hl⟩ : ∃ ls : Array Slot, entryFrame m ([.ref b] : List Value).toArray 1 = F0 m 0 ls [] ∧ lv_has ls 1 [(0, va_rf (some b))] := by
    exact ⟨_, lg_entry_eq .., lv_entry _ (n := 1) (Nat.le_of_ble_eq_true rfl)⟩
  rw [hg]
  exact kX6_bookInterest_0 hX hw (jIz.start hH hz0) (lv_sub hl [0] rfl) (by decide) (by decide)
set_option maxHeartbeats 4000000 in
set_option maxRecDepth 100000 in
theorem kX5_bookInterest_0 {b : Nat} (hX : jX2 D z A p l s m args meth c yX5_bookInterest cX5_bookInterest 3 wsX5_bookInterest none) {Q : Unit → jM → Prop}   {μ : jM} {H : Heap} {locs : List Loc} {ls : Array Slot} {cells slots : Nat} (hw : wX5_bookInterest_0 z b Q  μ) (hI : jIz D z A s.heap μ H locs) (hl : lv_has ls 3 [(0, va_rf (some b))]) (hcn : cells + 0 ≤ 0) (hsn : slots + 0 ≤ 0) : W p l e rmX5_bookInterest s m args below meth c H locs cells slots (MQ below (jRz jfV Q D z A) args s 0 0 A) (F0 m 0 ls []) := by
  unfold wX5_bookInterest_0 at hw
  obtain ⟨hx, hb, hml, hown, hts, hr, hlocks, hnm, hK, hG, hfl⟩ := id hX
  have hown : s.vm.findClass RX5 = some m.cls := hown
  have hfX0 : ∀ w ∈ wsX00, w.before args s = true := fun w h => hts w (List.mem_cons_of_mem _ (List.mem_append_right _ h))
  have hfX5 : ∀ w ∈ wsX50, w.before args s = true := fun w h => hts w (List.mem_cons_of_mem _ (List.mem_append_left _ (List.mem_append_right _ h)))
  refine j_aload_n (r := (some b)) hx hb dX5_bookInterest_0 rfl (lv_at hl 0 rfl) ?_
  obtain ⟨v1, hv1, hw⟩ := hw
  refine j_getz (C := RX5) (T := TX5) (N := 9) (ci := 8) (r := (some b)) (v := .long v1) hx hb hfX5 hown hK hI rfl 5 (by decide) (hts (.fieldLink RX5 22 "CashPools$Line" "sum" "J") (List.mem_of_getElem? (i := 1) (by decide +kernel))) (fun _ h => h) hv1 dX5_bookInterest_1 ?_
  refine lv_ldc2 (v := (3600000)) hx hb hown (hts (.constantLong RX5 29 (3600000)) (List.mem_of_getElem? (i := 2) (by decide +kernel))) dX5_bookInterest_4 ?_
  refine lv_ldiv hx hb dX5_bookInterest_7 (by decide) ?_
  refine lv_topl (fun v2 ev2 => ?_)
  have hw := hw v2 ev2
  refine lv_lstore_n (lv' := [(1, .long v2), (0, va_rf (some b))]) hx hb dX5_bookInterest_8 rfl hl (by decide) rfl (fun ls hl => ?_)
  refine j_aload_n (r := (some b)) hx hb dX5_bookInterest_9 rfl (lv_at hl 1 rfl) ?_
  refine lv_dup hx hb dX5_bookInterest_10 rfl ?_
  obtain ⟨v3, hv3, hw⟩ := hw
  refine j_getz (C := RX5) (T := TX5) (N := 9) (ci := 8) (r := (some b)) (v := .long v3) hx hb hfX5 hown hK hI rfl 5 (by decide) (hts (.fieldLink RX5 22 "CashPools$Line" "sum" "J") (List.mem_of_getElem? (i := 1) (by decide +kernel))) (fun _ h => h) hv3 dX5_bookInterest_11 ?_
  refine lv_lload_n hx hb dX5_bookInterest_14 rfl (lv_at hl 0 rfl) ?_
  refine lv_ldc2 (v := (3600000)) hx hb hown (hts (.constantLong RX5 29 (3600000)) (List.mem_of_getElem? (i := 2) (by decide +kernel))) dX5_bookInterest_15 ?_
  refine lv_lmul hx hb dX5_bookInterest_18 ?_
  refine lv_lsub hx hb dX5_bookInterest_19 ?_
  obtain ⟨μ4, hμ4, hw⟩ := hw
  refine j_putz (C := RX5) (T := TX5) (N := 9) (ci := 8) (r := (some b)) (v := .long (v3 - (v2 * (3600000 : Int64)))) hx hb hfX5 tyX5 tyX5_ok nmX5 hown hK hI rfl 5 (by decide) (hts (.fieldLink RX5 22 "CashPools$Line" "sum" "J") (List.mem_of_getElem? (i := 1) (by decide +kernel))) (fun _ h => h) rfl (tyX5_ok 5 (by decide)) rfl rfl hμ4 dX5_bookInterest_20 (fun H locs hI => ?_)
  refine j_aload_n (r := (some b)) hx hb dX5_bookInterest_23 rfl (lv_at hl 1 rfl) ?_
  refine lv_dup hx hb dX5_bookInterest_24 rfl ?_
  obtain ⟨v5, hv5, hw⟩ := hw
  refine j_getz (C := RX5) (T := TX5) (N := 9) (ci := 8) (r := (some b)) (v := .long v5) hx hb hfX5 hown hK hI rfl 4 (by decide) (hts (.fieldLink RX5 31 "CashPools$Line" "cost" "J") (List.mem_of_getElem? (i := 3) (by decide +kernel))) (fun _ h => h) hv5 dX5_bookInterest_25 ?_
  refine lv_lload_n hx hb dX5_bookInterest_28 rfl (lv_at hl 0 rfl) ?_
  refine lv_ladd hx hb dX5_bookInterest_29 ?_
  obtain ⟨μ6, hμ6, hw⟩ := hw
  refine j_putz (C := RX5) (T := TX5) (N := 9) (ci := 8) (r := (some b)) (v := .long (v5 + v2)) hx hb hfX5 tyX5 tyX5_ok nmX5 hown hK hI rfl 4 (by decide) (hts (.fieldLink RX5 31 "CashPools$Line" "cost" "J") (List.mem_of_getElem? (i := 3) (by decide +kernel))) (fun _ h => h) rfl (tyX5_ok 4 (by decide)) rfl rfl hμ6 dX5_bookInterest_30 (fun H locs hI => ?_)
  refine j_aload_n (r := (some b)) hx hb dX5_bookInterest_33 rfl (lv_at hl 1 rfl) ?_
  obtain ⟨v7, hv7, hw⟩ := hw
  refine j_getz (C := RX5) (T := TX5) (N := 9) (ci := 8) (r := (some b)) (v := va_rf v7) hx hb hfX5 hown hK hI rfl 0 (by decide) (hts (.fieldLink RX5 9 "CashPools$Line" "top" "LCashPools$Account;") (List.mem_of_getElem? (i := 4) (by decide +kernel))) (fun _ h => h) hv7 dX5_bookInterest_34 ?_
  refine lv_dup hx hb dX5_bookInterest_37 (jrc v7) ?_
  obtain ⟨v8, hv8, hw⟩ := hw
  refine j_getz (C := RX0) (T := TX0) (N := 12) (ci := 3) (r := v7) (v := .long v8) hx hb hfX0 hown hK hI rfl 8 (by decide) (hts (.fieldLink RX5 34 "CashPools$Account" "cash" "J") (List.mem_of_getElem? (i := 5) (by decide +kernel))) (fun _ h => h) hv8 dX5_bookInterest_38 ?_
  refine lv_lload_n hx hb dX5_bookInterest_41 rfl (lv_at hl 0 rfl) ?_
  refine lv_lsub hx hb dX5_bookInterest_42 ?_
  obtain ⟨μ9, hμ9, hw⟩ := hw
  refine j_putz (C := RX0) (T := TX0) (N := 12) (ci := 3) (r := v7) (v := .long (v8 - v2)) hx hb hfX0 tyX0 tyX0_ok nmX0 hown hK hI rfl 8 (by decide) (hts (.fieldLink RX5 34 "CashPools$Account" "cash" "J") (List.mem_of_getElem? (i := 5) (by decide +kernel))) (fun _ h => h) rfl (tyX0_ok 8 (by decide)) rfl rfl hμ9 dX5_bookInterest_43 (fun H locs hI => ?_)
  exact j_vretz hx hb hr hlocks hI hw (by omega) (by omega) dX5_bookInterest_46
set_option maxHeartbeats 4000000 in
set_option maxRecDepth 100000 in
theorem kX5_bookInterest (l : Launch) (hfl : l.stackTraces = false) (D : jD) (z : Nat × Nat) (b : Nat)  (μ : jM) (sz : Nat) (Q : Unit → jM → Prop) : Met l yX5_bookInterest wsX5_bookInterest rmX5_bookInterest (jPre2z D z μ sz [.ref b] (wX5_bookInterest z b  μ Q)) (jRz jfV Q D z (jA z μ sz)) 0 0 (jA z μ sz) := by
  refine Met.ofW (cc := cX5_bookInterest) (maxL := 3) (ret := none) (by decide) rfl ?_
  intro p e s m args below meth c s₁ B hml hv
  obtain ⟨rfl, hsz, hH, hz0, hK, hG, hw⟩ := hv
  subst hsz
  have hX : jX2 D z (jA z μ s.heap.size) p l s m _ meth c yX5_bookInterest cX5_bookInterest 3 wsX5_bookInterest none := ⟨B.exec, B.bytes, hml, findClass_of_methodNamed B.named, atoms_spec (ws := wsX5_bookInterest) B.pre, B.returns, B.notSynchronized, (name_of_methodNamed B.named B.method).1, hK, hG, hfl⟩
  obtain ⟨ls, hg, hl⟩ : ∃ ls : Array Slot, entryFrame m ([.ref b] : List Value).toArray 3 = F0 m 0 ls [] ∧ lv_has ls 3 [(0, va_rf (some b))] := by
    exact ⟨_, lg_entry_eq .., lv_entry _ (n := 3) (Nat.le_of_ble_eq_true rfl)⟩
  rw [hg]
  exact kX5_bookInterest_0 hX hw (jIz.start hH hz0) (lv_sub hl [0] rfl) (by decide) (by decide)
set_option maxHeartbeats 4000000 in
set_option maxRecDepth 100000 in
theorem kX3_bookInterest_38 {b : Nat} (hX : jX2 D z A p l s m args meth c yX3_bookInterest cX3_bookInterest 2 wsX3_bookInterest none) {Q : Unit → jM → Prop}  (n : Nat) : ∀ {x1 : Int32} {μ : jM} {H : Heap} {locs : List Loc} {ls : Array Slot} {cells slots : Nat}, wX3_bookInterest_38 z b Q n x1 μ → jIz D z A s.heap μ H locs → lv_has ls 2 [(0, va_rf (some b)), (1, .int x1)] → cells + 0 ≤ 0 → slots + 0 ≤ 0 → W p l e rmX3_bookInterest s m args below meth c H locs cells slots (MQ below (jRz jfV Q D z A) args s 0 0 A) (F0 m 38 ls []) := by
  induction n with
  | zero =>
    intros
    rename_i hw _ _ _ _
    exact (show False from hw).elim
  | succ n ih =>
    intro x1 μ H locs ls cells slots hw hI hl hcn hsn
    have hw : wX3_bookInterest_38_b z b Q (wX3_bookInterest_38 z b Q n) x1 μ := hw
    unfold wX3_bookInterest_38_b at hw
    obtain ⟨hx, hb, hml, hown, hts, hr, hlocks, hnm, hK, hG, hfl⟩ := id hX
    have hown : s.vm.findClass RX3 = some m.cls := hown
    have hfX3 : ∀ w ∈ wsX30, w.before args s = true := fun w h => hts w (List.mem_cons_of_mem _ (List.mem_append_left _ (List.mem_append_left _ (List.mem_append_left _ (List.mem_append_left _ (List.mem_append_left _ (List.mem_append_right _ h)))))))
    refine lv_iload_n hx hb dX3_bookInterest_38 rfl (lv_at hl 1 rfl) ?_
    refine j_aload_n (r := (some b)) hx hb dX3_bookInterest_39 rfl (lv_at hl 0 rfl) ?_
    obtain ⟨v1, hv1, hw⟩ := hw
    refine j_getz (C := RX3) (T := TX3) (N := 8) (ci := 6) (r := (some b)) (v := va_rf v1) hx hb hfX3 hown hK hI rfl 2 (by decide) (hts (.fieldLink RX3 21 "CashPools$Desk" "everyLine" "Ljava/util/ArrayList;") (List.mem_of_getElem? (i := 4) (by decide +kernel))) (fun _ h => h) hv1 dX3_bookInterest_40 ?_
    obtain ⟨b4, ⟨hrb4, hfs⟩, hw⟩ := hw
    refine j_goz hI (va_runV (As := []) (rest := [.int x1]) ⟨hx, hb, hml, hown, hts⟩ (kJx4a65c_size_8abf5 l hfl D z b4  μ H.size _) (cwV 0 hts gX3_bookInterest_Jx4a65c_size_8abf5 rfl rfl rfl (by decide +kernel) ⟨Nat.le_of_ble_eq_true rfl, Nat.le_of_ble_eq_true rfl⟩) (j_prV2z hK hG hI hw (ci := 2) rfl hfs) rfl rfl hl.1 (by rw [hrb4]; rfl) (lv_room (Nat.le_of_ble_eq_true rfl)) dX3_bookInterest_43 ⟨by show _ ≤ 0; omega, by show _ ≤ 0; omega⟩) (fun v2 μ3 H locs hw hI => ?_)
    refine W.eq (g2 := F0 m 46 ls [.int v2, .int x1]) rfl ?_
    refine lv_icmp_ge (tgt := 69) hx hb dX3_bookInterest_46 (by decide) (fun hc => ?_) (fun hc => ?_)
    · have hw := hw.1 hc
      exact j_vretz hx hb hr hlocks hI hw (by omega) (by omega) dX3_bookInterest_69
    · have hw := hw.2 hc
      refine j_aload_n (r := (some b)) hx hb dX3_bookInterest_49 rfl (lv_at hl 0 rfl) ?_
      obtain ⟨v5, hv5, hw⟩ := hw
      refine j_getz (C := RX3) (T := TX3) (N := 8) (ci := 6) (r := (some b)) (v := va_rf v5) hx hb hfX3 hown hK hI rfl 2 (by decide) (hts (.fieldLink RX3 21 "CashPools$Desk" "everyLine" "Ljava/util/ArrayList;") (List.mem_of_getElem? (i := 4) (by decide +kernel))) (fun _ h => h) hv5 dX3_bookInterest_50 ?_
      refine lv_iload_n hx hb dX3_bookInterest_53 rfl (lv_at hl 1 rfl) ?_
      obtain ⟨b8, ⟨hrb8, hfs⟩, hw⟩ := hw
      refine j_goz hI (va_runV (As := [.int x1]) (rest := []) ⟨hx, hb, hml, hown, hts⟩ (kJx4a65c_get_915e3 l hfl D z b8 x1 μ3 H.size _) (cwV 1 hts gX3_bookInterest_Jx4a65c_get_915e3 rfl rfl rfl (by decide +kernel) ⟨Nat.le_of_ble_eq_true rfl, Nat.le_of_ble_eq_true rfl⟩) (j_prV2z hK hG hI hw (ci := 2) rfl hfs) rfl rfl hl.1 (by rw [hrb8]; rfl) (lv_room (Nat.le_of_ble_eq_true rfl)) dX3_bookInterest_54 ⟨by show _ ≤ 0; omega, by show _ ≤ 0; omega⟩) (fun v6 μ7 H locs hw hI => ?_)
      refine W.eq (g2 := F0 m 57 ls [va_rf v6]) rfl ?_
      obtain ⟨h9, hw⟩ := hw
      refine j_castz (C := RX5) (T := TX5) (N := 9) (ci := 8) (r := v6) hx hb hown (hts (.classLink RX3 74 "CashPools$Line") (List.mem_of_getElem? (i := 5) (by decide +kernel))) hK hI rfl h9 dX3_bookInterest_57 ?_
      obtain ⟨b12, ⟨hrb12, hfs⟩, hw⟩ := hw
      refine j_goz hI (va_runV (As := []) (rest := []) ⟨hx, hb, hml, hown, hts⟩ (kX5_bookInterest l hfl D z b12  μ7 H.size _) (cwV 0 hts gX3_bookInterest_X5_bookInterest rfl rfl rfl (by decide +kernel) ⟨Nat.le_of_ble_eq_true rfl, Nat.le_of_ble_eq_true rfl⟩) (j_prV2z hK hG hI hw (ci := 8) rfl hfs) rfl rfl hl.1 (by rw [hrb12]; rfl) (lv_room (Nat.le_of_ble_eq_true rfl)) dX3_bookInterest_60 ⟨by show _ ≤ 0; omega, by show _ ≤ 0; omega⟩) (fun u10 μ11 H locs hw hI => ?_)
      refine W.eq (g2 := F0 m 63 ls []) rfl ?_
      obtain ⟨v13, ev13⟩ : ∃ y : Int32, y = x1 + (1 : Int32) := ⟨_, rfl⟩
      have hw := hw v13 ev13
      refine lv_iinc (v := v13) (lv' := [(1, .int v13), (0, va_rf (some b))]) hx hb dX3_bookInterest_63 hl (k := 1) rfl (by rw [ev13]; rfl) (by decide) rfl (fun ls hl => ?_)
      refine lv_goto (tgt := 38) hx hb dX3_bookInterest_66 (by decide) ?_
      exact ih hw hI (lv_sub hl [1, 0] rfl) (by omega) (by omega)
set_option maxHeartbeats 4000000 in
set_option maxRecDepth 100000 in
theorem kX3_bookInterest_2 {b : Nat} (hX : jX2 D z A p l s m args meth c yX3_bookInterest cX3_bookInterest 2 wsX3_bookInterest none) {Q : Unit → jM → Prop}  (n : Nat) : ∀ {x1 : Int32} {μ : jM} {H : Heap} {locs : List Loc} {ls : Array Slot} {cells slots : Nat}, wX3_bookInterest_2 z b Q n x1 μ → jIz D z A s.heap μ H locs → lv_has ls 2 [(0, va_rf (some b)), (1, .int x1)] → cells + 0 ≤ 0 → slots + 0 ≤ 0 → W p l e rmX3_bookInterest s m args below meth c H locs cells slots (MQ below (jRz jfV Q D z A) args s 0 0 A) (F0 m 2 ls []) := by
  induction n with
  | zero =>
    intros
    rename_i hw _ _ _ _
    exact (show False from hw).elim
  | succ n ih =>
    intro x1 μ H locs ls cells slots hw hI hl hcn hsn
    have hw : wX3_bookInterest_2_b z b Q (wX3_bookInterest_2 z b Q n) x1 μ := hw
    unfold wX3_bookInterest_2_b at hw
    obtain ⟨hx, hb, hml, hown, hts, hr, hlocks, hnm, hK, hG, hfl⟩ := id hX
    have hown : s.vm.findClass RX3 = some m.cls := hown
    have hfX0 : ∀ w ∈ wsX00, w.before args s = true := fun w h => hts w (List.mem_cons_of_mem _ (List.mem_append_left _ (List.mem_append_left _ (List.mem_append_left _ (List.mem_append_left _ (List.mem_append_right _ h))))))
    have hfX3 : ∀ w ∈ wsX30, w.before args s = true := fun w h => hts w (List.mem_cons_of_mem _ (List.mem_append_left _ (List.mem_append_left _ (List.mem_append_left _ (List.mem_append_left _ (List.mem_append_left _ (List.mem_append_right _ h)))))))
    refine lv_iload_n hx hb dX3_bookInterest_2 rfl (lv_at hl 1 rfl) ?_
    refine j_aload_n (r := (some b)) hx hb dX3_bookInterest_3 rfl (lv_at hl 0 rfl) ?_
    obtain ⟨v1, hv1, hw⟩ := hw
    refine j_getz (C := RX3) (T := TX3) (N := 8) (ci := 6) (r := (some b)) (v := va_rf v1) hx hb hfX3 hown hK hI rfl 1 (by decide) (hts (.fieldLink RX3 18 "CashPools$Desk" "tops" "Ljava/util/ArrayList;") (List.mem_of_getElem? (i := 1) (by decide +kernel))) (fun _ h => h) hv1 dX3_bookInterest_4 ?_
    obtain ⟨b4, ⟨hrb4, hfs⟩, hw⟩ := hw
    refine j_goz hI (va_runV (As := []) (rest := [.int x1]) ⟨hx, hb, hml, hown, hts⟩ (kJx4a65c_size_8abf5 l hfl D z b4  μ H.size _) (cwV 0 hts gX3_bookInterest_Jx4a65c_size_8abf5 rfl rfl rfl (by decide +kernel) ⟨Nat.le_of_ble_eq_true rfl, Nat.le_of_ble_eq_true rfl⟩) (j_prV2z hK hG hI hw (ci := 2) rfl hfs) rfl rfl hl.1 (by rw [hrb4]; rfl) (lv_room (Nat.le_of_ble_eq_true rfl)) dX3_bookInterest_7 ⟨by show _ ≤ 0; omega, by show _ ≤ 0; omega⟩) (fun v2 μ3 H locs hw hI => ?_)
    refine W.eq (g2 := F0 m 10 ls [.int v2, .int x1]) rfl ?_
    refine lv_icmp_ge (tgt := 36) hx hb dX3_bookInterest_10 (by decide) (fun hc => ?_) (fun hc => ?_)
    · have hw := hw.1 hc
      refine lv_iconst (v := (0)) hx hb dX3_bookInterest_36 (by decide) ?_
      refine lv_topi (fun v5 ev5 => ?_)
      have hw := hw v5 ev5
      refine lv_istore_n (lv' := [(1, .int v5), (0, va_rf (some b))]) hx hb dX3_bookInterest_37 rfl hl (by decide) rfl (fun ls hl => ?_)
      obtain ⟨n6, hw⟩ := hw
      exact kX3_bookInterest_38 hX  n6 hw hI (lv_sub hl [1, 0] rfl) (by omega) (by omega)
    · have hw := hw.2 hc
      refine j_aload_n (r := (some b)) hx hb dX3_bookInterest_13 rfl (lv_at hl 0 rfl) ?_
      obtain ⟨v7, hv7, hw⟩ := hw
      refine j_getz (C := RX3) (T := TX3) (N := 8) (ci := 6) (r := (some b)) (v := va_rf v7) hx hb hfX3 hown hK hI rfl 1 (by decide) (hts (.fieldLink RX3 18 "CashPools$Desk" "tops" "Ljava/util/ArrayList;") (List.mem_of_getElem? (i := 1) (by decide +kernel))) (fun _ h => h) hv7 dX3_bookInterest_14 ?_
      refine lv_iload_n hx hb dX3_bookInterest_17 rfl (lv_at hl 1 rfl) ?_
      obtain ⟨b10, ⟨hrb10, hfs⟩, hw⟩ := hw
      refine j_goz hI (va_runV (As := [.int x1]) (rest := []) ⟨hx, hb, hml, hown, hts⟩ (kJx4a65c_get_915e3 l hfl D z b10 x1 μ3 H.size _) (cwV 1 hts gX3_bookInterest_Jx4a65c_get_915e3 rfl rfl rfl (by decide +kernel) ⟨Nat.le_of_ble_eq_true rfl, Nat.le_of_ble_eq_true rfl⟩) (j_prV2z hK hG hI hw (ci := 2) rfl hfs) rfl rfl hl.1 (by rw [hrb10]; rfl) (lv_room (Nat.le_of_ble_eq_true rfl)) dX3_bookInterest_18 ⟨by show _ ≤ 0; omega, by show _ ≤ 0; omega⟩) (fun v8 μ9 H locs hw hI => ?_)
      refine W.eq (g2 := F0 m 21 ls [va_rf v8]) rfl ?_
      obtain ⟨h11, hw⟩ := hw
      refine j_castz (C := RX0) (T := TX0) (N := 12) (ci := 3) (r := v8) hx hb hown (hts (.classLink RX3 55 "CashPools$Account") (List.mem_of_getElem? (i := 2) (by decide +kernel))) hK hI rfl h11 dX3_bookInterest_21 ?_
      obtain ⟨v12, hv12, hw⟩ := hw
      refine j_getz (C := RX0) (T := TX0) (N := 12) (ci := 3) (r := v8) (v := va_rf v12) hx hb hfX0 hown hK hI rfl 2 (by decide) (hts (.fieldLink RX3 64 "CashPools$Account" "pool" "LCashPools$Pool;") (List.mem_of_getElem? (i := 3) (by decide +kernel))) (fun _ h => h) hv12 dX3_bookInterest_24 ?_
      obtain ⟨b15, ⟨hrb15, hfs⟩, hw⟩ := hw
      refine j_goz hI (va_runV (As := []) (rest := []) ⟨hx, hb, hml, hown, hts⟩ (kX6_bookInterest l hfl D z b15  μ9 H.size _) (cwV 0 hts gX3_bookInterest_X6_bookInterest rfl rfl rfl (by decide +kernel) ⟨Nat.le_of_ble_eq_true rfl, Nat.le_of_ble_eq_true rfl⟩) (j_prV2z hK hG hI hw (ci := 9) rfl hfs) rfl rfl hl.1 (by rw [hrb15]; rfl) (lv_room (Nat.le_of_ble_eq_true rfl)) dX3_bookInterest_27 ⟨by show _ ≤ 0; omega, by show _ ≤ 0; omega⟩) (fun u13 μ14 H locs hw hI => ?_)
      refine W.eq (g2 := F0 m 30 ls []) rfl ?_
      obtain ⟨v16, ev16⟩ : ∃ y : Int32, y = x1 + (1 : Int32) := ⟨_, rfl⟩
      have hw := hw v16 ev16
      refine lv_iinc (v := v16) (lv' := [(1, .int v16), (0, va_rf (some b))]) hx hb dX3_bookInterest_30 hl (k := 1) rfl (by rw [ev16]; rfl) (by decide) rfl (fun ls hl => ?_)
      refine lv_goto (tgt := 2) hx hb dX3_bookInterest_33 (by decide) ?_
      exact ih hw hI (lv_sub hl [1, 0] rfl) (by omega) (by omega)
set_option maxHeartbeats 4000000 in
set_option maxRecDepth 100000 in
theorem kX3_bookInterest_0 {b : Nat} (hX : jX2 D z A p l s m args meth c yX3_bookInterest cX3_bookInterest 2 wsX3_bookInterest none) {Q : Unit → jM → Prop}   {μ : jM} {H : Heap} {locs : List Loc} {ls : Array Slot} {cells slots : Nat} (hw : wX3_bookInterest_0 z b Q  μ) (hI : jIz D z A s.heap μ H locs) (hl : lv_has ls 2 [(0, va_rf (some b))]) (hcn : cells + 0 ≤ 0) (hsn : slots + 0 ≤ 0) : W p l e rmX3_bookInterest s m args below meth c H locs cells slots (MQ below (jRz jfV Q D z A) args s 0 0 A) (F0 m 0 ls []) := by
  unfold wX3_bookInterest_0 at hw
  obtain ⟨hx, hb, hml, hown, hts, hr, hlocks, hnm, hK, hG, hfl⟩ := id hX
  have hown : s.vm.findClass RX3 = some m.cls := hown
  refine lv_iconst (v := (0)) hx hb dX3_bookInterest_0 (by decide) ?_
  refine lv_topi (fun v1 ev1 => ?_)
  have hw := hw v1 ev1
  refine lv_istore_n (lv' := [(1, .int v1), (0, va_rf (some b))]) hx hb dX3_bookInterest_1 rfl hl (by decide) rfl (fun ls hl => ?_)
  obtain ⟨n2, hw⟩ := hw
  exact kX3_bookInterest_2 hX  n2 hw hI (lv_sub hl [1, 0] rfl) (by omega) (by omega)
set_option maxHeartbeats 4000000 in
set_option maxRecDepth 100000 in
theorem kX3_bookInterest (l : Launch) (hfl : l.stackTraces = false) (D : jD) (z : Nat × Nat) (b : Nat)  (μ : jM) (sz : Nat) (Q : Unit → jM → Prop) : Met l yX3_bookInterest wsX3_bookInterest rmX3_bookInterest (jPre2z D z μ sz [.ref b] (wX3_bookInterest z b  μ Q)) (jRz jfV Q D z (jA z μ sz)) 0 0 (jA z μ sz) := by
  refine Met.ofW (cc := cX3_bookInterest) (maxL := 2) (ret := none) (by decide) rfl ?_
  intro p e s m args below meth c s₁ B hml hv
  obtain ⟨rfl, hsz, hH, hz0, hK, hG, hw⟩ := hv
  subst hsz
  have hX : jX2 D z (jA z μ s.heap.size) p l s m _ meth c yX3_bookInterest cX3_bookInterest 2 wsX3_bookInterest none := ⟨B.exec, B.bytes, hml, findClass_of_methodNamed B.named, atoms_spec (ws := wsX3_bookInterest) B.pre, B.returns, B.notSynchronized, (name_of_methodNamed B.named B.method).1, hK, hG, hfl⟩
  obtain ⟨ls, hg, hl⟩ : ∃ ls : Array Slot, entryFrame m ([.ref b] : List Value).toArray 2 = F0 m 0 ls [] ∧ lv_has ls 2 [(0, va_rf (some b))] := by
    exact ⟨_, lg_entry_eq .., lv_entry _ (n := 2) (Nat.le_of_ble_eq_true rfl)⟩
  rw [hg]
  exact kX3_bookInterest_0 hX hw (jIz.start hH hz0) (lv_sub hl [0] rfl) (by decide) (by decide)
end
