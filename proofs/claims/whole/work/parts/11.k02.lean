section
variable {p : Program} {l : Launch} {e : Env} {s : State} {m : MethodId} {args : Array Value} {below : List Frame} {meth : Method} {c : Code} {D : jD} {z : Nat × Nat} {A : Nat → Prop}
set_option maxHeartbeats 4000000 in
set_option maxRecDepth 100000 in
theorem kX3_openLine_0 {b : Nat} (hX : jX2 D z A p l s m args meth c yX3_openLine cX3_openLine 5 wsX3_openLine (some .int)) {Q : Int32 → jM → Prop}  {x1 : Option Nat} {x2 : Int32} {x3 : Int32} {μ : jM} {H : Heap} {locs : List Loc} {ls : Array Slot} {cells slots : Nat} (hw : wX3_openLine_0 z b Q x1 x2 x3 μ) (hI : jIz D z A s.heap μ H locs) (hl : lv_has ls 5 [(0, va_rf (some b)), (1, va_rf x1), (2, .int x2), (3, .int x3)]) (hcn : cells + 3 ≤ 3) (hsn : slots + 73 ≤ 73) : W p l e rmX3_openLine s m args below meth c H locs cells slots (MQ below (jRz jfI Q D z A) args s 3 73 A) (F0 m 0 ls []) := by
  unfold wX3_openLine_0 at hw
  obtain ⟨hx, hb, hml, hown, hts, hr, hlocks, hnm, hK, hG, hfl⟩ := id hX
  have hown : s.vm.findClass RX3 = some m.cls := hown
  have hfX0 : ∀ w ∈ wsX00, w.before args s = true := fun w h => hts w (List.mem_cons_of_mem _ (List.mem_append_left _ (List.mem_append_left _ (List.mem_append_right _ h))))
  have hfX3 : ∀ w ∈ wsX30, w.before args s = true := fun w h => hts w (List.mem_cons_of_mem _ (List.mem_append_left _ (List.mem_append_left _ (List.mem_append_left _ (List.mem_append_right _ h)))))
  have hfX5 : ∀ w ∈ wsX50, w.before args s = true := fun w h => hts w (List.mem_cons_of_mem _ (List.mem_append_left _ (List.mem_append_left _ (List.mem_append_left _ (List.mem_append_left _ (List.mem_append_right _ h))))))
  refine j_newz (C := RX5) (T := TX5) (N := 9) (ci := 8) (fs := jfX5) hx hb hfX5 tyX5 tyX5_ok hown (hts (.classLink RX3 74 RX5) (List.mem_of_getElem? (i := 1) (by decide +kernel))) (hts (.instantiable RX5 9) (List.mem_of_getElem? (i := 2) (by decide +kernel))) (hts (.initialized RX5) (List.mem_of_getElem? (i := 3) (by decide +kernel))) hK hI rfl jdX5 (by show _ ≤ 3; omega) (by show _ ≤ 73; omega) dX3_openLine_0 (fun q1 H hq1 hI => ?_)
  have hw := hw q1 hq1
  refine lv_dup hx hb dX3_openLine_3 rfl ?_
  refine j_aload_n (r := x1) hx hb dX3_openLine_4 rfl (lv_at hl 1 rfl) ?_
  refine lv_iload_n hx hb dX3_openLine_5 rfl (lv_at hl 2 rfl) ?_
  refine lv_iload_n hx hb dX3_openLine_6 rfl (lv_at hl 3 rfl) ?_
  refine j_goz hI (va_runI (As := [va_rf x1, .int x2, .int x3]) (rest := [va_rf (some q1)]) ⟨hx, hb, hml, hown, hts⟩ (kX5_init l hfl D z q1 x1 x2 x3 (va_up μ q1 (some (.inr (8, jfX5)))) H.size _) (cwI 3 hts gX3_openLine_X5_init rfl rfl rfl (hts (.initialized RX5) (List.mem_of_getElem? (i := 3) (by decide +kernel))) (hts (.methodLink RX3 76 yX5_init) (List.mem_of_getElem? (i := 6) (by decide +kernel))) (hts (.instanceMethod yX5_init) (List.mem_of_getElem? (i := 7) (by decide +kernel))) rfl (by decide +kernel) ⟨Nat.le_of_ble_eq_true rfl, Nat.le_of_ble_eq_true rfl⟩) (j_prS2z hK hG hI hw) rfl rfl hl.1 rfl (lv_room (Nat.le_of_ble_eq_true rfl)) dX3_openLine_7 ⟨by show _ ≤ 3; omega, by show _ ≤ 73; omega⟩) (fun u2 μ3 H locs hw hI => ?_)
  refine W.eq (g2 := F0 m 10 ls [va_rf (some q1)]) rfl ?_
  refine j_astore (r := (some q1)) (lv' := [(4, va_rf (some q1)), (0, va_rf (some b)), (1, va_rf x1), (2, .int x2), (3, .int x3)]) hx hb dX3_openLine_10 hl (by decide) rfl (fun ls hl => ?_)
  refine j_aload_n (r := (some b)) hx hb dX3_openLine_12 rfl (lv_at hl 1 rfl) ?_
  obtain ⟨v4, hv4, hw⟩ := hw
  refine j_getz (C := RX3) (T := TX3) (N := 8) (ci := 6) (r := (some b)) (v := va_rf v4) hx hb hfX3 hown hK hI rfl 2 (by decide) (hts (.fieldLink RX3 21 "CashPools$Desk" "everyLine" "Ljava/util/ArrayList;") (List.mem_of_getElem? (i := 4) (by decide +kernel))) (fun _ h => h) hv4 dX3_openLine_13 ?_
  refine j_aload (r := (some q1)) hx hb dX3_openLine_16 (lv_at hl 0 rfl) ?_
  obtain ⟨b7, ⟨hrb7, hfs⟩, hw⟩ := hw
  refine j_goz hI (va_runV (As := [va_rf (some q1)]) (rest := []) ⟨hx, hb, hml, hown, hts⟩ (kJx4a65c_add_9ea2d l hfl D z b7 (some q1) μ3 H.size _) (cwV 1 hts gX3_openLine_Jx4a65c_add_9ea2d rfl rfl rfl (by decide +kernel) ⟨Nat.le_of_ble_eq_true rfl, Nat.le_of_ble_eq_true rfl⟩) (j_prV2z hK hG hI hw (ci := 2) rfl hfs) rfl rfl hl.1 (by rw [hrb7]; rfl) (lv_room (Nat.le_of_ble_eq_true rfl)) dX3_openLine_18 ⟨by show _ ≤ 3; omega, by show _ ≤ 73; omega⟩) (fun v5 μ6 H locs hw hI => ?_)
  refine W.eq (g2 := F0 m 21 ls [.int v5]) rfl ?_
  refine lv_pop hx hb dX3_openLine_21 rfl ?_
  refine j_aload_n (r := x1) hx hb dX3_openLine_22 rfl (lv_at hl 2 rfl) ?_
  obtain ⟨v8, hv8, hw⟩ := hw
  refine j_getz (C := RX0) (T := TX0) (N := 12) (ci := 3) (r := x1) (v := va_rf v8) hx hb hfX0 hown hK hI rfl 2 (by decide) (hts (.fieldLink RX3 64 "CashPools$Account" "pool" "LCashPools$Pool;") (List.mem_of_getElem? (i := 5) (by decide +kernel))) (fun _ h => h) hv8 dX3_openLine_23 ?_
  refine j_aload (r := (some q1)) hx hb dX3_openLine_26 (lv_at hl 0 rfl) ?_
  obtain ⟨b11, ⟨hrb11, hfs⟩, hw⟩ := hw
  refine j_goz hI (va_runV (As := [va_rf (some q1)]) (rest := []) ⟨hx, hb, hml, hown, hts⟩ (kX6_rank l hfl D z b11 (some q1) μ6 H.size _) (cwV 1 hts gX3_openLine_X6_rank rfl rfl rfl (by decide +kernel) ⟨Nat.le_of_ble_eq_true rfl, Nat.le_of_ble_eq_true rfl⟩) (j_prV2z hK hG hI hw (ci := 9) rfl hfs) rfl rfl hl.1 (by rw [hrb11]; rfl) (lv_room (Nat.le_of_ble_eq_true rfl)) dX3_openLine_28 ⟨by show _ ≤ 3; omega, by show _ ≤ 73; omega⟩) (fun u9 μ10 H locs hw hI => ?_)
  refine W.eq (g2 := F0 m 31 ls []) rfl ?_
  refine j_aload_n (r := (some b)) hx hb dX3_openLine_31 rfl (lv_at hl 1 rfl) ?_
  obtain ⟨v12, hv12, hw⟩ := hw
  refine j_getz (C := RX3) (T := TX3) (N := 8) (ci := 6) (r := (some b)) (v := va_rf v12) hx hb hfX3 hown hK hI rfl 2 (by decide) (hts (.fieldLink RX3 21 "CashPools$Desk" "everyLine" "Ljava/util/ArrayList;") (List.mem_of_getElem? (i := 4) (by decide +kernel))) (fun _ h => h) hv12 dX3_openLine_32 ?_
  obtain ⟨b15, ⟨hrb15, hfs⟩, hw⟩ := hw
  refine j_goz hI (va_runV (As := []) (rest := []) ⟨hx, hb, hml, hown, hts⟩ (kJx4a65c_size_8abf5 l hfl D z b15  μ10 H.size _) (cwV 0 hts gX3_openLine_Jx4a65c_size_8abf5 rfl rfl rfl (by decide +kernel) ⟨Nat.le_of_ble_eq_true rfl, Nat.le_of_ble_eq_true rfl⟩) (j_prV2z hK hG hI hw (ci := 2) rfl hfs) rfl rfl hl.1 (by rw [hrb15]; rfl) (lv_room (Nat.le_of_ble_eq_true rfl)) dX3_openLine_35 ⟨by show _ ≤ 3; omega, by show _ ≤ 73; omega⟩) (fun v13 μ14 H locs hw hI => ?_)
  refine W.eq (g2 := F0 m 38 ls [.int v13]) rfl ?_
  refine lv_iconst (v := (1)) hx hb dX3_openLine_38 (by decide) ?_
  refine lv_isub hx hb dX3_openLine_39 ?_
  exact j_iretz hx hb hr hlocks hI hw (by omega) (by omega) dX3_openLine_40
set_option maxHeartbeats 4000000 in
set_option maxRecDepth 100000 in
theorem kX3_openLine (l : Launch) (hfl : l.stackTraces = false) (D : jD) (z : Nat × Nat) (b : Nat) (x1 : Option Nat) (x2 : Int32) (x3 : Int32) (μ : jM) (sz : Nat) (Q : Int32 → jM → Prop) : Met l yX3_openLine wsX3_openLine rmX3_openLine (jPre2z D z μ sz [.ref b, va_rf x1, .int x2, .int x3] (wX3_openLine z b x1 x2 x3 μ Q)) (jRz jfI Q D z (jA z μ sz)) 3 73 (jA z μ sz) := by
  refine Met.ofW (cc := cX3_openLine) (maxL := 5) (ret := (some .int)) (by decide) rfl ?_
  intro p e s m args below meth c s₁ B hml hv
  obtain ⟨rfl, hsz, hH, hz0, hK, hG, hw⟩ := hv
  subst hsz
  have hX : jX2 D z (jA z μ s.heap.size) p l s m _ meth c yX3_openLine cX3_openLine 5 wsX3_openLine (some .int) := ⟨B.exec, B.bytes, hml, findClass_of_methodNamed B.named, atoms_spec (ws := wsX3_openLine) B.pre, B.returns, B.notSynchronized, (name_of_methodNamed B.named B.method).1, hK, hG, hfl⟩
  obtain ⟨ls, hg, hl⟩ : ∃ ls : Array Slot, entryFrame m ([.ref b, va_rf x1, .int x2, .int x3] : List Value).toArray 5 = F0 m 0 ls [] ∧ lv_has ls 5 [(0, va_rf (some b)), (1, va_rf x1), (2, .int x2), (3, .int x3)] := by
    cases x1 <;> exact ⟨_, lg_entry_eq .., lv_entry _ (n := 5) (Nat.le_of_ble_eq_true rfl)⟩
  rw [hg]
  exact kX3_openLine_0 hX hw (jIz.start hH hz0) (lv_sub hl [0, 1, 2, 3] rfl) (by decide) (by decide)
set_option maxHeartbeats 4000000 in
set_option maxRecDepth 100000 in
theorem kX9_addLine_0 {b : Nat} (hX : jX2 D z A p l s m args meth c yX9_addLine cX9_addLine 5 wsX9_addLine (some .int)) (hno : ∀ x ∈ c.exceptionTable.toList, False) {Q : Int32 → jM → Prop} {X : String → jM → Prop}  {x1 : Int32} {x2 : Int32} {x3 : Int32} {μ : jM} {H : Heap} {locs : List Loc} {ls : Array Slot} {cells slots : Nat} (hw : wX9_addLine_0 z b Q X x1 x2 x3 μ) (hI : jIz D z A s.heap μ H locs) (hl : lv_has ls 5 [(0, va_rf (some b)), (1, .int x1), (2, .int x2), (3, .int x3)]) (hcn : cells + 7 ≤ 7) (hsn : slots + 97 ≤ 97) : W p l e rmX9_addLine s m args below meth c H locs cells slots (vx_MQ below (jRz jfI Q D z A) (jXCz X D z A) args s 7 97 A) (F0 m 0 ls []) := by
  unfold wX9_addLine_0 at hw
  obtain ⟨hx, hb, hml, hown, hts, hr, hlocks, hnm, hK, hG, hfl⟩ := id hX
  have hown : s.vm.findClass RX9 = some m.cls := hown
  have hfX3 : ∀ w ∈ wsX30, w.before args s = true := fun w h => hts w (List.mem_cons_of_mem _ (List.mem_append_left _ (List.mem_append_left _ (List.mem_append_left _ (List.mem_append_left _ (List.mem_append_left _ (List.mem_append_left _ (List.mem_append_left _ (List.mem_append_right _ h)))))))))
  have hfX9 : ∀ w ∈ wsX90, w.before args s = true := fun w h => hts w (List.mem_cons_of_mem _ (List.mem_append_left _ (List.mem_append_left _ (List.mem_append_left _ (List.mem_append_left _ (List.mem_append_left _ (List.mem_append_left _ (List.mem_append_left _ (List.mem_append_left _ (List.mem_append_right _ h))))))))))
  refine j_aload_n (r := (some b)) hx hb dX9_addLine_0 rfl (lv_at hl 0 rfl) ?_
  refine lv_iload_n hx hb dX9_addLine_1 rfl (lv_at hl 1 rfl) ?_
  obtain ⟨hfs, hw⟩ := hw
  refine j_goXz hI (vx_runV (As := [.int x1]) (rest := []) ⟨hx, hb, hml, hown, hts⟩ (kX9_accountAt l hfl D z b x1 μ H.size _ _) (cwV 1 hts gX9_addLine_X9_accountAt rfl rfl rfl (by decide +kernel) ⟨Nat.le_of_ble_eq_true rfl, Nat.le_of_ble_eq_true rfl⟩) (j_prV2z hK hG hI hw (ci := 11) rfl hfs) rfl rfl hl.1 rfl (lv_room (Nat.le_of_ble_eq_true rfl)) dX9_addLine_2 ⟨by show _ ≤ 7; omega, by show _ ≤ 97; omega⟩) (fun E ce q9 μX H locs hw hI hce hcv hcl => ?_) (fun v1 μ2 H locs hw hI => ?_)
  · exact j_outz hno hlocks hI hce hcv hcl hw (by omega) (by omega)
  refine W.eq (g2 := F0 m 5 ls [va_rf v1]) rfl ?_
  refine j_astore (r := v1) (lv' := [(4, va_rf v1), (0, va_rf (some b)), (1, .int x1), (2, .int x2), (3, .int x3)]) hx hb dX9_addLine_5 hl (by decide) rfl (fun ls hl => ?_)
  refine lv_iload_n hx hb dX9_addLine_7 rfl (lv_at hl 3 rfl) ?_
  refine lv_iconst (v := (1)) hx hb dX9_addLine_8 (by decide) ?_
  refine lv_ldc (v := (10000000)) hx hb hown (hts (.constant RX9 64 (10000000)) (List.mem_of_getElem? (i := 3) (by decide +kernel))) dX9_addLine_9 ?_
  refine j_goXz hI (vx_runS (As := [.int x2, .int (1 : Int32), .int (10000000 : Int32)]) (rest := []) ⟨hx, hb, hml, hown, hts⟩ (kX9_requireWithin l hfl D z x2 (1 : Int32) (10000000 : Int32) μ2 H.size _ _) (va_cwS 3 hts gX9_addLine_X9_requireWithin rfl rfl rfl (by decide +kernel) ⟨Nat.le_of_ble_eq_true rfl, Nat.le_of_ble_eq_true rfl⟩) (j_prS2z hK hG hI hw) rfl rfl hl.1 rfl (lv_room (Nat.le_of_ble_eq_true rfl)) dX9_addLine_11 ⟨by show _ ≤ 7; omega, by show _ ≤ 97; omega⟩) (fun E ce q9 μX H locs hw hI hce hcv hcl => ?_) (fun u3 μ4 H locs hw hI => ?_)
  · exact j_outz hno hlocks hI hce hcv hcl hw (by omega) (by omega)
  refine W.eq (g2 := F0 m 14 ls []) rfl ?_
  refine lv_iload_n hx hb dX9_addLine_14 rfl (lv_at hl 4 rfl) ?_
  refine lv_iconst (v := (0)) hx hb dX9_addLine_15 (by decide) ?_
  refine lv_sipush (v := (1000)) hx hb dX9_addLine_16 (by decide) ?_
  refine j_goXz hI (vx_runS (As := [.int x3, .int (0 : Int32), .int (1000 : Int32)]) (rest := []) ⟨hx, hb, hml, hown, hts⟩ (kX9_requireWithin l hfl D z x3 (0 : Int32) (1000 : Int32) μ4 H.size _ _) (va_cwS 3 hts gX9_addLine_X9_requireWithin rfl rfl rfl (by decide +kernel) ⟨Nat.le_of_ble_eq_true rfl, Nat.le_of_ble_eq_true rfl⟩) (j_prS2z hK hG hI hw) rfl rfl hl.1 rfl (lv_room (Nat.le_of_ble_eq_true rfl)) dX9_addLine_19 ⟨by show _ ≤ 7; omega, by show _ ≤ 97; omega⟩) (fun E ce q9 μX H locs hw hI hce hcv hcl => ?_) (fun u5 μ6 H locs hw hI => ?_)
  · exact j_outz hno hlocks hI hce hcv hcl hw (by omega) (by omega)
  refine W.eq (g2 := F0 m 22 ls []) rfl ?_
  refine j_aload (r := v1) hx hb dX9_addLine_22 (lv_at hl 0 rfl) ?_
  refine j_goXz hI (vx_runS (As := [va_rf v1]) (rest := []) ⟨hx, hb, hml, hown, hts⟩ (kX9_requireTop l hfl D z v1 μ6 H.size _ _) (va_cwS 1 hts gX9_addLine_X9_requireTop rfl rfl rfl (by decide +kernel) ⟨Nat.le_of_ble_eq_true rfl, Nat.le_of_ble_eq_true rfl⟩) (j_prS2z hK hG hI hw) rfl rfl hl.1 rfl (lv_room (Nat.le_of_ble_eq_true rfl)) dX9_addLine_24 ⟨by show _ ≤ 7; omega, by show _ ≤ 97; omega⟩) (fun E ce q9 μX H locs hw hI hce hcv hcl => ?_) (fun u7 μ8 H locs hw hI => ?_)
  · exact j_outz hno hlocks hI hce hcv hcl hw (by omega) (by omega)
  refine W.eq (g2 := F0 m 27 ls []) rfl ?_
  refine j_aload_n (r := (some b)) hx hb dX9_addLine_27 rfl (lv_at hl 1 rfl) ?_
  obtain ⟨v9, hv9, hw⟩ := hw
  refine j_getz (C := RX9) (T := TX9) (N := 1) (ci := 11) (r := (some b)) (v := va_rf v9) hx hb hfX9 hown hK hI rfl 0 (by decide) (hts (.fieldLink RX9 10 "CashPools" "desk" "LCashPools$Desk;") (List.mem_of_getElem? (i := 4) (by decide +kernel))) (fun _ h => h) hv9 dX9_addLine_28 ?_
  obtain ⟨v10, hv10, hw⟩ := hw
  refine j_getz (C := RX3) (T := TX3) (N := 8) (ci := 6) (r := v9) (v := va_rf v10) hx hb hfX3 hown hK hI rfl 2 (by decide) (hts (.fieldLink RX9 69 "CashPools$Desk" "everyLine" "Ljava/util/ArrayList;") (List.mem_of_getElem? (i := 5) (by decide +kernel))) (fun _ h => h) hv10 dX9_addLine_31 ?_
  obtain ⟨b13, ⟨hrb13, hfs⟩, hw⟩ := hw
  refine j_goz hI (va_runV (As := []) (rest := []) ⟨hx, hb, hml, hown, hts⟩ (kJx4a65c_size_8abf5 l hfl D z b13  μ8 H.size _) (cwV 0 hts gX9_addLine_Jx4a65c_size_8abf5 rfl rfl rfl (by decide +kernel) ⟨Nat.le_of_ble_eq_true rfl, Nat.le_of_ble_eq_true rfl⟩) (j_prV2z hK hG hI hw (ci := 2) rfl hfs) rfl rfl hl.1 (by rw [hrb13]; rfl) (lv_room (Nat.le_of_ble_eq_true rfl)) dX9_addLine_34 ⟨by show _ ≤ 7; omega, by show _ ≤ 97; omega⟩) (fun v11 μ12 H locs hw hI => ?_)
  refine W.eq (g2 := F0 m 37 ls [.int v11]) rfl ?_
  refine lv_bipush (v := (6)) hx hb dX9_addLine_37 (by decide) ?_
  refine lv_icmp_lt (tgt := 52) hx hb dX9_addLine_39 (by decide) (fun hc => ?_) (fun hc => ?_)
  · have hw := hw.1 hc
    refine j_aload_n (r := (some b)) hx hb dX9_addLine_52 rfl (lv_at hl 1 rfl) ?_
    obtain ⟨v14, hv14, hw⟩ := hw
    refine j_getz (C := RX9) (T := TX9) (N := 1) (ci := 11) (r := (some b)) (v := va_rf v14) hx hb hfX9 hown hK hI rfl 0 (by decide) (hts (.fieldLink RX9 10 "CashPools" "desk" "LCashPools$Desk;") (List.mem_of_getElem? (i := 4) (by decide +kernel))) (fun _ h => h) hv14 dX9_addLine_53 ?_
    refine j_aload (r := v1) hx hb dX9_addLine_56 (lv_at hl 0 rfl) ?_
    refine lv_iload_n hx hb dX9_addLine_58 rfl (lv_at hl 3 rfl) ?_
    refine lv_iload_n hx hb dX9_addLine_59 rfl (lv_at hl 4 rfl) ?_
    obtain ⟨b17, ⟨hrb17, hfs⟩, hw⟩ := hw
    refine j_goz hI (va_runV (As := [va_rf v1, .int x2, .int x3]) (rest := []) ⟨hx, hb, hml, hown, hts⟩ (kX3_openLine l hfl D z b17 v1 x2 x3 μ12 H.size _) (cwV 3 hts gX9_addLine_X3_openLine rfl rfl rfl (by decide +kernel) ⟨Nat.le_of_ble_eq_true rfl, Nat.le_of_ble_eq_true rfl⟩) (j_prV2z hK hG hI hw (ci := 6) rfl hfs) rfl rfl hl.1 (by rw [hrb17]; rfl) (lv_room (Nat.le_of_ble_eq_true rfl)) dX9_addLine_60 ⟨by show _ ≤ 7; omega, by show _ ≤ 97; omega⟩) (fun v15 μ16 H locs hw hI => ?_)
    refine W.eq (g2 := F0 m 63 ls [.int v15]) rfl ?_
    exact vx_ret (j_iretz hx hb hr hlocks hI hw (by omega) (by omega) dX9_addLine_63)
  · have hw := hw.2 hc
    exact j_throw2z (names := ["java/lang/RuntimeException", "java/lang/Exception"]) (cls := "java/lang/IllegalStateException") (text := "there is no line left") (ik := 47) (is := 79) (ic := 51) hx hb hno hfl hml hl.1 hown (by decide +kernel) (by decide +kernel) (hts (.classLink RX9 47 "java/lang/IllegalStateException") (List.mem_of_getElem? (i := 1) (by decide +kernel))) (hts (.initialized "java/lang/IllegalStateException") (List.mem_of_getElem? (i := 2) (by decide +kernel))) hG (by decide +kernel) (fun w h => hts w (List.mem_cons_of_mem _ (List.mem_append_left _ (List.mem_append_left _ (List.mem_append_right _ h))))) (by decide +kernel) (by decide +kernel) (by decide +kernel) dX9_addLine_42 dX9_addLine_45 dX9_addLine_46 dX9_addLine_48 dX9_addLine_51 (Nat.le_of_ble_eq_true rfl) (Nat.le_of_ble_eq_true rfl) (by show _ ≤ 7; omega) (by show _ ≤ 97; omega) hlocks hI hw (by omega) (by omega)
set_option maxHeartbeats 4000000 in
set_option maxRecDepth 100000 in
theorem kX9_addLine (l : Launch) (hfl : l.stackTraces = false) (D : jD) (z : Nat × Nat) (b : Nat) (x1 : Int32) (x2 : Int32) (x3 : Int32) (μ : jM) (sz : Nat) (Q : Int32 → jM → Prop) (X : String → jM → Prop) : vx_Met l yX9_addLine wsX9_addLine rmX9_addLine (jPre2z D z μ sz [.ref b, .int x1, .int x2, .int x3] (wX9_addLine z b x1 x2 x3 μ Q X)) (jRz jfI Q D z (jA z μ sz)) (jXCz X D z (jA z μ sz)) 7 97 (jA z μ sz) := by
  refine vx_ofW (cc := cX9_addLine) (maxL := 5) (ret := (some .int)) (by decide) rfl ?_
  intro p e s m args below meth c s₁ B hml hno hv
  obtain ⟨rfl, hsz, hH, hz0, hK, hG, hw⟩ := hv
  subst hsz
  have hX : jX2 D z (jA z μ s.heap.size) p l s m _ meth c yX9_addLine cX9_addLine 5 wsX9_addLine (some .int) := ⟨B.exec, B.bytes, hml, findClass_of_methodNamed B.named, atoms_spec (ws := wsX9_addLine) B.pre, B.returns, B.notSynchronized, (name_of_methodNamed B.named B.method).1, hK, hG, hfl⟩
  obtain ⟨ls, hg, hl⟩ : ∃ ls : Array Slot, entryFrame m ([.ref b, .int x1, .int x2, .int x3] : List Value).toArray 5 = F0 m 0 ls [] ∧ lv_has ls 5 [(0, va_rf (some b)), (1, .int x1), (2, .int x2), (3, .int x3)] := by
    exact ⟨_, lg_entry_eq .., lv_entry _ (n := 5) (Nat.le_of_ble_eq_true rfl)⟩
  rw [hg]
  exact kX9_addLine_0 hX hno hw (jIz.start hH hz0) (lv_sub hl [0, 1, 2, 3] rfl) (by decide) (by decide)
set_option maxHeartbeats 4000000 in
set_option maxRecDepth 100000 in
theorem kL_addLine_0 (hX : jX2 D z A p l s m args meth c yL_addLine cL_addLine 6 wsL_addLine (some .int)) (htab : c.exceptionTable.toList = ([⟨0, 12, 15, 21⟩, ⟨0, 12, 19, 13⟩, ⟨0, 12, 23, 15⟩] : List ExceptionTableEntry)) {Q : Int32 → jM → Prop}  {x0 : Option Nat} {x1 : Int32} {x2 : Int32} {x3 : Int32} {x4 : Option Nat} {μ : jM} {H : Heap} {locs : List Loc} {ls : Array Slot} {cells slots : Nat} (hw : wL_addLine_0 z Q x0 x1 x2 x3 x4 μ) (hI : jIz D z A s.heap μ H locs) (hl : lv_has ls 6 [(0, va_rf x0), (1, .int x1), (2, .int x2), (3, .int x3), (4, va_rf x4)]) (hcn : cells + 7 ≤ 7) (hsn : slots + 97 ≤ 97) : W p l e rmL_addLine s m args below meth c H locs cells slots (vx_MQ below (jRz jfI Q D z A) (jXCz (fun _ _ => False) D z A) args s 7 97 A) (F0 m 0 ls []) := by
  unfold wL_addLine_0 at hw
  obtain ⟨hx, hb, hml, hown, hts, hr, hlocks, hnm, hK, hG, hfl⟩ := id hX
  have hown : s.vm.findClass RL = some m.cls := hown
  refine j_aload (r := x4) hx hb dL_addLine_0 (lv_at hl 4 rfl) ?_
  refine lv_iconst (v := (0)) hx hb dL_addLine_2 (by decide) ?_
  refine j_aload_n (r := x0) hx hb dL_addLine_3 rfl (lv_at hl 0 rfl) ?_
  refine lv_iload_n hx hb dL_addLine_4 rfl (lv_at hl 1 rfl) ?_
  refine lv_iload_n hx hb dL_addLine_5 rfl (lv_at hl 2 rfl) ?_
  refine lv_iload_n hx hb dL_addLine_6 rfl (lv_at hl 3 rfl) ?_
  obtain ⟨b3, ⟨hrb3, hfs⟩, hw⟩ := hw
  refine j_goXz hI (vx_runV (As := [.int x1, .int x2, .int x3]) (rest := [.int (0 : Int32), va_rf x4]) ⟨hx, hb, hml, hown, hts⟩ (kX9_addLine l hfl D z b3 x1 x2 x3 μ H.size _ _) (cwV 3 hts gL_addLine_X9_addLine rfl rfl rfl (by decide +kernel) ⟨Nat.le_of_ble_eq_true rfl, Nat.le_of_ble_eq_true rfl⟩) (j_prV2z hK hG hI hw (ci := 11) rfl hfs) rfl rfl hl.1 (by rw [hrb3]; rfl) (lv_room (by simp only [List.map, List.sum_cons, List.sum_nil, jrc, jci, jcl, jcr, jcn]; exact Nat.le_of_ble_eq_true rfl)) dL_addLine_7 ⟨by show _ ≤ 7; omega, by show _ ≤ 97; omega⟩) (fun E ce q9 μX H locs hw hI hce hcv hcl => ?_) (fun v1 μ2 H locs hw hI => ?_)
  · rcases hw.2.2.2 with rfl | rfl | rfl
    · have hw := hw.1 rfl
      refine vx_catch hown [] ⟨0, 12, 15, 21⟩ [⟨0, 12, 19, 13⟩, ⟨0, 12, 23, 15⟩] (name := "java/lang/IndexOutOfBoundsException") htab (fun z hz => absurd hz List.not_mem_nil) (by decide) (by decide) (hts (.classLink RL 21 "java/lang/IndexOutOfBoundsException") (List.mem_of_getElem? (i := 1) (by decide +kernel))) (va_Nw.use rfl (hG.2.2.2.2.2.2.2.2.1 _ (by decide +kernel))) hce hcv hcl ?_
      refine W.eq (g2 := F0 m 15 ls [va_rf (some q9)]) rfl ?_
      refine j_astoreA (r := x4) (r0 := (some q9)) (F := fun w => [(0, va_rf x0), (1, .int x1), (2, .int x2), (3, .int x3), (4, w)]) (F2 := fun w => [(5, va_rf (some q9)), (0, va_rf x0), (1, .int x1), (2, .int x2), (3, .int x3), (4, w)]) hx hb dL_addLine_15 hl (by decide) (fun w hw => by rcases hw with rfl | ⟨_, rfl⟩ <;> rfl) (fun ls hl => ?_)
      refine lv_iconst (v := (1)) hx hb dL_addLine_17 (by decide) ?_
      exact vx_ret (j_iretz hx hb hr hlocks hI hw (by omega) (by omega) dL_addLine_18)
    · have hw := hw.2.1 rfl
      refine vx_catch hown [⟨0, 12, 15, 21⟩] ⟨0, 12, 19, 13⟩ [⟨0, 12, 23, 15⟩] (name := "java/lang/IllegalArgumentException") htab (List.forall_mem_cons.mpr ⟨Or.inr ⟨by decide, "java/lang/IndexOutOfBoundsException", (hts (.classLink RL 21 "java/lang/IndexOutOfBoundsException") (List.mem_of_getElem? (i := 1) (by decide +kernel))), hG.2.2.2.2.2.2.2.2.2.1 _ (by decide +kernel) _ (by decide +kernel) (by decide +kernel)⟩, (fun z hz => absurd hz List.not_mem_nil)⟩) (by decide) (by decide) (hts (.classLink RL 13 "java/lang/IllegalArgumentException") (List.mem_of_getElem? (i := 2) (by decide +kernel))) (va_Nw.use rfl (hG.2.2.2.2.2.2.2.2.1 _ (by decide +kernel))) hce hcv hcl ?_
      refine W.eq (g2 := F0 m 19 ls [va_rf (some q9)]) rfl ?_
      refine j_astoreA (r := x4) (r0 := (some q9)) (F := fun w => [(0, va_rf x0), (1, .int x1), (2, .int x2), (3, .int x3), (4, w)]) (F2 := fun w => [(5, va_rf (some q9)), (0, va_rf x0), (1, .int x1), (2, .int x2), (3, .int x3), (4, w)]) hx hb dL_addLine_19 hl (by decide) (fun w hw => by rcases hw with rfl | ⟨_, rfl⟩ <;> rfl) (fun ls hl => ?_)
      refine lv_iconst (v := (2)) hx hb dL_addLine_21 (by decide) ?_
      exact vx_ret (j_iretz hx hb hr hlocks hI hw (by omega) (by omega) dL_addLine_22)
    · have hw := hw.2.2.1 rfl
      refine vx_catch hown [⟨0, 12, 15, 21⟩, ⟨0, 12, 19, 13⟩] ⟨0, 12, 23, 15⟩ [] (name := "java/lang/IllegalStateException") htab (List.forall_mem_cons.mpr ⟨Or.inr ⟨by decide, "java/lang/IndexOutOfBoundsException", (hts (.classLink RL 21 "java/lang/IndexOutOfBoundsException") (List.mem_of_getElem? (i := 1) (by decide +kernel))), hG.2.2.2.2.2.2.2.2.2.1 _ (by decide +kernel) _ (by decide +kernel) (by decide +kernel)⟩, (List.forall_mem_cons.mpr ⟨Or.inr ⟨by decide, "java/lang/IllegalArgumentException", (hts (.classLink RL 13 "java/lang/IllegalArgumentException") (List.mem_of_getElem? (i := 2) (by decide +kernel))), hG.2.2.2.2.2.2.2.2.2.1 _ (by decide +kernel) _ (by decide +kernel) (by decide +kernel)⟩, (fun z hz => absurd hz List.not_mem_nil)⟩)⟩) (by decide) (by decide) (hts (.classLink RL 15 "java/lang/IllegalStateException") (List.mem_of_getElem? (i := 3) (by decide +kernel))) (va_Nw.use rfl (hG.2.2.2.2.2.2.2.2.1 _ (by decide +kernel))) hce hcv hcl ?_
      refine W.eq (g2 := F0 m 23 ls [va_rf (some q9)]) rfl ?_
      refine j_astoreA (r := x4) (r0 := (some q9)) (F := fun w => [(0, va_rf x0), (1, .int x1), (2, .int x2), (3, .int x3), (4, w)]) (F2 := fun w => [(5, va_rf (some q9)), (0, va_rf x0), (1, .int x1), (2, .int x2), (3, .int x3), (4, w)]) hx hb dL_addLine_23 hl (by decide) (fun w hw => by rcases hw with rfl | ⟨_, rfl⟩ <;> rfl) (fun ls hl => ?_)
      refine lv_iconst (v := (3)) hx hb dL_addLine_25 (by decide) ?_
      exact vx_ret (j_iretz hx hb hr hlocks hI hw (by omega) (by omega) dL_addLine_26)
  refine W.eq (g2 := F0 m 10 ls [.int v1, .int (0 : Int32), va_rf x4]) rfl ?_
  refine lv_i2l hx hb dL_addLine_10 rfl ?_
  obtain ⟨μ4, hμ4, hw⟩ := hw
  refine j_lastz (r := x4) hx hb hK hI hμ4 dL_addLine_11 (fun H locs hI => ?_)
  refine lv_goto (tgt := 27) hx hb dL_addLine_12 (by decide) ?_
  refine lv_iconst (v := (0)) hx hb dL_addLine_27 (by decide) ?_
  exact vx_ret (j_iretz hx hb hr hlocks hI hw (by omega) (by omega) dL_addLine_28)
set_option maxHeartbeats 4000000 in
set_option maxRecDepth 100000 in
theorem kL_addLine (l : Launch) (hfl : l.stackTraces = false) (D : jD) (z : Nat × Nat) (x0 : Option Nat) (x1 : Int32) (x2 : Int32) (x3 : Int32) (x4 : Option Nat) (μ : jM) (sz : Nat) (Q : Int32 → jM → Prop) : vx_Met l yL_addLine wsL_addLine rmL_addLine (jPre2z D z μ sz [va_rf x0, .int x1, .int x2, .int x3, va_rf x4] (wL_addLine z x0 x1 x2 x3 x4 μ Q)) (jRz jfI Q D z (jA z μ sz)) (jXCz (fun _ _ => False) D z (jA z μ sz)) 7 97 (jA z μ sz) := by
  refine vx_ofWH (cc := cL_addLine) (maxL := 6) (ret := (some .int)) (by decide) rfl ?_
  intro p e s m args below meth c s₁ B hml hv
  obtain ⟨rfl, hsz, hH, hz0, hK, hG, hw⟩ := hv
  subst hsz
  have hX : jX2 D z (jA z μ s.heap.size) p l s m _ meth c yL_addLine cL_addLine 6 wsL_addLine (some .int) := ⟨B.exec, B.bytes, hml, findClass_of_methodNamed B.named, atoms_spec (ws := wsL_addLine) B.pre, B.returns, B.notSynchronized, (name_of_methodNamed B.named B.method).1, hK, hG, hfl⟩
  obtain ⟨ls, hg, hl⟩ : ∃ ls : Array Slot, entryFrame m ([va_rf x0, .int x1, .int x2, .int x3, va_rf x4] : List Value).toArray 6 = F0 m 0 ls [] ∧ lv_has ls 6 [(0, va_rf x0), (1, .int x1), (2, .int x2), (3, .int x3), (4, va_rf x4)] := by
    cases x0 <;> cases x4 <;> exact ⟨_, lg_entry_eq .., lv_entry _ (n := 6) (Nat.le_of_ble_eq_true rfl)⟩
  rw [hg]
  exact kL_addLine_0 hX ((vx_table (x := yL_addLine) B (atoms_spec (ws := wsL_addLine) B.pre _ (List.mem_of_getElem? (i := 0) rfl))).trans rfl) hw (jIz.start hH hz0) (lv_sub hl [0, 1, 2, 3, 4] rfl) (by decide) (by decide)
set_option maxHeartbeats 4000000 in
set_option maxRecDepth 100000 in
theorem kX9_setBankLimit_0 {b : Nat} (hX : jX2 D z A p l s m args meth c yX9_setBankLimit cX9_setBankLimit 5 wsX9_setBankLimit (some .int)) (hno : ∀ x ∈ c.exceptionTable.toList, False) {Q : Int32 → jM → Prop} {X : String → jM → Prop}  {x1 : Int32} {x2 : Int32} {μ : jM} {H : Heap} {locs : List Loc} {ls : Array Slot} {cells slots : Nat} (hw : wX9_setBankLimit_0 z b Q X x1 x2 μ) (hI : jIz D z A s.heap μ H locs) (hl : lv_has ls 5 [(0, va_rf (some b)), (1, .int x1), (2, .int x2)]) (hcn : cells + 2 ≤ 2) (hsn : slots + 12 ≤ 12) : W p l e rmX9_setBankLimit s m args below meth c H locs cells slots (vx_MQ below (jRz jfI Q D z A) (jXCz X D z A) args s 2 12 A) (F0 m 0 ls []) := by
  unfold wX9_setBankLimit_0 at hw
  obtain ⟨hx, hb, hml, hown, hts, hr, hlocks, hnm, hK, hG, hfl⟩ := id hX
  have hown : s.vm.findClass RX9 = some m.cls := hown
  have hfX1 : ∀ w ∈ wsX10, w.before args s = true := fun w h => hts w (List.mem_cons_of_mem _ (List.mem_append_left _ (List.mem_append_left _ (List.mem_append_left _ (List.mem_append_left _ (List.mem_append_right _ h))))))
  refine j_aload_n (r := (some b)) hx hb dX9_setBankLimit_0 rfl (lv_at hl 0 rfl) ?_
  refine lv_iload_n hx hb dX9_setBankLimit_1 rfl (lv_at hl 1 rfl) ?_
  obtain ⟨hfs, hw⟩ := hw
  refine j_goXz hI (vx_runV (As := [.int x1]) (rest := []) ⟨hx, hb, hml, hown, hts⟩ (kX9_bankAt l hfl D z b x1 μ H.size _ _) (cwV 1 hts gX9_setBankLimit_X9_bankAt rfl rfl rfl (by decide +kernel) ⟨Nat.le_of_ble_eq_true rfl, Nat.le_of_ble_eq_true rfl⟩) (j_prV2z hK hG hI hw (ci := 11) rfl hfs) rfl rfl hl.1 rfl (lv_room (Nat.le_of_ble_eq_true rfl)) dX9_setBankLimit_2 ⟨by show _ ≤ 2; omega, by show _ ≤ 12; omega⟩) (fun E ce q9 μX H locs hw hI hce hcv hcl => ?_) (fun v1 μ2 H locs hw hI => ?_)
  · exact j_outz hno hlocks hI hce hcv hcl hw (by omega) (by omega)
  refine W.eq (g2 := F0 m 5 ls [va_rf v1]) rfl ?_
  refine j_astore_n (r := v1) (lv' := [(3, va_rf v1), (0, va_rf (some b)), (1, .int x1), (2, .int x2)]) hx hb dX9_setBankLimit_5 rfl hl (by decide) rfl (fun ls hl => ?_)
  refine lv_iload_n hx hb dX9_setBankLimit_6 rfl (lv_at hl 3 rfl) ?_
  refine lv_iconst (v := (-1)) hx hb dX9_setBankLimit_7 (by decide) ?_
  refine lv_ldc (v := (1000000000)) hx hb hown (hts (.constant RX9 85 (1000000000)) (List.mem_of_getElem? (i := 1) (by decide +kernel))) dX9_setBankLimit_8 ?_
  refine j_goXz hI (vx_runS (As := [.int x2, .int (-1 : Int32), .int (1000000000 : Int32)]) (rest := []) ⟨hx, hb, hml, hown, hts⟩ (kX9_requireWithin l hfl D z x2 (-1 : Int32) (1000000000 : Int32) μ2 H.size _ _) (va_cwS 3 hts gX9_setBankLimit_X9_requireWithin rfl rfl rfl (by decide +kernel) ⟨Nat.le_of_ble_eq_true rfl, Nat.le_of_ble_eq_true rfl⟩) (j_prS2z hK hG hI hw) rfl rfl hl.1 rfl (lv_room (Nat.le_of_ble_eq_true rfl)) dX9_setBankLimit_10 ⟨by show _ ≤ 2; omega, by show _ ≤ 12; omega⟩) (fun E ce q9 μX H locs hw hI hce hcv hcl => ?_) (fun u3 μ4 H locs hw hI => ?_)
  · exact j_outz hno hlocks hI hce hcv hcl hw (by omega) (by omega)
  refine W.eq (g2 := F0 m 13 ls []) rfl ?_
  refine j_aload_n (r := v1) hx hb dX9_setBankLimit_13 rfl (lv_at hl 0 rfl) ?_
  obtain ⟨v5, hv5, hw⟩ := hw
  refine j_getz (C := RX1) (T := TX1) (N := 3) (ci := 4) (r := v1) (v := .int v5) hx hb hfX1 hown hK hI rfl 1 (by decide) (hts (.fieldLink RX9 86 "CashPools$Bank" "limit" "I") (List.mem_of_getElem? (i := 2) (by decide +kernel))) (fun _ h => h) hv5 dX9_setBankLimit_14 ?_
  refine j_istoreA (r := v1) (F := fun w => [(3, w), (0, va_rf (some b)), (1, .int x1), (2, .int x2)]) (F2 := fun w => [(4, .int v5), (3, w), (0, va_rf (some b)), (1, .int x1), (2, .int x2)]) hx hb dX9_setBankLimit_17 hl (by decide) (fun w hw => by rcases hw with rfl | ⟨_, rfl⟩ <;> rfl) (fun ls hl => ?_)
  refine j_aload_n (r := v1) hx hb dX9_setBankLimit_19 rfl (lv_at hl 1 rfl) ?_
  refine lv_iload_n hx hb dX9_setBankLimit_20 rfl (lv_at hl 4 rfl) ?_
  obtain ⟨μ6, hμ6, hw⟩ := hw
  refine j_putz (C := RX1) (T := TX1) (N := 3) (ci := 4) (r := v1) (v := .int x2) hx hb hfX1 tyX1 tyX1_ok nmX1 hown hK hI rfl 1 (by decide) (hts (.fieldLink RX9 86 "CashPools$Bank" "limit" "I") (List.mem_of_getElem? (i := 2) (by decide +kernel))) (fun _ h => h) rfl (tyX1_ok 1 (by decide)) rfl rfl hμ6 dX9_setBankLimit_21 (fun H locs hI => ?_)
  refine lv_iload hx hb dX9_setBankLimit_24 (lv_at hl 0 rfl) ?_
  exact vx_ret (j_iretz hx hb hr hlocks hI hw (by omega) (by omega) dX9_setBankLimit_26)
set_option maxHeartbeats 4000000 in
set_option maxRecDepth 100000 in
theorem kX9_setBankLimit (l : Launch) (hfl : l.stackTraces = false) (D : jD) (z : Nat × Nat) (b : Nat) (x1 : Int32) (x2 : Int32) (μ : jM) (sz : Nat) (Q : Int32 → jM → Prop) (X : String → jM → Prop) : vx_Met l yX9_setBankLimit wsX9_setBankLimit rmX9_setBankLimit (jPre2z D z μ sz [.ref b, .int x1, .int x2] (wX9_setBankLimit z b x1 x2 μ Q X)) (jRz jfI Q D z (jA z μ sz)) (jXCz X D z (jA z μ sz)) 2 12 (jA z μ sz) := by
  refine vx_ofW (cc := cX9_setBankLimit) (maxL := 5) (ret := (some .int)) (by decide) rfl ?_
  intro p e s m args below meth c s₁ B hml hno hv
  obtain ⟨rfl, hsz, hH, hz0, hK, hG, hw⟩ := hv
  subst hsz
  have hX : jX2 D z (jA z μ s.heap.size) p l s m _ meth c yX9_setBankLimit cX9_setBankLimit 5 wsX9_setBankLimit (some .int) := ⟨B.exec, B.bytes, hml, findClass_of_methodNamed B.named, atoms_spec (ws := wsX9_setBankLimit) B.pre, B.returns, B.notSynchronized, (name_of_methodNamed B.named B.method).1, hK, hG, hfl⟩
  obtain ⟨ls, hg, hl⟩ : ∃ ls : Array Slot, entryFrame m ([.ref b, .int x1, .int x2] : List Value).toArray 5 = F0 m 0 ls [] ∧ lv_has ls 5 [(0, va_rf (some b)), (1, .int x1), (2, .int x2)] := by
    exact ⟨_, lg_entry_eq .., lv_entry _ (n := 5) (Nat.le_of_ble_eq_true rfl)⟩
  rw [hg]
  exact kX9_setBankLimit_0 hX hno hw (jIz.start hH hz0) (lv_sub hl [0, 1, 2] rfl) (by decide) (by decide)
set_option maxHeartbeats 4000000 in
set_option maxRecDepth 100000 in
theorem kL_setBankLimit_0 (hX : jX2 D z A p l s m args meth c yL_setBankLimit cL_setBankLimit 5 wsL_setBankLimit (some .int)) (htab : c.exceptionTable.toList = ([⟨0, 10, 13, 13⟩] : List ExceptionTableEntry)) {Q : Int32 → jM → Prop}  {x0 : Option Nat} {x1 : Int32} {x2 : Int32} {x3 : Option Nat} {μ : jM} {H : Heap} {locs : List Loc} {ls : Array Slot} {cells slots : Nat} (hw : wL_setBankLimit_0 z Q x0 x1 x2 x3 μ) (hI : jIz D z A s.heap μ H locs) (hl : lv_has ls 5 [(0, va_rf x0), (1, .int x1), (2, .int x2), (3, va_rf x3)]) (hcn : cells + 2 ≤ 2) (hsn : slots + 12 ≤ 12) : W p l e rmL_setBankLimit s m args below meth c H locs cells slots (vx_MQ below (jRz jfI Q D z A) (jXCz (fun _ _ => False) D z A) args s 2 12 A) (F0 m 0 ls []) := by
  unfold wL_setBankLimit_0 at hw
  obtain ⟨hx, hb, hml, hown, hts, hr, hlocks, hnm, hK, hG, hfl⟩ := id hX
  have hown : s.vm.findClass RL = some m.cls := hown
  refine j_aload_n (r := x3) hx hb dL_setBankLimit_0 rfl (lv_at hl 3 rfl) ?_
  refine lv_iconst (v := (0)) hx hb dL_setBankLimit_1 (by decide) ?_
  refine j_aload_n (r := x0) hx hb dL_setBankLimit_2 rfl (lv_at hl 0 rfl) ?_
  refine lv_iload_n hx hb dL_setBankLimit_3 rfl (lv_at hl 1 rfl) ?_
  refine lv_iload_n hx hb dL_setBankLimit_4 rfl (lv_at hl 2 rfl) ?_
  obtain ⟨b3, ⟨hrb3, hfs⟩, hw⟩ := hw
  refine j_goXz hI (vx_runV (As := [.int x1, .int x2]) (rest := [.int (0 : Int32), va_rf x3]) ⟨hx, hb, hml, hown, hts⟩ (kX9_setBankLimit l hfl D z b3 x1 x2 μ H.size _ _) (cwV 2 hts gL_setBankLimit_X9_setBankLimit rfl rfl rfl (by decide +kernel) ⟨Nat.le_of_ble_eq_true rfl, Nat.le_of_ble_eq_true rfl⟩) (j_prV2z hK hG hI hw (ci := 11) rfl hfs) rfl rfl hl.1 (by rw [hrb3]; rfl) (lv_room (by simp only [List.map, List.sum_cons, List.sum_nil, jrc, jci, jcl, jcr, jcn]; exact Nat.le_of_ble_eq_true rfl)) dL_setBankLimit_5 ⟨by show _ ≤ 2; omega, by show _ ≤ 12; omega⟩) (fun E ce q9 μX H locs hw hI hce hcv hcl => ?_) (fun v1 μ2 H locs hw hI => ?_)
  · obtain ⟨hw, rfl⟩ := hw
    · have hw := hw rfl
      refine vx_catch hown [] ⟨0, 10, 13, 13⟩ [] (name := "java/lang/IllegalArgumentException") htab (fun z hz => absurd hz List.not_mem_nil) (by decide) (by decide) (hts (.classLink RL 13 "java/lang/IllegalArgumentException") (List.mem_of_getElem? (i := 1) (by decide +kernel))) (va_Nw.use rfl (hG.2.2.2.2.2.2.2.2.1 _ (by decide +kernel))) hce hcv hcl ?_
      refine W.eq (g2 := F0 m 13 ls [va_rf (some q9)]) rfl ?_
      refine j_astoreA (r := x3) (r0 := (some q9)) (F := fun w => [(0, va_rf x0), (1, .int x1), (2, .int x2), (3, w)]) (F2 := fun w => [(4, va_rf (some q9)), (0, va_rf x0), (1, .int x1), (2, .int x2), (3, w)]) hx hb dL_setBankLimit_13 hl (by decide) (fun w hw => by rcases hw with rfl | ⟨_, rfl⟩ <;> rfl) (fun ls hl => ?_)
      refine lv_iconst (v := (1)) hx hb dL_setBankLimit_15 (by decide) ?_
      exact vx_ret (j_iretz hx hb hr hlocks hI hw (by omega) (by omega) dL_setBankLimit_16)
  refine W.eq (g2 := F0 m 8 ls [.int v1, .int (0 : Int32), va_rf x3]) rfl ?_
  refine lv_i2l hx hb dL_setBankLimit_8 rfl ?_
  obtain ⟨μ4, hμ4, hw⟩ := hw
  refine j_lastz (r := x3) hx hb hK hI hμ4 dL_setBankLimit_9 (fun H locs hI => ?_)
  refine lv_goto (tgt := 17) hx hb dL_setBankLimit_10 (by decide) ?_
  refine lv_iconst (v := (0)) hx hb dL_setBankLimit_17 (by decide) ?_
  exact vx_ret (j_iretz hx hb hr hlocks hI hw (by omega) (by omega) dL_setBankLimit_18)
set_option maxHeartbeats 4000000 in
set_option maxRecDepth 100000 in
theorem kL_setBankLimit (l : Launch) (hfl : l.stackTraces = false) (D : jD) (z : Nat × Nat) (x0 : Option Nat) (x1 : Int32) (x2 : Int32) (x3 : Option Nat) (μ : jM) (sz : Nat) (Q : Int32 → jM → Prop) : vx_Met l yL_setBankLimit wsL_setBankLimit rmL_setBankLimit (jPre2z D z μ sz [va_rf x0, .int x1, .int x2, va_rf x3] (wL_setBankLimit z x0 x1 x2 x3 μ Q)) (jRz jfI Q D z (jA z μ sz)) (jXCz (fun _ _ => False) D z (jA z μ sz)) 2 12 (jA z μ sz) := by
  refine vx_ofWH (cc := cL_setBankLimit) (maxL := 5) (ret := (some .int)) (by decide) rfl ?_
  intro p e s m args below meth c s₁ B hml hv
  obtain ⟨rfl, hsz, hH, hz0, hK, hG, hw⟩ := hv
  subst hsz
  have hX : jX2 D z (jA z μ s.heap.size) p l s m _ meth c yL_setBankLimit cL_setBankLimit 5 wsL_setBankLimit (some .int) := ⟨B.exec, B.bytes, hml, findClass_of_methodNamed B.named, atoms_spec (ws := wsL_setBankLimit) B.pre, B.returns, B.notSynchronized, (name_of_methodNamed B.named B.method).1, hK, hG, hfl⟩
  obtain ⟨ls, hg, hl⟩ : ∃ ls : Array Slot, entryFrame m ([va_rf x0, .int x1, .int x2, va_rf x3] : List Value).toArray 5 = F0 m 0 ls [] ∧ lv_has ls 5 [(0, va_rf x0), (1, .int x1), (2, .int x2), (3, va_rf x3)] := by
    cases x0 <;> cases x3 <;> exact ⟨_, lg_entry_eq .., lv_entry _ (n := 5) (Nat.le_of_ble_eq_true rfl)⟩
  rw [hg]
  exact kL_setBankLimit_0 hX ((vx_table (x := yL_setBankLimit) B (atoms_spec (ws := wsL_setBankLimit) B.pre _ (List.mem_of_getElem? (i := 0) rfl))).trans rfl) hw (jIz.start hH hz0) (lv_sub hl [0, 1, 2, 3] rfl) (by decide) (by decide)
set_option maxHeartbeats 4000000 in
set_option maxRecDepth 100000 in
theorem kX2_markHoliday_0 {b : Nat} (hX : jX2 D z A p l s m args meth c yX2_markHoliday cX2_markHoliday 2 wsX2_markHoliday none) {Q : Unit → jM → Prop}  {x1 : Int32} {μ : jM} {H : Heap} {locs : List Loc} {ls : Array Slot} {cells slots : Nat} (hw : wX2_markHoliday_0 z b Q x1 μ) (hI : jIz D z A s.heap μ H locs) (hl : lv_has ls 2 [(0, va_rf (some b)), (1, .int x1)]) (hcn : cells + 0 ≤ 0) (hsn : slots + 0 ≤ 0) : W p l e rmX2_markHoliday s m args below meth c H locs cells slots (MQ below (jRz jfV Q D z A) args s 0 0 A) (F0 m 0 ls []) := by
  unfold wX2_markHoliday_0 at hw
  obtain ⟨hx, hb, hml, hown, hts, hr, hlocks, hnm, hK, hG, hfl⟩ := id hX
  have hown : s.vm.findClass RX2 = some m.cls := hown
  have hfX2 : ∀ w ∈ wsX20, w.before args s = true := fun w h => hts w (List.mem_cons_of_mem _ (List.mem_append_right _ h))
  refine lv_iload_n hx hb dX2_markHoliday_0 rfl (lv_at hl 1 rfl) ?_
  refine lv_if_lt (tgt := 20) hx hb dX2_markHoliday_1 (by decide) (fun hc => ?_) (fun hc => ?_)
  · have hw := hw.1 hc
    exact j_vretz hx hb hr hlocks hI hw (by omega) (by omega) dX2_markHoliday_20
  · have hw := hw.2 hc
    refine lv_iload_n hx hb dX2_markHoliday_4 rfl (lv_at hl 1 rfl) ?_
    refine j_aload_n (r := (some b)) hx hb dX2_markHoliday_5 rfl (lv_at hl 0 rfl) ?_
    obtain ⟨v1, hv1, hw⟩ := hw
    refine j_getz (C := RX2) (T := TX2) (N := 1) (ci := 5) (r := (some b)) (v := va_rf v1) hx hb hfX2 hown hK hI rfl 0 (by decide) (hts (.fieldLink RX2 9 "CashPools$Calendar" "holiday" "[Z") (List.mem_of_getElem? (i := 1) (by decide +kernel))) (fun _ h => h) hv1 dX2_markHoliday_6 ?_
    obtain ⟨v2, hv2, hw⟩ := hw
    refine j_alenz (r := v1) hx hb hK hI hv2 dX2_markHoliday_9 ?_
    refine lv_icmp_ge (tgt := 20) hx hb dX2_markHoliday_10 (by decide) (fun hc => ?_) (fun hc => ?_)
    · have hw := hw.1 hc
      exact j_vretz hx hb hr hlocks hI hw (by omega) (by omega) dX2_markHoliday_20
    · have hw := hw.2 hc
      refine j_aload_n (r := (some b)) hx hb dX2_markHoliday_13 rfl (lv_at hl 0 rfl) ?_
      obtain ⟨v3, hv3, hw⟩ := hw
      refine j_getz (C := RX2) (T := TX2) (N := 1) (ci := 5) (r := (some b)) (v := va_rf v3) hx hb hfX2 hown hK hI rfl 0 (by decide) (hts (.fieldLink RX2 9 "CashPools$Calendar" "holiday" "[Z") (List.mem_of_getElem? (i := 1) (by decide +kernel))) (fun _ h => h) hv3 dX2_markHoliday_14 ?_
      refine lv_iload_n hx hb dX2_markHoliday_17 rfl (lv_at hl 1 rfl) ?_
      refine lv_iconst (v := (1)) hx hb dX2_markHoliday_18 (by decide) ?_
      obtain ⟨μ4, hμ4, hw⟩ := hw
      refine j_zastz (r := v3) hx hb hK hI hμ4 dX2_markHoliday_19 (fun H locs hI => ?_)
      exact j_vretz hx hb hr hlocks hI hw (by omega) (by omega) dX2_markHoliday_20
set_option maxHeartbeats 4000000 in
set_option maxRecDepth 100000 in
theorem kX2_markHoliday (l : Launch) (hfl : l.stackTraces = false) (D : jD) (z : Nat × Nat) (b : Nat) (x1 : Int32) (μ : jM) (sz : Nat) (Q : Unit → jM → Prop) : Met l yX2_markHoliday wsX2_markHoliday rmX2_markHoliday (jPre2z D z μ sz [.ref b, .int x1] (wX2_markHoliday z b x1 μ Q)) (jRz jfV Q D z (jA z μ sz)) 0 0 (jA z μ sz) := by
  refine Met.ofW (cc := cX2_markHoliday) (maxL := 2) (ret := none) (by decide) rfl ?_
  intro p e s m args below meth c s₁ B hml hv
  obtain ⟨rfl, hsz, hH, hz0, hK, hG, hw⟩ := hv
  subst hsz
  have hX : jX2 D z (jA z μ s.heap.size) p l s m _ meth c yX2_markHoliday cX2_markHoliday 2 wsX2_markHoliday none := ⟨B.exec, B.bytes, hml, findClass_of_methodNamed B.named, atoms_spec (ws := wsX2_markHoliday) B.pre, B.returns, B.notSynchronized, (name_of_methodNamed B.named B.method).1, hK, hG, hfl⟩
  obtain ⟨ls, hg, hl⟩ : ∃ ls : Array Slot, entryFrame m ([.ref b, .int x1] : List Value).toArray 2 = F0 m 0 ls [] ∧ lv_has ls 2 [(0, va_rf (some b)), (1, .int x1)] := by
    exact ⟨_, lg_entry_eq .., lv_entry _ (n := 2) (Nat.le_of_ble_eq_true rfl)⟩
  rw [hg]
  exact kX2_markHoliday_0 hX hw (jIz.start hH hz0) (lv_sub hl [0, 1] rfl) (by decide) (by decide)
set_option maxHeartbeats 4000000 in
set_option maxRecDepth 100000 in
theorem kX2_settles_27 {b : Nat} (hX : jX2 D z A p l s m args meth c yX2_settles cX2_settles 3 wsX2_settles (some .boolean)) {Q : Int32 → jM → Prop}  {x1 : Int32} {t0 : Int32} {μ : jM} {H : Heap} {locs : List Loc} {ls : Array Slot} {cells slots : Nat} (hw : wX2_settles_27 z b Q x1 t0 μ) (hI : jIz D z A s.heap μ H locs) (hl : lv_has ls 3 [(0, va_rf (some b)), (1, .int x1)]) (hcn : cells + 0 ≤ 0) (hsn : slots + 0 ≤ 0) : W p l e rmX2_settles s m args below meth c H locs cells slots (MQ below (jRz jfI Q D z A) args s 0 0 A) (F0 m 27 ls [.int t0]) := by
  unfold wX2_settles_27 at hw
  obtain ⟨hx, hb, hml, hown, hts, hr, hlocks, hnm, hK, hG, hfl⟩ := id hX
  have hown : s.vm.findClass RX2 = some m.cls := hown
  refine lv_istore_n (lv' := [(2, .int t0), (0, va_rf (some b)), (1, .int x1)]) hx hb dX2_settles_27 rfl hl (by decide) rfl (fun ls hl => ?_)
  refine lv_iload_n hx hb dX2_settles_28 rfl (lv_at hl 2 rfl) ?_
  refine lv_bipush (v := (7)) hx hb dX2_settles_29 (by decide) ?_
  refine lv_irem hx hb dX2_settles_31 (by decide) ?_
  refine lv_iconst (v := (5)) hx hb dX2_settles_32 (by decide) ?_
  refine lv_icmp_ge (tgt := 44) hx hb dX2_settles_33 (by decide) (fun hc => ?_) (fun hc => ?_)
  · have hw := hw.1 hc
    refine lv_iconst (v := (0)) hx hb dX2_settles_44 (by decide) ?_
    exact j_zretz hx hb hr rfl hlocks hI hw (by omega) (by omega) dX2_settles_45
  · have hw := hw.2 hc
    refine lv_iload_n hx hb dX2_settles_36 rfl (lv_at hl 0 rfl) ?_
    refine lv_if_ne (tgt := 44) hx hb dX2_settles_37 (by decide) (fun hc => ?_) (fun hc => ?_)
    · have hw := hw.1 hc
      refine lv_iconst (v := (0)) hx hb dX2_settles_44 (by decide) ?_
      exact j_zretz hx hb hr rfl hlocks hI hw (by omega) (by omega) dX2_settles_45
    · have hw := hw.2 hc
      refine lv_iconst (v := (1)) hx hb dX2_settles_40 (by decide) ?_
      refine lv_goto (tgt := 45) hx hb dX2_settles_41 (by decide) ?_
      exact j_zretz hx hb hr rfl hlocks hI hw (by omega) (by omega) dX2_settles_45
set_option maxHeartbeats 4000000 in
set_option maxRecDepth 100000 in
theorem kX2_settles_26 {b : Nat} (hX : jX2 D z A p l s m args meth c yX2_settles cX2_settles 3 wsX2_settles (some .boolean)) {Q : Int32 → jM → Prop}  {x1 : Int32} {μ : jM} {H : Heap} {locs : List Loc} {ls : Array Slot} {cells slots : Nat} (hw : wX2_settles_26 z b Q x1 μ) (hI : jIz D z A s.heap μ H locs) (hl : lv_has ls 3 [(0, va_rf (some b)), (1, .int x1)]) (hcn : cells + 0 ≤ 0) (hsn : slots + 0 ≤ 0) : W p l e rmX2_settles s m args below meth c H locs cells slots (MQ below (jRz jfI Q D z A) args s 0 0 A) (F0 m 26 ls []) := by
  unfold wX2_settles_26 at hw
  obtain ⟨hx, hb, hml, hown, hts, hr, hlocks, hnm, hK, hG, hfl⟩ := id hX
  have hown : s.vm.findClass RX2 = some m.cls := hown
  refine lv_iconst (v := (0)) hx hb dX2_settles_26 (by decide) ?_
  exact kX2_settles_27 hX  hw hI (lv_sub hl [0, 1] rfl) (by omega) (by omega)
set_option maxHeartbeats 4000000 in
set_option maxRecDepth 100000 in
theorem kX2_settles_0 {b : Nat} (hX : jX2 D z A p l s m args meth c yX2_settles cX2_settles 3 wsX2_settles (some .boolean)) {Q : Int32 → jM → Prop}  {x1 : Int32} {μ : jM} {H : Heap} {locs : List Loc} {ls : Array Slot} {cells slots : Nat} (hw : wX2_settles_0 z b Q x1 μ) (hI : jIz D z A s.heap μ H locs) (hl : lv_has ls 3 [(0, va_rf (some b)), (1, .int x1)]) (hcn : cells + 0 ≤ 0) (hsn : slots + 0 ≤ 0) : W p l e rmX2_settles s m args below meth c H locs cells slots (MQ below (jRz jfI Q D z A) args s 0 0 A) (F0 m 0 ls []) := by
  unfold wX2_settles_0 at hw
  obtain ⟨hx, hb, hml, hown, hts, hr, hlocks, hnm, hK, hG, hfl⟩ := id hX
  have hown : s.vm.findClass RX2 = some m.cls := hown
  have hfX2 : ∀ w ∈ wsX20, w.before args s = true := fun w h => hts w (List.mem_cons_of_mem _ (List.mem_append_right _ h))
  refine lv_iload_n hx hb dX2_settles_0 rfl (lv_at hl 1 rfl) ?_
  refine lv_if_lt (tgt := 26) hx hb dX2_settles_1 (by decide) (fun hc => ?_) (fun hc => ?_)
  · have hw := hw.1 hc
    exact kX2_settles_26 hX  hw hI (lv_sub hl [0, 1] rfl) (by omega) (by omega)
  · have hw := hw.2 hc
    refine lv_iload_n hx hb dX2_settles_4 rfl (lv_at hl 1 rfl) ?_
    refine j_aload_n (r := (some b)) hx hb dX2_settles_5 rfl (lv_at hl 0 rfl) ?_
    obtain ⟨v1, hv1, hw⟩ := hw
    refine j_getz (C := RX2) (T := TX2) (N := 1) (ci := 5) (r := (some b)) (v := va_rf v1) hx hb hfX2 hown hK hI rfl 0 (by decide) (hts (.fieldLink RX2 9 "CashPools$Calendar" "holiday" "[Z") (List.mem_of_getElem? (i := 1) (by decide +kernel))) (fun _ h => h) hv1 dX2_settles_6 ?_
    obtain ⟨v2, hv2, hw⟩ := hw
    refine j_alenz (r := v1) hx hb hK hI hv2 dX2_settles_9 ?_
    refine lv_icmp_ge (tgt := 26) hx hb dX2_settles_10 (by decide) (fun hc => ?_) (fun hc => ?_)
    · have hw := hw.1 hc
      exact kX2_settles_26 hX  hw hI (lv_sub hl [0, 1] rfl) (by omega) (by omega)
    · have hw := hw.2 hc
      refine j_aload_n (r := (some b)) hx hb dX2_settles_13 rfl (lv_at hl 0 rfl) ?_
      obtain ⟨v3, hv3, hw⟩ := hw
      refine j_getz (C := RX2) (T := TX2) (N := 1) (ci := 5) (r := (some b)) (v := va_rf v3) hx hb hfX2 hown hK hI rfl 0 (by decide) (hts (.fieldLink RX2 9 "CashPools$Calendar" "holiday" "[Z") (List.mem_of_getElem? (i := 1) (by decide +kernel))) (fun _ h => h) hv3 dX2_settles_14 ?_
      refine lv_iload_n hx hb dX2_settles_17 rfl (lv_at hl 1 rfl) ?_
      obtain ⟨v4, hv4, hw⟩ := hw
      refine j_zaldz (r := v3) hx hb hK hI hv4 dX2_settles_18 ?_
      refine lv_if_eq (tgt := 26) hx hb dX2_settles_19 (by decide) (fun hc => ?_) (fun hc => ?_)
      · have hw := hw.1 hc
        exact kX2_settles_26 hX  hw hI (lv_sub hl [0, 1] rfl) (by omega) (by omega)
      · have hw := hw.2 hc
        refine lv_iconst (v := (1)) hx hb dX2_settles_22 (by decide) ?_
        refine lv_goto (tgt := 27) hx hb dX2_settles_23 (by decide) ?_
        exact kX2_settles_27 hX  hw hI (lv_sub hl [0, 1] rfl) (by omega) (by omega)
set_option maxHeartbeats 4000000 in
set_option maxRecDepth 100000 in
theorem kX2_settles (l : Launch) (hfl : l.stackTraces = false) (D : jD) (z : Nat × Nat) (b : Nat) (x1 : Int32) (μ : jM) (sz : Nat) (Q : Int32 → jM → Prop) : Met l yX2_settles wsX2_settles rmX2_settles (jPre2z D z μ sz [.ref b, .int x1] (wX2_settles z b x1 μ Q)) (jRz jfI Q D z (jA z μ sz)) 0 0 (jA z μ sz) := by
  refine Met.ofW (cc := cX2_settles) (maxL := 3) (ret := (some .boolean)) (by decide) rfl ?_
  intro p e s m args below meth c s₁ B hml hv
  obtain ⟨rfl, hsz, hH, hz0, hK, hG, hw⟩ := hv
  subst hsz
  have hX : jX2 D z (jA z μ s.heap.size) p l s m _ meth c yX2_settles cX2_settles 3 wsX2_settles (some .boolean) := ⟨B.exec, B.bytes, hml, findClass_of_methodNamed B.named, atoms_spec (ws := wsX2_settles) B.pre, B.returns, B.notSynchronized, (name_of_methodNamed B.named B.method).1, hK, hG, hfl⟩
  obtain ⟨ls, hg, hl⟩ : ∃ ls : Array Slot, entryFrame m ([.ref b, .int x1] : List Value).toArray 3 = F0 m 0 ls [] ∧ lv_has ls 3 [(0, va_rf (some b)), (1, .int x1)] := by
    exact ⟨_, lg_entry_eq .., lv_entry _ (n := 3) (Nat.le_of_ble_eq_true rfl)⟩
  rw [hg]
  exact kX2_settles_0 hX hw (jIz.start hH hz0) (lv_sub hl [0, 1] rfl) (by decide) (by decide)
set_option maxHeartbeats 4000000 in
set_option maxRecDepth 100000 in
theorem kX2_countSettling_4 {b : Nat} (hX : jX2 D z A p l s m args meth c yX2_countSettling cX2_countSettling 3 wsX2_countSettling (some .int)) {Q : Int32 → jM → Prop}  (n : Nat) : ∀ {x1 : Int32} {x2 : Int32} {μ : jM} {H : Heap} {locs : List Loc} {ls : Array Slot} {cells slots : Nat}, wX2_countSettling_4 z b Q n x1 x2 μ → jIz D z A s.heap μ H locs → lv_has ls 3 [(0, va_rf (some b)), (1, .int x1), (2, .int x2)] → cells + 0 ≤ 0 → slots + 0 ≤ 0 → W p l e rmX2_countSettling s m args below meth c H locs cells slots (MQ below (jRz jfI Q D z A) args s 0 0 A) (F0 m 4 ls []) := by
  induction n with
  | zero =>
    intros
    rename_i hw _ _ _ _
    exact (show False from hw).elim
  | succ n ih =>
    intro x1 x2 μ H locs ls cells slots hw hI hl hcn hsn
    have hw : wX2_countSettling_4_b z b Q (wX2_countSettling_4 z b Q n) x1 x2 μ := hw
    unfold wX2_countSettling_4_b at hw
    obtain ⟨hx, hb, hml, hown, hts, hr, hlocks, hnm, hK, hG, hfl⟩ := id hX
    have hown : s.vm.findClass RX2 = some m.cls := hown
    refine lv_iload_n hx hb dX2_countSettling_4 rfl (lv_at hl 2 rfl) ?_
    refine lv_sipush (v := (450)) hx hb dX2_countSettling_5 (by decide) ?_
    refine lv_icmp_gt (tgt := 28) hx hb dX2_countSettling_8 (by decide) (fun hc => ?_) (fun hc => ?_)
    · have hw := hw.1 hc
      refine lv_iload_n hx hb dX2_countSettling_28 rfl (lv_at hl 1 rfl) ?_
      exact j_iretz hx hb hr hlocks hI hw (by omega) (by omega) dX2_countSettling_29
    · have hw := hw.2 hc
      refine j_aload_n (r := (some b)) hx hb dX2_countSettling_11 rfl (lv_at hl 0 rfl) ?_
      refine lv_iload_n hx hb dX2_countSettling_12 rfl (lv_at hl 2 rfl) ?_
      obtain ⟨hfs, hw⟩ := hw
      refine j_goz hI (va_runV (As := [.int x2]) (rest := []) ⟨hx, hb, hml, hown, hts⟩ (kX2_settles l hfl D z b x2 μ H.size _) (cwV 1 hts gX2_countSettling_X2_settles rfl rfl rfl (by decide +kernel) ⟨Nat.le_of_ble_eq_true rfl, Nat.le_of_ble_eq_true rfl⟩) (j_prV2z hK hG hI hw (ci := 5) rfl hfs) rfl rfl hl.1 rfl (lv_room (Nat.le_of_ble_eq_true rfl)) dX2_countSettling_13 ⟨by show _ ≤ 0; omega, by show _ ≤ 0; omega⟩) (fun v1 μ2 H locs hw hI => ?_)
      refine W.eq (g2 := F0 m 16 ls [.int v1]) rfl ?_
      refine lv_if_eq (tgt := 22) hx hb dX2_countSettling_16 (by decide) (fun hc => ?_) (fun hc => ?_)
      · have hw := hw.1 hc
        obtain ⟨v3, ev3⟩ : ∃ y : Int32, y = x2 + (1 : Int32) := ⟨_, rfl⟩
        have hw := hw v3 ev3
        refine lv_iinc (v := v3) (lv' := [(2, .int v3), (0, va_rf (some b)), (1, .int x1)]) hx hb dX2_countSettling_22 hl (k := 2) rfl (by rw [ev3]; rfl) (by decide) rfl (fun ls hl => ?_)
        refine lv_goto (tgt := 4) hx hb dX2_countSettling_25 (by decide) ?_
        exact ih hw hI (lv_sub hl [1, 2, 0] rfl) (by omega) (by omega)
      · have hw := hw.2 hc
        obtain ⟨v4, ev4⟩ : ∃ y : Int32, y = x1 + (1 : Int32) := ⟨_, rfl⟩
        have hw := hw v4 ev4
        refine lv_iinc (v := v4) (lv' := [(1, .int v4), (0, va_rf (some b)), (2, .int x2)]) hx hb dX2_countSettling_19 hl (k := 1) rfl (by rw [ev4]; rfl) (by decide) rfl (fun ls hl => ?_)
        obtain ⟨v5, ev5⟩ : ∃ y : Int32, y = x2 + (1 : Int32) := ⟨_, rfl⟩
        have hw := hw v5 ev5
        refine lv_iinc (v := v5) (lv' := [(2, .int v5), (1, .int v4), (0, va_rf (some b))]) hx hb dX2_countSettling_22 hl (k := 2) rfl (by rw [ev5]; rfl) (by decide) rfl (fun ls hl => ?_)
        refine lv_goto (tgt := 4) hx hb dX2_countSettling_25 (by decide) ?_
        exact ih hw hI (lv_sub hl [2, 1, 0] rfl) (by omega) (by omega)
set_option maxHeartbeats 4000000 in
set_option maxRecDepth 100000 in
theorem kX2_countSettling_0 {b : Nat} (hX : jX2 D z A p l s m args meth c yX2_countSettling cX2_countSettling 3 wsX2_countSettling (some .int)) {Q : Int32 → jM → Prop}   {μ : jM} {H : Heap} {locs : List Loc} {ls : Array Slot} {cells slots : Nat} (hw : wX2_countSettling_0 z b Q  μ) (hI : jIz D z A s.heap μ H locs) (hl : lv_has ls 3 [(0, va_rf (some b))]) (hcn : cells + 0 ≤ 0) (hsn : slots + 0 ≤ 0) : W p l e rmX2_countSettling s m args below meth c H locs cells slots (MQ below (jRz jfI Q D z A) args s 0 0 A) (F0 m 0 ls []) := by
  unfold wX2_countSettling_0 at hw
  obtain ⟨hx, hb, hml, hown, hts, hr, hlocks, hnm, hK, hG, hfl⟩ := id hX
  have hown : s.vm.findClass RX2 = some m.cls := hown
  refine lv_iconst (v := (0)) hx hb dX2_countSettling_0 (by decide) ?_
  refine lv_topi (fun v1 ev1 => ?_)
  have hw := hw v1 ev1
  refine lv_istore_n (lv' := [(1, .int v1), (0, va_rf (some b))]) hx hb dX2_countSettling_1 rfl hl (by decide) rfl (fun ls hl => ?_)
  refine lv_iconst (v := (0)) hx hb dX2_countSettling_2 (by decide) ?_
  refine lv_topi (fun v2 ev2 => ?_)
  have hw := hw v2 ev2
  refine lv_istore_n (lv' := [(2, .int v2), (1, .int v1), (0, va_rf (some b))]) hx hb dX2_countSettling_3 rfl hl (by decide) rfl (fun ls hl => ?_)
  obtain ⟨n3, hw⟩ := hw
  exact kX2_countSettling_4 hX  n3 hw hI (lv_sub hl [2, 1, 0] rfl) (by omega) (by omega)
set_option maxHeartbeats 4000000 in
set_option maxRecDepth 100000 in
theorem kX2_countSettling (l : Launch) (hfl : l.stackTraces = false) (D : jD) (z : Nat × Nat) (b : Nat)  (μ : jM) (sz : Nat) (Q : Int32 → jM → Prop) : Met l yX2_countSettling wsX2_countSettling rmX2_countSettling (jPre2z D z μ sz [.ref b] (wX2_countSettling z b  μ Q)) (jRz jfI Q D z (jA z μ sz)) 0 0 (jA z μ sz) := by
  refine Met.ofW (cc := cX2_countSettling) (maxL := 3) (ret := (some .int)) (by decide) rfl ?_
  intro p e s m args below meth c s₁ B hml hv
  obtain ⟨rfl, hsz, hH, hz0, hK, hG, hw⟩ := hv
  subst hsz
  have hX : jX2 D z (jA z μ s.heap.size) p l s m _ meth c yX2_countSettling cX2_countSettling 3 wsX2_countSettling (some .int) := ⟨B.exec, B.bytes, hml, findClass_of_methodNamed B.named, atoms_spec (ws := wsX2_countSettling) B.pre, B.returns, B.notSynchronized, (name_of_methodNamed B.named B.method).1, hK, hG, hfl⟩
  obtain ⟨ls, hg, hl⟩ : ∃ ls : Array Slot, entryFrame m ([.ref b] : List Value).toArray 3 = F0 m 0 ls [] ∧ lv_has ls 3 [(0, va_rf (some b))] := by
    exact ⟨_, lg_entry_eq .., lv_entry _ (n := 3) (Nat.le_of_ble_eq_true rfl)⟩
  rw [hg]
  exact kX2_countSettling_0 hX hw (jIz.start hH hz0) (lv_sub hl [0] rfl) (by decide) (by decide)
set_option maxHeartbeats 4000000 in
set_option maxRecDepth 100000 in
theorem kX9_addHoliday_0 {b : Nat} (hX : jX2 D z A p l s m args meth c yX9_addHoliday cX9_addHoliday 2 wsX9_addHoliday (some .int)) (hno : ∀ x ∈ c.exceptionTable.toList, False) {Q : Int32 → jM → Prop} {X : String → jM → Prop}  {x1 : Int32} {μ : jM} {H : Heap} {locs : List Loc} {ls : Array Slot} {cells slots : Nat} (hw : wX9_addHoliday_0 z b Q X x1 μ) (hI : jIz D z A s.heap μ H locs) (hl : lv_has ls 2 [(0, va_rf (some b)), (1, .int x1)]) (hcn : cells + 1 ≤ 1) (hsn : slots + 6 ≤ 6) : W p l e rmX9_addHoliday s m args below meth c H locs cells slots (vx_MQ below (jRz jfI Q D z A) (jXCz X D z A) args s 1 6 A) (F0 m 0 ls []) := by
  unfold wX9_addHoliday_0 at hw
  obtain ⟨hx, hb, hml, hown, hts, hr, hlocks, hnm, hK, hG, hfl⟩ := id hX
  have hown : s.vm.findClass RX9 = some m.cls := hown
  have hfX3 : ∀ w ∈ wsX30, w.before args s = true := fun w h => hts w (List.mem_cons_of_mem _ (List.mem_append_left _ (List.mem_append_left _ (List.mem_append_right _ h))))
  have hfX9 : ∀ w ∈ wsX90, w.before args s = true := fun w h => hts w (List.mem_cons_of_mem _ (List.mem_append_left _ (List.mem_append_left _ (List.mem_append_left _ (List.mem_append_right _ h)))))
  refine lv_iload_n hx hb dX9_addHoliday_0 rfl (lv_at hl 1 rfl) ?_
  refine lv_iconst (v := (0)) hx hb dX9_addHoliday_1 (by decide) ?_
  refine lv_sipush (v := (450)) hx hb dX9_addHoliday_2 (by decide) ?_
  refine j_goXz hI (vx_runS (As := [.int x1, .int (0 : Int32), .int (450 : Int32)]) (rest := []) ⟨hx, hb, hml, hown, hts⟩ (kX9_requireWithin l hfl D z x1 (0 : Int32) (450 : Int32) μ H.size _ _) (va_cwS 3 hts gX9_addHoliday_X9_requireWithin rfl rfl rfl (by decide +kernel) ⟨Nat.le_of_ble_eq_true rfl, Nat.le_of_ble_eq_true rfl⟩) (j_prS2z hK hG hI hw) rfl rfl hl.1 rfl (lv_room (Nat.le_of_ble_eq_true rfl)) dX9_addHoliday_5 ⟨by show _ ≤ 1; omega, by show _ ≤ 6; omega⟩) (fun E ce q9 μX H locs hw hI hce hcv hcl => ?_) (fun u1 μ2 H locs hw hI => ?_)
  · exact j_outz hno hlocks hI hce hcv hcl hw (by omega) (by omega)
  refine W.eq (g2 := F0 m 8 ls []) rfl ?_
  refine j_aload_n (r := (some b)) hx hb dX9_addHoliday_8 rfl (lv_at hl 0 rfl) ?_
  obtain ⟨v3, hv3, hw⟩ := hw
  refine j_getz (C := RX9) (T := TX9) (N := 1) (ci := 11) (r := (some b)) (v := va_rf v3) hx hb hfX9 hown hK hI rfl 0 (by decide) (hts (.fieldLink RX9 10 "CashPools" "desk" "LCashPools$Desk;") (List.mem_of_getElem? (i := 1) (by decide +kernel))) (fun _ h => h) hv3 dX9_addHoliday_9 ?_
  obtain ⟨v4, hv4, hw⟩ := hw
  refine j_getz (C := RX3) (T := TX3) (N := 8) (ci := 6) (r := v3) (v := va_rf v4) hx hb hfX3 hown hK hI rfl 5 (by decide) (hts (.fieldLink RX9 94 "CashPools$Desk" "calendar" "LCashPools$Calendar;") (List.mem_of_getElem? (i := 2) (by decide +kernel))) (fun _ h => h) hv4 dX9_addHoliday_12 ?_
  refine lv_iload_n hx hb dX9_addHoliday_15 rfl (lv_at hl 1 rfl) ?_
  obtain ⟨b7, ⟨hrb7, hfs⟩, hw⟩ := hw
  refine j_goz hI (va_runV (As := [.int x1]) (rest := []) ⟨hx, hb, hml, hown, hts⟩ (kX2_markHoliday l hfl D z b7 x1 μ2 H.size _) (cwV 1 hts gX9_addHoliday_X2_markHoliday rfl rfl rfl (by decide +kernel) ⟨Nat.le_of_ble_eq_true rfl, Nat.le_of_ble_eq_true rfl⟩) (j_prV2z hK hG hI hw (ci := 5) rfl hfs) rfl rfl hl.1 (by rw [hrb7]; rfl) (lv_room (Nat.le_of_ble_eq_true rfl)) dX9_addHoliday_16 ⟨by show _ ≤ 1; omega, by show _ ≤ 6; omega⟩) (fun u5 μ6 H locs hw hI => ?_)
  refine W.eq (g2 := F0 m 19 ls []) rfl ?_
  refine j_aload_n (r := (some b)) hx hb dX9_addHoliday_19 rfl (lv_at hl 0 rfl) ?_
  obtain ⟨v8, hv8, hw⟩ := hw
  refine j_getz (C := RX9) (T := TX9) (N := 1) (ci := 11) (r := (some b)) (v := va_rf v8) hx hb hfX9 hown hK hI rfl 0 (by decide) (hts (.fieldLink RX9 10 "CashPools" "desk" "LCashPools$Desk;") (List.mem_of_getElem? (i := 1) (by decide +kernel))) (fun _ h => h) hv8 dX9_addHoliday_20 ?_
  obtain ⟨v9, hv9, hw⟩ := hw
  refine j_getz (C := RX3) (T := TX3) (N := 8) (ci := 6) (r := v8) (v := va_rf v9) hx hb hfX3 hown hK hI rfl 5 (by decide) (hts (.fieldLink RX9 94 "CashPools$Desk" "calendar" "LCashPools$Calendar;") (List.mem_of_getElem? (i := 2) (by decide +kernel))) (fun _ h => h) hv9 dX9_addHoliday_23 ?_
  obtain ⟨b12, ⟨hrb12, hfs⟩, hw⟩ := hw
  refine j_goz hI (va_runV (As := []) (rest := []) ⟨hx, hb, hml, hown, hts⟩ (kX2_countSettling l hfl D z b12  μ6 H.size _) (cwV 0 hts gX9_addHoliday_X2_countSettling rfl rfl rfl (by decide +kernel) ⟨Nat.le_of_ble_eq_true rfl, Nat.le_of_ble_eq_true rfl⟩) (j_prV2z hK hG hI hw (ci := 5) rfl hfs) rfl rfl hl.1 (by rw [hrb12]; rfl) (lv_room (Nat.le_of_ble_eq_true rfl)) dX9_addHoliday_26 ⟨by show _ ≤ 1; omega, by show _ ≤ 6; omega⟩) (fun v10 μ11 H locs hw hI => ?_)
  refine W.eq (g2 := F0 m 29 ls [.int v10]) rfl ?_
  exact vx_ret (j_iretz hx hb hr hlocks hI hw (by omega) (by omega) dX9_addHoliday_29)
set_option maxHeartbeats 4000000 in
set_option maxRecDepth 100000 in
theorem kX9_addHoliday (l : Launch) (hfl : l.stackTraces = false) (D : jD) (z : Nat × Nat) (b : Nat) (x1 : Int32) (μ : jM) (sz : Nat) (Q : Int32 → jM → Prop) (X : String → jM → Prop) : vx_Met l yX9_addHoliday wsX9_addHoliday rmX9_addHoliday (jPre2z D z μ sz [.ref b, .int x1] (wX9_addHoliday z b x1 μ Q X)) (jRz jfI Q D z (jA z μ sz)) (jXCz X D z (jA z μ sz)) 1 6 (jA z μ sz) := by
  refine vx_ofW (cc := cX9_addHoliday) (maxL := 2) (ret := (some .int)) (by decide) rfl ?_
  intro p e s m args below meth c s₁ B hml hno hv
  obtain ⟨rfl, hsz, hH, hz0, hK, hG, hw⟩ := hv
  subst hsz
  have hX : jX2 D z (jA z μ s.heap.size) p l s m _ meth c yX9_addHoliday cX9_addHoliday 2 wsX9_addHoliday (some .int) := ⟨B.exec, B.bytes, hml, findClass_of_methodNamed B.named, atoms_spec (ws := wsX9_addHoliday) B.pre, B.returns, B.notSynchronized, (name_of_methodNamed B.named B.method).1, hK, hG, hfl⟩
  obtain ⟨ls, hg, hl⟩ : ∃ ls : Array Slot, entryFrame m ([.ref b, .int x1] : List Value).toArray 2 = F0 m 0 ls [] ∧ lv_has ls 2 [(0, va_rf (some b)), (1, .int x1)] := by
    exact ⟨_, lg_entry_eq .., lv_entry _ (n := 2) (Nat.le_of_ble_eq_true rfl)⟩
  rw [hg]
  exact kX9_addHoliday_0 hX hno hw (jIz.start hH hz0) (lv_sub hl [0, 1] rfl) (by decide) (by decide)
set_option maxHeartbeats 4000000 in
set_option maxRecDepth 100000 in
theorem kL_addHoliday_0 (hX : jX2 D z A p l s m args meth c yL_addHoliday cL_addHoliday 4 wsL_addHoliday (some .int)) (htab : c.exceptionTable.toList = ([⟨0, 9, 12, 13⟩] : List ExceptionTableEntry)) {Q : Int32 → jM → Prop}  {x0 : Option Nat} {x1 : Int32} {x2 : Option Nat} {μ : jM} {H : Heap} {locs : List Loc} {ls : Array Slot} {cells slots : Nat} (hw : wL_addHoliday_0 z Q x0 x1 x2 μ) (hI : jIz D z A s.heap μ H locs) (hl : lv_has ls 4 [(0, va_rf x0), (1, .int x1), (2, va_rf x2)]) (hcn : cells + 1 ≤ 1) (hsn : slots + 6 ≤ 6) : W p l e rmL_addHoliday s m args below meth c H locs cells slots (vx_MQ below (jRz jfI Q D z A) (jXCz (fun _ _ => False) D z A) args s 1 6 A) (F0 m 0 ls []) := by
  unfold wL_addHoliday_0 at hw
  obtain ⟨hx, hb, hml, hown, hts, hr, hlocks, hnm, hK, hG, hfl⟩ := id hX
  have hown : s.vm.findClass RL = some m.cls := hown
  refine j_aload_n (r := x2) hx hb dL_addHoliday_0 rfl (lv_at hl 2 rfl) ?_
  refine lv_iconst (v := (0)) hx hb dL_addHoliday_1 (by decide) ?_
  refine j_aload_n (r := x0) hx hb dL_addHoliday_2 rfl (lv_at hl 0 rfl) ?_
  refine lv_iload_n hx hb dL_addHoliday_3 rfl (lv_at hl 1 rfl) ?_
  obtain ⟨b3, ⟨hrb3, hfs⟩, hw⟩ := hw
  refine j_goXz hI (vx_runV (As := [.int x1]) (rest := [.int (0 : Int32), va_rf x2]) ⟨hx, hb, hml, hown, hts⟩ (kX9_addHoliday l hfl D z b3 x1 μ H.size _ _) (cwV 1 hts gL_addHoliday_X9_addHoliday rfl rfl rfl (by decide +kernel) ⟨Nat.le_of_ble_eq_true rfl, Nat.le_of_ble_eq_true rfl⟩) (j_prV2z hK hG hI hw (ci := 11) rfl hfs) rfl rfl hl.1 (by rw [hrb3]; rfl) (lv_room (by simp only [List.map, List.sum_cons, List.sum_nil, jrc, jci, jcl, jcr, jcn]; exact Nat.le_of_ble_eq_true rfl)) dL_addHoliday_4 ⟨by show _ ≤ 1; omega, by show _ ≤ 6; omega⟩) (fun E ce q9 μX H locs hw hI hce hcv hcl => ?_) (fun v1 μ2 H locs hw hI => ?_)
  · obtain ⟨hw, rfl⟩ := hw
    · have hw := hw rfl
      refine vx_catch hown [] ⟨0, 9, 12, 13⟩ [] (name := "java/lang/IllegalArgumentException") htab (fun z hz => absurd hz List.not_mem_nil) (by decide) (by decide) (hts (.classLink RL 13 "java/lang/IllegalArgumentException") (List.mem_of_getElem? (i := 1) (by decide +kernel))) (va_Nw.use rfl (hG.2.2.2.2.2.2.2.2.1 _ (by decide +kernel))) hce hcv hcl ?_
      refine W.eq (g2 := F0 m 12 ls [va_rf (some q9)]) rfl ?_
      refine j_astore_nA (r := x2) (r0 := (some q9)) (F := fun w => [(0, va_rf x0), (1, .int x1), (2, w)]) (F2 := fun w => [(3, va_rf (some q9)), (0, va_rf x0), (1, .int x1), (2, w)]) hx hb dL_addHoliday_12 rfl hl (by decide) (fun w hw => by rcases hw with rfl | ⟨_, rfl⟩ <;> rfl) (fun ls hl => ?_)
      refine lv_iconst (v := (1)) hx hb dL_addHoliday_13 (by decide) ?_
      exact vx_ret (j_iretz hx hb hr hlocks hI hw (by omega) (by omega) dL_addHoliday_14)
  refine W.eq (g2 := F0 m 7 ls [.int v1, .int (0 : Int32), va_rf x2]) rfl ?_
  refine lv_i2l hx hb dL_addHoliday_7 rfl ?_
  obtain ⟨μ4, hμ4, hw⟩ := hw
  refine j_lastz (r := x2) hx hb hK hI hμ4 dL_addHoliday_8 (fun H locs hI => ?_)
  refine lv_goto (tgt := 15) hx hb dL_addHoliday_9 (by decide) ?_
  refine lv_iconst (v := (0)) hx hb dL_addHoliday_15 (by decide) ?_
  exact vx_ret (j_iretz hx hb hr hlocks hI hw (by omega) (by omega) dL_addHoliday_16)
set_option maxHeartbeats 4000000 in
set_option maxRecDepth 100000 in
theorem kL_addHoliday (l : Launch) (hfl : l.stackTraces = false) (D : jD) (z : Nat × Nat) (x0 : Option Nat) (x1 : Int32) (x2 : Option Nat) (μ : jM) (sz : Nat) (Q : Int32 → jM → Prop) : vx_Met l yL_addHoliday wsL_addHoliday rmL_addHoliday (jPre2z D z μ sz [va_rf x0, .int x1, va_rf x2] (wL_addHoliday z x0 x1 x2 μ Q)) (jRz jfI Q D z (jA z μ sz)) (jXCz (fun _ _ => False) D z (jA z μ sz)) 1 6 (jA z μ sz) := by
  refine vx_ofWH (cc := cL_addHoliday) (maxL := 4) (ret := (some .int)) (by decide) rfl ?_
  intro p e s m args below meth c s₁ B hml hv
  obtain ⟨rfl, hsz, hH, hz0, hK, hG, hw⟩ := hv
  subst hsz
  have hX : jX2 D z (jA z μ s.heap.size) p l s m _ meth c yL_addHoliday cL_addHoliday 4 wsL_addHoliday (some .int) := ⟨B.exec, B.bytes, hml, findClass_of_methodNamed B.named, atoms_spec (ws := wsL_addHoliday) B.pre, B.returns, B.notSynchronized, (name_of_methodNamed B.named B.method).1, hK, hG, hfl⟩
  obtain ⟨ls, hg, hl⟩ : ∃ ls : Array Slot, entryFrame m ([va_rf x0, .int x1, va_rf x2] : List Value).toArray 4 = F0 m 0 ls [] ∧ lv_has ls 4 [(0, va_rf x0), (1, .int x1), (2, va_rf x2)] := by
    cases x0 <;> cases x2 <;> exact ⟨_, lg_entry_eq .., lv_entry _ (n := 4) (Nat.le_of_ble_eq_true rfl)⟩
  rw [hg]
  exact kL_addHoliday_0 hX ((vx_table (x := yL_addHoliday) B (atoms_spec (ws := wsL_addHoliday) B.pre _ (List.mem_of_getElem? (i := 0) rfl))).trans rfl) hw (jIz.start hH hz0) (lv_sub hl [0, 1, 2] rfl) (by decide) (by decide)
set_option maxHeartbeats 4000000 in
set_option maxRecDepth 100000 in
theorem kX2_firstSettlingFrom_2 {b : Nat} (hX : jX2 D z A p l s m args meth c yX2_firstSettlingFrom cX2_firstSettlingFrom 3 wsX2_firstSettlingFrom (some .int)) {Q : Int32 → jM → Prop}  (n : Nat) : ∀ {x2 : Int32} {μ : jM} {H : Heap} {locs : List Loc} {ls : Array Slot} {cells slots : Nat}, wX2_firstSettlingFrom_2 z b Q n x2 μ → jIz D z A s.heap μ H locs → lv_has ls 3 [(0, va_rf (some b)), (2, .int x2)] → cells + 0 ≤ 0 → slots + 0 ≤ 0 → W p l e rmX2_firstSettlingFrom s m args below meth c H locs cells slots (MQ below (jRz jfI Q D z A) args s 0 0 A) (F0 m 2 ls []) := by
  induction n with
  | zero =>
    intros
    rename_i hw _ _ _ _
    exact (show False from hw).elim
  | succ n ih =>
    intro x2 μ H locs ls cells slots hw hI hl hcn hsn
    have hw : wX2_firstSettlingFrom_2_b z b Q (wX2_firstSettlingFrom_2 z b Q n) x2 μ := hw
    unfold wX2_firstSettlingFrom_2_b at hw
    obtain ⟨hx, hb, hml, hown, hts, hr, hlocks, hnm, hK, hG, hfl⟩ := id hX
    have hown : s.vm.findClass RX2 = some m.cls := hown
    refine lv_iload_n hx hb dX2_firstSettlingFrom_2 rfl (lv_at hl 1 rfl) ?_
    refine lv_sipush (v := (450)) hx hb dX2_firstSettlingFrom_3 (by decide) ?_
    refine lv_icmp_gt (tgt := 25) hx hb dX2_firstSettlingFrom_6 (by decide) (fun hc => ?_) (fun hc => ?_)
    · have hw := hw.1 hc
      refine lv_iconst (v := (-1)) hx hb dX2_firstSettlingFrom_25 (by decide) ?_
      exact j_iretz hx hb hr hlocks hI hw (by omega) (by omega) dX2_firstSettlingFrom_26
    · have hw := hw.2 hc
      refine j_aload_n (r := (some b)) hx hb dX2_firstSettlingFrom_9 rfl (lv_at hl 0 rfl) ?_
      refine lv_iload_n hx hb dX2_firstSettlingFrom_10 rfl (lv_at hl 1 rfl) ?_
      obtain ⟨hfs, hw⟩ := hw
      refine j_goz hI (va_runV (As := [.int x2]) (rest := []) ⟨hx, hb, hml, hown, hts⟩ (kX2_settles l hfl D z b x2 μ H.size _) (cwV 1 hts gX2_firstSettlingFrom_X2_settles rfl rfl rfl (by decide +kernel) ⟨Nat.le_of_ble_eq_true rfl, Nat.le_of_ble_eq_true rfl⟩) (j_prV2z hK hG hI hw (ci := 5) rfl hfs) rfl rfl hl.1 rfl (lv_room (Nat.le_of_ble_eq_true rfl)) dX2_firstSettlingFrom_11 ⟨by show _ ≤ 0; omega, by show _ ≤ 0; omega⟩) (fun v1 μ2 H locs hw hI => ?_)
      refine W.eq (g2 := F0 m 14 ls [.int v1]) rfl ?_
      refine lv_if_eq (tgt := 19) hx hb dX2_firstSettlingFrom_14 (by decide) (fun hc => ?_) (fun hc => ?_)
      · have hw := hw.1 hc
        obtain ⟨v3, ev3⟩ : ∃ y : Int32, y = x2 + (1 : Int32) := ⟨_, rfl⟩
        have hw := hw v3 ev3
        refine lv_iinc (v := v3) (lv' := [(2, .int v3), (0, va_rf (some b))]) hx hb dX2_firstSettlingFrom_19 hl (k := 1) rfl (by rw [ev3]; rfl) (by decide) rfl (fun ls hl => ?_)
        refine lv_goto (tgt := 2) hx hb dX2_firstSettlingFrom_22 (by decide) ?_
        exact ih hw hI (lv_sub hl [1, 0] rfl) (by omega) (by omega)
      · have hw := hw.2 hc
        refine lv_iload_n hx hb dX2_firstSettlingFrom_17 rfl (lv_at hl 1 rfl) ?_
        exact j_iretz hx hb hr hlocks hI hw (by omega) (by omega) dX2_firstSettlingFrom_18
set_option maxHeartbeats 4000000 in
set_option maxRecDepth 100000 in
theorem kX2_firstSettlingFrom_0 {b : Nat} (hX : jX2 D z A p l s m args meth c yX2_firstSettlingFrom cX2_firstSettlingFrom 3 wsX2_firstSettlingFrom (some .int)) {Q : Int32 → jM → Prop}  {x1 : Int32} {μ : jM} {H : Heap} {locs : List Loc} {ls : Array Slot} {cells slots : Nat} (hw : wX2_firstSettlingFrom_0 z b Q x1 μ) (hI : jIz D z A s.heap μ H locs) (hl : lv_has ls 3 [(0, va_rf (some b)), (1, .int x1)]) (hcn : cells + 0 ≤ 0) (hsn : slots + 0 ≤ 0) : W p l e rmX2_firstSettlingFrom s m args below meth c H locs cells slots (MQ below (jRz jfI Q D z A) args s 0 0 A) (F0 m 0 ls []) := by
  unfold wX2_firstSettlingFrom_0 at hw
  obtain ⟨hx, hb, hml, hown, hts, hr, hlocks, hnm, hK, hG, hfl⟩ := id hX
  have hown : s.vm.findClass RX2 = some m.cls := hown
  refine lv_iload_n hx hb dX2_firstSettlingFrom_0 rfl (lv_at hl 1 rfl) ?_
  refine lv_istore_n (lv' := [(2, .int x1), (0, va_rf (some b)), (1, .int x1)]) hx hb dX2_firstSettlingFrom_1 rfl hl (by decide) rfl (fun ls hl => ?_)
  obtain ⟨n1, hw⟩ := hw
  exact kX2_firstSettlingFrom_2 hX  n1 hw hI (lv_sub hl [1, 0] rfl) (by omega) (by omega)
set_option maxHeartbeats 4000000 in
set_option maxRecDepth 100000 in
theorem kX2_firstSettlingFrom (l : Launch) (hfl : l.stackTraces = false) (D : jD) (z : Nat × Nat) (b : Nat) (x1 : Int32) (μ : jM) (sz : Nat) (Q : Int32 → jM → Prop) : Met l yX2_firstSettlingFrom wsX2_firstSettlingFrom rmX2_firstSettlingFrom (jPre2z D z μ sz [.ref b, .int x1] (wX2_firstSettlingFrom z b x1 μ Q)) (jRz jfI Q D z (jA z μ sz)) 0 0 (jA z μ sz) := by
  refine Met.ofW (cc := cX2_firstSettlingFrom) (maxL := 3) (ret := (some .int)) (by decide) rfl ?_
  intro p e s m args below meth c s₁ B hml hv
  obtain ⟨rfl, hsz, hH, hz0, hK, hG, hw⟩ := hv
  subst hsz
  have hX : jX2 D z (jA z μ s.heap.size) p l s m _ meth c yX2_firstSettlingFrom cX2_firstSettlingFrom 3 wsX2_firstSettlingFrom (some .int) := ⟨B.exec, B.bytes, hml, findClass_of_methodNamed B.named, atoms_spec (ws := wsX2_firstSettlingFrom) B.pre, B.returns, B.notSynchronized, (name_of_methodNamed B.named B.method).1, hK, hG, hfl⟩
  obtain ⟨ls, hg, hl⟩ : ∃ ls : Array Slot, entryFrame m ([.ref b, .int x1] : List Value).toArray 3 = F0 m 0 ls [] ∧ lv_has ls 3 [(0, va_rf (some b)), (1, .int x1)] := by
    exact ⟨_, lg_entry_eq .., lv_entry _ (n := 3) (Nat.le_of_ble_eq_true rfl)⟩
  rw [hg]
  exact kX2_firstSettlingFrom_0 hX hw (jIz.start hH hz0) (lv_sub hl [0, 1] rfl) (by decide) (by decide)
set_option maxHeartbeats 4000000 in
set_option maxRecDepth 100000 in
theorem kX9_settlementDay_0 {b : Nat} (hX : jX2 D z A p l s m args meth c yX9_settlementDay cX9_settlementDay 2 wsX9_settlementDay (some .int)) (hno : ∀ x ∈ c.exceptionTable.toList, False) {Q : Int32 → jM → Prop} {X : String → jM → Prop}  {x1 : Int32} {μ : jM} {H : Heap} {locs : List Loc} {ls : Array Slot} {cells slots : Nat} (hw : wX9_settlementDay_0 z b Q X x1 μ) (hI : jIz D z A s.heap μ H locs) (hl : lv_has ls 2 [(0, va_rf (some b)), (1, .int x1)]) (hcn : cells + 1 ≤ 1) (hsn : slots + 6 ≤ 6) : W p l e rmX9_settlementDay s m args below meth c H locs cells slots (vx_MQ below (jRz jfI Q D z A) (jXCz X D z A) args s 1 6 A) (F0 m 0 ls []) := by
  unfold wX9_settlementDay_0 at hw
  obtain ⟨hx, hb, hml, hown, hts, hr, hlocks, hnm, hK, hG, hfl⟩ := id hX
  have hown : s.vm.findClass RX9 = some m.cls := hown
  have hfX3 : ∀ w ∈ wsX30, w.before args s = true := fun w h => hts w (List.mem_cons_of_mem _ (List.mem_append_left _ (List.mem_append_left _ (List.mem_append_right _ h))))
  have hfX9 : ∀ w ∈ wsX90, w.before args s = true := fun w h => hts w (List.mem_cons_of_mem _ (List.mem_append_left _ (List.mem_append_left _ (List.mem_append_left _ (List.mem_append_right _ h)))))
  refine lv_iload_n hx hb dX9_settlementDay_0 rfl (lv_at hl 1 rfl) ?_
  refine lv_iconst (v := (0)) hx hb dX9_settlementDay_1 (by decide) ?_
  refine lv_sipush (v := (450)) hx hb dX9_settlementDay_2 (by decide) ?_
  refine j_goXz hI (vx_runS (As := [.int x1, .int (0 : Int32), .int (450 : Int32)]) (rest := []) ⟨hx, hb, hml, hown, hts⟩ (kX9_requireWithin l hfl D z x1 (0 : Int32) (450 : Int32) μ H.size _ _) (va_cwS 3 hts gX9_settlementDay_X9_requireWithin rfl rfl rfl (by decide +kernel) ⟨Nat.le_of_ble_eq_true rfl, Nat.le_of_ble_eq_true rfl⟩) (j_prS2z hK hG hI hw) rfl rfl hl.1 rfl (lv_room (Nat.le_of_ble_eq_true rfl)) dX9_settlementDay_5 ⟨by show _ ≤ 1; omega, by show _ ≤ 6; omega⟩) (fun E ce q9 μX H locs hw hI hce hcv hcl => ?_) (fun u1 μ2 H locs hw hI => ?_)
  · exact j_outz hno hlocks hI hce hcv hcl hw (by omega) (by omega)
  refine W.eq (g2 := F0 m 8 ls []) rfl ?_
  refine j_aload_n (r := (some b)) hx hb dX9_settlementDay_8 rfl (lv_at hl 0 rfl) ?_
  obtain ⟨v3, hv3, hw⟩ := hw
  refine j_getz (C := RX9) (T := TX9) (N := 1) (ci := 11) (r := (some b)) (v := va_rf v3) hx hb hfX9 hown hK hI rfl 0 (by decide) (hts (.fieldLink RX9 10 "CashPools" "desk" "LCashPools$Desk;") (List.mem_of_getElem? (i := 1) (by decide +kernel))) (fun _ h => h) hv3 dX9_settlementDay_9 ?_
  obtain ⟨v4, hv4, hw⟩ := hw
  refine j_getz (C := RX3) (T := TX3) (N := 8) (ci := 6) (r := v3) (v := va_rf v4) hx hb hfX3 hown hK hI rfl 5 (by decide) (hts (.fieldLink RX9 94 "CashPools$Desk" "calendar" "LCashPools$Calendar;") (List.mem_of_getElem? (i := 2) (by decide +kernel))) (fun _ h => h) hv4 dX9_settlementDay_12 ?_
  refine lv_iload_n hx hb dX9_settlementDay_15 rfl (lv_at hl 1 rfl) ?_
  obtain ⟨b7, ⟨hrb7, hfs⟩, hw⟩ := hw
  refine j_goz hI (va_runV (As := [.int x1]) (rest := []) ⟨hx, hb, hml, hown, hts⟩ (kX2_firstSettlingFrom l hfl D z b7 x1 μ2 H.size _) (cwV 1 hts gX9_settlementDay_X2_firstSettlingFrom rfl rfl rfl (by decide +kernel) ⟨Nat.le_of_ble_eq_true rfl, Nat.le_of_ble_eq_true rfl⟩) (j_prV2z hK hG hI hw (ci := 5) rfl hfs) rfl rfl hl.1 (by rw [hrb7]; rfl) (lv_room (Nat.le_of_ble_eq_true rfl)) dX9_settlementDay_16 ⟨by show _ ≤ 1; omega, by show _ ≤ 6; omega⟩) (fun v5 μ6 H locs hw hI => ?_)
  refine W.eq (g2 := F0 m 19 ls [.int v5]) rfl ?_
  exact vx_ret (j_iretz hx hb hr hlocks hI hw (by omega) (by omega) dX9_settlementDay_19)
set_option maxHeartbeats 4000000 in
set_option maxRecDepth 100000 in
theorem kX9_settlementDay (l : Launch) (hfl : l.stackTraces = false) (D : jD) (z : Nat × Nat) (b : Nat) (x1 : Int32) (μ : jM) (sz : Nat) (Q : Int32 → jM → Prop) (X : String → jM → Prop) : vx_Met l yX9_settlementDay wsX9_settlementDay rmX9_settlementDay (jPre2z D z μ sz [.ref b, .int x1] (wX9_settlementDay z b x1 μ Q X)) (jRz jfI Q D z (jA z μ sz)) (jXCz X D z (jA z μ sz)) 1 6 (jA z μ sz) := by
  refine vx_ofW (cc := cX9_settlementDay) (maxL := 2) (ret := (some .int)) (by decide) rfl ?_
  intro p e s m args below meth c s₁ B hml hno hv
  obtain ⟨rfl, hsz, hH, hz0, hK, hG, hw⟩ := hv
  subst hsz
  have hX : jX2 D z (jA z μ s.heap.size) p l s m _ meth c yX9_settlementDay cX9_settlementDay 2 wsX9_settlementDay (some .int) := ⟨B.exec, B.bytes, hml, findClass_of_methodNamed B.named, atoms_spec (ws := wsX9_settlementDay) B.pre, B.returns, B.notSynchronized, (name_of_methodNamed B.named B.method).1, hK, hG, hfl⟩
  obtain ⟨ls, hg, hl⟩ : ∃ ls : Array Slot, entryFrame m ([.ref b, .int x1] : List Value).toArray 2 = F0 m 0 ls [] ∧ lv_has ls 2 [(0, va_rf (some b)), (1, .int x1)] := by
    exact ⟨_, lg_entry_eq .., lv_entry _ (n := 2) (Nat.le_of_ble_eq_true rfl)⟩
  rw [hg]
  exact kX9_settlementDay_0 hX hno hw (jIz.start hH hz0) (lv_sub hl [0, 1] rfl) (by decide) (by decide)
set_option maxHeartbeats 4000000 in
set_option maxRecDepth 100000 in
theorem kL_settlementDay_0 (hX : jX2 D z A p l s m args meth c yL_settlementDay cL_settlementDay 4 wsL_settlementDay (some .int)) (htab : c.exceptionTable.toList = ([⟨0, 9, 12, 13⟩] : List ExceptionTableEntry)) {Q : Int32 → jM → Prop}  {x0 : Option Nat} {x1 : Int32} {x2 : Option Nat} {μ : jM} {H : Heap} {locs : List Loc} {ls : Array Slot} {cells slots : Nat} (hw : wL_settlementDay_0 z Q x0 x1 x2 μ) (hI : jIz D z A s.heap μ H locs) (hl : lv_has ls 4 [(0, va_rf x0), (1, .int x1), (2, va_rf x2)]) (hcn : cells + 1 ≤ 1) (hsn : slots + 6 ≤ 6) : W p l e rmL_settlementDay s m args below meth c H locs cells slots (vx_MQ below (jRz jfI Q D z A) (jXCz (fun _ _ => False) D z A) args s 1 6 A) (F0 m 0 ls []) := by
  unfold wL_settlementDay_0 at hw
  obtain ⟨hx, hb, hml, hown, hts, hr, hlocks, hnm, hK, hG, hfl⟩ := id hX
  have hown : s.vm.findClass RL = some m.cls := hown
  refine j_aload_n (r := x2) hx hb dL_settlementDay_0 rfl (lv_at hl 2 rfl) ?_
  refine lv_iconst (v := (0)) hx hb dL_settlementDay_1 (by decide) ?_
  refine j_aload_n (r := x0) hx hb dL_settlementDay_2 rfl (lv_at hl 0 rfl) ?_
  refine lv_iload_n hx hb dL_settlementDay_3 rfl (lv_at hl 1 rfl) ?_
  obtain ⟨b3, ⟨hrb3, hfs⟩, hw⟩ := hw
  refine j_goXz hI (vx_runV (As := [.int x1]) (rest := [.int (0 : Int32), va_rf x2]) ⟨hx, hb, hml, hown, hts⟩ (kX9_settlementDay l hfl D z b3 x1 μ H.size _ _) (cwV 1 hts gL_settlementDay_X9_settlementDay rfl rfl rfl (by decide +kernel) ⟨Nat.le_of_ble_eq_true rfl, Nat.le_of_ble_eq_true rfl⟩) (j_prV2z hK hG hI hw (ci := 11) rfl hfs) rfl rfl hl.1 (by rw [hrb3]; rfl) (lv_room (by simp only [List.map, List.sum_cons, List.sum_nil, jrc, jci, jcl, jcr, jcn]; exact Nat.le_of_ble_eq_true rfl)) dL_settlementDay_4 ⟨by show _ ≤ 1; omega, by show _ ≤ 6; omega⟩) (fun E ce q9 μX H locs hw hI hce hcv hcl => ?_) (fun v1 μ2 H locs hw hI => ?_)
  · obtain ⟨hw, rfl⟩ := hw
    · have hw := hw rfl
      refine vx_catch hown [] ⟨0, 9, 12, 13⟩ [] (name := "java/lang/IllegalArgumentException") htab (fun z hz => absurd hz List.not_mem_nil) (by decide) (by decide) (hts (.classLink RL 13 "java/lang/IllegalArgumentException") (List.mem_of_getElem? (i := 1) (by decide +kernel))) (va_Nw.use rfl (hG.2.2.2.2.2.2.2.2.1 _ (by decide +kernel))) hce hcv hcl ?_
      refine W.eq (g2 := F0 m 12 ls [va_rf (some q9)]) rfl ?_
      refine j_astore_nA (r := x2) (r0 := (some q9)) (F := fun w => [(0, va_rf x0), (1, .int x1), (2, w)]) (F2 := fun w => [(3, va_rf (some q9)), (0, va_rf x0), (1, .int x1), (2, w)]) hx hb dL_settlementDay_12 rfl hl (by decide) (fun w hw => by rcases hw with rfl | ⟨_, rfl⟩ <;> rfl) (fun ls hl => ?_)
      refine lv_iconst (v := (1)) hx hb dL_settlementDay_13 (by decide) ?_
      exact vx_ret (j_iretz hx hb hr hlocks hI hw (by omega) (by omega) dL_settlementDay_14)
  refine W.eq (g2 := F0 m 7 ls [.int v1, .int (0 : Int32), va_rf x2]) rfl ?_
  refine lv_i2l hx hb dL_settlementDay_7 rfl ?_
  obtain ⟨μ4, hμ4, hw⟩ := hw
  refine j_lastz (r := x2) hx hb hK hI hμ4 dL_settlementDay_8 (fun H locs hI => ?_)
  refine lv_goto (tgt := 15) hx hb dL_settlementDay_9 (by decide) ?_
  refine lv_iconst (v := (0)) hx hb dL_settlementDay_15 (by decide) ?_
  exact vx_ret (j_iretz hx hb hr hlocks hI hw (by omega) (by omega) dL_settlementDay_16)
set_option maxHeartbeats 4000000 in
set_option maxRecDepth 100000 in
theorem kL_settlementDay (l : Launch) (hfl : l.stackTraces = false) (D : jD) (z : Nat × Nat) (x0 : Option Nat) (x1 : Int32) (x2 : Option Nat) (μ : jM) (sz : Nat) (Q : Int32 → jM → Prop) : vx_Met l yL_settlementDay wsL_settlementDay rmL_settlementDay (jPre2z D z μ sz [va_rf x0, .int x1, va_rf x2] (wL_settlementDay z x0 x1 x2 μ Q)) (jRz jfI Q D z (jA z μ sz)) (jXCz (fun _ _ => False) D z (jA z μ sz)) 1 6 (jA z μ sz) := by
  refine vx_ofWH (cc := cL_settlementDay) (maxL := 4) (ret := (some .int)) (by decide) rfl ?_
  intro p e s m args below meth c s₁ B hml hv
  obtain ⟨rfl, hsz, hH, hz0, hK, hG, hw⟩ := hv
  subst hsz
  have hX : jX2 D z (jA z μ s.heap.size) p l s m _ meth c yL_settlementDay cL_settlementDay 4 wsL_settlementDay (some .int) := ⟨B.exec, B.bytes, hml, findClass_of_methodNamed B.named, atoms_spec (ws := wsL_settlementDay) B.pre, B.returns, B.notSynchronized, (name_of_methodNamed B.named B.method).1, hK, hG, hfl⟩
  obtain ⟨ls, hg, hl⟩ : ∃ ls : Array Slot, entryFrame m ([va_rf x0, .int x1, va_rf x2] : List Value).toArray 4 = F0 m 0 ls [] ∧ lv_has ls 4 [(0, va_rf x0), (1, .int x1), (2, va_rf x2)] := by
    cases x0 <;> cases x2 <;> exact ⟨_, lg_entry_eq .., lv_entry _ (n := 4) (Nat.le_of_ble_eq_true rfl)⟩
  rw [hg]
  exact kL_settlementDay_0 hX ((vx_table (x := yL_settlementDay) B (atoms_spec (ws := wsL_settlementDay) B.pre _ (List.mem_of_getElem? (i := 0) rfl))).trans rfl) hw (jIz.start hH hz0) (lv_sub hl [0, 1, 2] rfl) (by decide) (by decide)
set_option maxHeartbeats 4000000 in
set_option maxRecDepth 100000 in
theorem kX4_bookUpTo_0 {b : Nat} (hX : jX2 D z A p l s m args meth c yX4_bookUpTo cX4_bookUpTo 2 wsX4_bookUpTo none) {Q : Unit → jM → Prop}  (n : Nat) : ∀ {x1 : Int32} {μ : jM} {H : Heap} {locs : List Loc} {ls : Array Slot} {cells slots : Nat}, wX4_bookUpTo_0 z b Q n x1 μ → jIz D z A s.heap μ H locs → lv_has ls 2 [(0, va_rf (some b)), (1, .int x1)] → cells + 0 ≤ 0 → slots + 0 ≤ 0 → W p l e rmX4_bookUpTo s m args below meth c H locs cells slots (MQ below (jRz jfV Q D z A) args s 0 0 A) (F0 m 0 ls []) := by
  induction n with
  | zero =>
    intros
    rename_i hw _ _ _ _
    exact (show False from hw).elim
  | succ n ih =>
    intro x1 μ H locs ls cells slots hw hI hl hcn hsn
    have hw : wX4_bookUpTo_0_b z b Q (wX4_bookUpTo_0 z b Q n) x1 μ := hw
    unfold wX4_bookUpTo_0_b at hw
    obtain ⟨hx, hb, hml, hown, hts, hr, hlocks, hnm, hK, hG, hfl⟩ := id hX
    have hown : s.vm.findClass RX4 = some m.cls := hown
    have hfX0 : ∀ w ∈ wsX00, w.before args s = true := fun w h => hts w (List.mem_cons_of_mem _ (List.mem_append_right _ h))
    have hfX4 : ∀ w ∈ wsX40, w.before args s = true := fun w h => hts w (List.mem_cons_of_mem _ (List.mem_append_left _ (List.mem_append_right _ h)))
    refine j_aload_n (r := (some b)) hx hb dX4_bookUpTo_0 rfl (lv_at hl 0 rfl) ?_
    obtain ⟨v1, hv1, hw⟩ := hw
    refine j_getz (C := RX4) (T := TX4) (N := 7) (ci := 7) (r := (some b)) (v := .int v1) hx hb hfX4 hown hK hI rfl 4 (by decide) (hts (.fieldLink RX4 23 "CashPools$Flow" "left" "I") (List.mem_of_getElem? (i := 1) (by decide +kernel))) (fun _ h => h) hv1 dX4_bookUpTo_1 ?_
    refine lv_if_le (tgt := 58) hx hb dX4_bookUpTo_4 (by decide) (fun hc => ?_) (fun hc => ?_)
    · have hw := hw.1 hc
      exact j_vretz hx hb hr hlocks hI hw (by omega) (by omega) dX4_bookUpTo_58
    · have hw := hw.2 hc
      refine j_aload_n (r := (some b)) hx hb dX4_bookUpTo_7 rfl (lv_at hl 0 rfl) ?_
      obtain ⟨v2, hv2, hw⟩ := hw
      refine j_getz (C := RX4) (T := TX4) (N := 7) (ci := 7) (r := (some b)) (v := .int v2) hx hb hfX4 hown hK hI rfl 3 (by decide) (hts (.fieldLink RX4 20 "CashPools$Flow" "due" "I") (List.mem_of_getElem? (i := 2) (by decide +kernel))) (fun _ h => h) hv2 dX4_bookUpTo_8 ?_
      refine lv_iload_n hx hb dX4_bookUpTo_11 rfl (lv_at hl 1 rfl) ?_
      refine lv_icmp_gt (tgt := 58) hx hb dX4_bookUpTo_12 (by decide) (fun hc => ?_) (fun hc => ?_)
      · have hw := hw.1 hc
        exact j_vretz hx hb hr hlocks hI hw (by omega) (by omega) dX4_bookUpTo_58
      · have hw := hw.2 hc
        refine j_aload_n (r := (some b)) hx hb dX4_bookUpTo_15 rfl (lv_at hl 0 rfl) ?_
        obtain ⟨v3, hv3, hw⟩ := hw
        refine j_getz (C := RX4) (T := TX4) (N := 7) (ci := 7) (r := (some b)) (v := va_rf v3) hx hb hfX4 hown hK hI rfl 0 (by decide) (hts (.fieldLink RX4 7 "CashPools$Flow" "account" "LCashPools$Account;") (List.mem_of_getElem? (i := 3) (by decide +kernel))) (fun _ h => h) hv3 dX4_bookUpTo_16 ?_
        refine lv_dup hx hb dX4_bookUpTo_19 (jrc v3) ?_
        obtain ⟨v4, hv4, hw⟩ := hw
        refine j_getz (C := RX0) (T := TX0) (N := 12) (ci := 3) (r := v3) (v := .long v4) hx hb hfX0 hown hK hI rfl 8 (by decide) (hts (.fieldLink RX4 26 "CashPools$Account" "cash" "J") (List.mem_of_getElem? (i := 4) (by decide +kernel))) (fun _ h => h) hv4 dX4_bookUpTo_20 ?_
        refine j_aload_n (r := (some b)) hx hb dX4_bookUpTo_23 rfl (lv_at hl 0 rfl) ?_
        obtain ⟨v5, hv5, hw⟩ := hw
        refine j_getz (C := RX4) (T := TX4) (N := 7) (ci := 7) (r := (some b)) (v := .int v5) hx hb hfX4 hown hK hI rfl 1 (by decide) (hts (.fieldLink RX4 13 "CashPools$Flow" "amount" "I") (List.mem_of_getElem? (i := 5) (by decide +kernel))) (fun _ h => h) hv5 dX4_bookUpTo_24 ?_
        refine lv_i2l hx hb dX4_bookUpTo_27 rfl ?_
        refine lv_ladd hx hb dX4_bookUpTo_28 ?_
        obtain ⟨μ6, hμ6, hw⟩ := hw
        refine j_putz (C := RX0) (T := TX0) (N := 12) (ci := 3) (r := v3) (v := .long (v4 + (Int32.toInt64 v5))) hx hb hfX0 tyX0 tyX0_ok nmX0 hown hK hI rfl 8 (by decide) (hts (.fieldLink RX4 26 "CashPools$Account" "cash" "J") (List.mem_of_getElem? (i := 4) (by decide +kernel))) (fun _ h => h) rfl (tyX0_ok 8 (by decide)) rfl rfl hμ6 dX4_bookUpTo_29 (fun H locs hI => ?_)
        refine j_aload_n (r := (some b)) hx hb dX4_bookUpTo_32 rfl (lv_at hl 0 rfl) ?_
        refine lv_dup hx hb dX4_bookUpTo_33 rfl ?_
        obtain ⟨v7, hv7, hw⟩ := hw
        refine j_getz (C := RX4) (T := TX4) (N := 7) (ci := 7) (r := (some b)) (v := .int v7) hx hb hfX4 hown hK hI rfl 3 (by decide) (hts (.fieldLink RX4 20 "CashPools$Flow" "due" "I") (List.mem_of_getElem? (i := 2) (by decide +kernel))) (fun _ h => h) hv7 dX4_bookUpTo_34 ?_
        refine j_aload_n (r := (some b)) hx hb dX4_bookUpTo_37 rfl (lv_at hl 0 rfl) ?_
        obtain ⟨v8, hv8, hw⟩ := hw
        refine j_getz (C := RX4) (T := TX4) (N := 7) (ci := 7) (r := (some b)) (v := .int v8) hx hb hfX4 hown hK hI rfl 2 (by decide) (hts (.fieldLink RX4 17 "CashPools$Flow" "step" "I") (List.mem_of_getElem? (i := 6) (by decide +kernel))) (fun _ h => h) hv8 dX4_bookUpTo_38 ?_
        refine lv_iadd hx hb dX4_bookUpTo_41 ?_
        obtain ⟨μ9, hμ9, hw⟩ := hw
        refine j_putz (C := RX4) (T := TX4) (N := 7) (ci := 7) (r := (some b)) (v := .int (v7 + v8)) hx hb hfX4 tyX4 tyX4_ok nmX4 hown hK hI rfl 3 (by decide) (hts (.fieldLink RX4 20 "CashPools$Flow" "due" "I") (List.mem_of_getElem? (i := 2) (by decide +kernel))) (fun _ h => h) rfl (tyX4_ok 3 (by decide)) rfl rfl hμ9 dX4_bookUpTo_42 (fun H locs hI => ?_)
        refine j_aload_n (r := (some b)) hx hb dX4_bookUpTo_45 rfl (lv_at hl 0 rfl) ?_
        refine lv_dup hx hb dX4_bookUpTo_46 rfl ?_
        obtain ⟨v10, hv10, hw⟩ := hw
        refine j_getz (C := RX4) (T := TX4) (N := 7) (ci := 7) (r := (some b)) (v := .int v10) hx hb hfX4 hown hK hI rfl 4 (by decide) (hts (.fieldLink RX4 23 "CashPools$Flow" "left" "I") (List.mem_of_getElem? (i := 1) (by decide +kernel))) (fun _ h => h) hv10 dX4_bookUpTo_47 ?_
        refine lv_iconst (v := (1)) hx hb dX4_bookUpTo_50 (by decide) ?_
        refine lv_isub hx hb dX4_bookUpTo_51 ?_
        obtain ⟨μ11, hμ11, hw⟩ := hw
        refine j_putz (C := RX4) (T := TX4) (N := 7) (ci := 7) (r := (some b)) (v := .int (v10 - (1 : Int32))) hx hb hfX4 tyX4 tyX4_ok nmX4 hown hK hI rfl 4 (by decide) (hts (.fieldLink RX4 23 "CashPools$Flow" "left" "I") (List.mem_of_getElem? (i := 1) (by decide +kernel))) (fun _ h => h) rfl (tyX4_ok 4 (by decide)) rfl rfl hμ11 dX4_bookUpTo_52 (fun H locs hI => ?_)
        refine lv_goto (tgt := 0) hx hb dX4_bookUpTo_55 (by decide) ?_
        exact ih hw hI (lv_sub hl [0, 1] rfl) (by omega) (by omega)
set_option maxHeartbeats 4000000 in
set_option maxRecDepth 100000 in
theorem kX4_bookUpTo (l : Launch) (hfl : l.stackTraces = false) (D : jD) (z : Nat × Nat) (b : Nat) (x1 : Int32) (μ : jM) (sz : Nat) (Q : Unit → jM → Prop) : Met l yX4_bookUpTo wsX4_bookUpTo rmX4_bookUpTo (jPre2z D z μ sz [.ref b, .int x1] (wX4_bookUpTo z b x1 μ Q)) (jRz jfV Q D z (jA z μ sz)) 0 0 (jA z μ sz) := by
  refine Met.ofW (cc := cX4_bookUpTo) (maxL := 2) (ret := none) (by decide) rfl ?_
  intro p e s m args below meth c s₁ B hml hv
  obtain ⟨rfl, hsz, hH, hz0, hK, hG, hw⟩ := hv
  subst hsz
  have hX : jX2 D z (jA z μ s.heap.size) p l s m _ meth c yX4_bookUpTo cX4_bookUpTo 2 wsX4_bookUpTo none := ⟨B.exec, B.bytes, hml, findClass_of_methodNamed B.named, atoms_spec (ws := wsX4_bookUpTo) B.pre, B.returns, B.notSynchronized, (name_of_methodNamed B.named B.method).1, hK, hG, hfl⟩
  obtain ⟨ls, hg, hl⟩ : ∃ ls : Array Slot, entryFrame m ([.ref b, .int x1] : List Value).toArray 2 = F0 m 0 ls [] ∧ lv_has ls 2 [(0, va_rf (some b)), (1, .int x1)] := by
    exact ⟨_, lg_entry_eq .., lv_entry _ (n := 2) (Nat.le_of_ble_eq_true rfl)⟩
  rw [hg]
  obtain ⟨n, hw⟩ := hw
  exact kX4_bookUpTo_0 hX n hw (jIz.start hH hz0) (lv_sub hl [0, 1] rfl) (by decide) (by decide)
set_option maxHeartbeats 4000000 in
set_option maxRecDepth 100000 in
theorem kX3_bookDueFlows_2 {b : Nat} (hX : jX2 D z A p l s m args meth c yX3_bookDueFlows cX3_bookDueFlows 2 wsX3_bookDueFlows none) {Q : Unit → jM → Prop}  (n : Nat) : ∀ {x1 : Int32} {μ : jM} {H : Heap} {locs : List Loc} {ls : Array Slot} {cells slots : Nat}, wX3_bookDueFlows_2 z b Q n x1 μ → jIz D z A s.heap μ H locs → lv_has ls 2 [(0, va_rf (some b)), (1, .int x1)] → cells + 0 ≤ 0 → slots + 0 ≤ 0 → W p l e rmX3_bookDueFlows s m args below meth c H locs cells slots (MQ below (jRz jfV Q D z A) args s 0 0 A) (F0 m 2 ls []) := by
  induction n with
  | zero =>
    intros
    rename_i hw _ _ _ _
    exact (show False from hw).elim
  | succ n ih =>
    intro x1 μ H locs ls cells slots hw hI hl hcn hsn
    have hw : wX3_bookDueFlows_2_b z b Q (wX3_bookDueFlows_2 z b Q n) x1 μ := hw
    unfold wX3_bookDueFlows_2_b at hw
    obtain ⟨hx, hb, hml, hown, hts, hr, hlocks, hnm, hK, hG, hfl⟩ := id hX
    have hown : s.vm.findClass RX3 = some m.cls := hown
    have hfX3 : ∀ w ∈ wsX30, w.before args s = true := fun w h => hts w (List.mem_cons_of_mem _ (List.mem_append_left _ (List.mem_append_left _ (List.mem_append_left _ (List.mem_append_right _ h)))))
    refine lv_iload_n hx hb dX3_bookDueFlows_2 rfl (lv_at hl 1 rfl) ?_
    refine j_aload_n (r := (some b)) hx hb dX3_bookDueFlows_3 rfl (lv_at hl 0 rfl) ?_
    obtain ⟨v1, hv1, hw⟩ := hw
    refine j_getz (C := RX3) (T := TX3) (N := 8) (ci := 6) (r := (some b)) (v := va_rf v1) hx hb hfX3 hown hK hI rfl 3 (by decide) (hts (.fieldLink RX3 24 "CashPools$Desk" "everyFlow" "Ljava/util/ArrayList;") (List.mem_of_getElem? (i := 1) (by decide +kernel))) (fun _ h => h) hv1 dX3_bookDueFlows_4 ?_
    obtain ⟨b4, ⟨hrb4, hfs⟩, hw⟩ := hw
    refine j_goz hI (va_runV (As := []) (rest := [.int x1]) ⟨hx, hb, hml, hown, hts⟩ (kJx4a65c_size_8abf5 l hfl D z b4  μ H.size _) (cwV 0 hts gX3_bookDueFlows_Jx4a65c_size_8abf5 rfl rfl rfl (by decide +kernel) ⟨Nat.le_of_ble_eq_true rfl, Nat.le_of_ble_eq_true rfl⟩) (j_prV2z hK hG hI hw (ci := 2) rfl hfs) rfl rfl hl.1 (by rw [hrb4]; rfl) (lv_room (Nat.le_of_ble_eq_true rfl)) dX3_bookDueFlows_7 ⟨by show _ ≤ 0; omega, by show _ ≤ 0; omega⟩) (fun v2 μ3 H locs hw hI => ?_)
    refine W.eq (g2 := F0 m 10 ls [.int v2, .int x1]) rfl ?_
    refine lv_icmp_ge (tgt := 37) hx hb dX3_bookDueFlows_10 (by decide) (fun hc => ?_) (fun hc => ?_)
    · have hw := hw.1 hc
      exact j_vretz hx hb hr hlocks hI hw (by omega) (by omega) dX3_bookDueFlows_37
    · have hw := hw.2 hc
      refine j_aload_n (r := (some b)) hx hb dX3_bookDueFlows_13 rfl (lv_at hl 0 rfl) ?_
      obtain ⟨v5, hv5, hw⟩ := hw
      refine j_getz (C := RX3) (T := TX3) (N := 8) (ci := 6) (r := (some b)) (v := va_rf v5) hx hb hfX3 hown hK hI rfl 3 (by decide) (hts (.fieldLink RX3 24 "CashPools$Desk" "everyFlow" "Ljava/util/ArrayList;") (List.mem_of_getElem? (i := 1) (by decide +kernel))) (fun _ h => h) hv5 dX3_bookDueFlows_14 ?_
      refine lv_iload_n hx hb dX3_bookDueFlows_17 rfl (lv_at hl 1 rfl) ?_
      obtain ⟨b8, ⟨hrb8, hfs⟩, hw⟩ := hw
      refine j_goz hI (va_runV (As := [.int x1]) (rest := []) ⟨hx, hb, hml, hown, hts⟩ (kJx4a65c_get_915e3 l hfl D z b8 x1 μ3 H.size _) (cwV 1 hts gX3_bookDueFlows_Jx4a65c_get_915e3 rfl rfl rfl (by decide +kernel) ⟨Nat.le_of_ble_eq_true rfl, Nat.le_of_ble_eq_true rfl⟩) (j_prV2z hK hG hI hw (ci := 2) rfl hfs) rfl rfl hl.1 (by rw [hrb8]; rfl) (lv_room (Nat.le_of_ble_eq_true rfl)) dX3_bookDueFlows_18 ⟨by show _ ≤ 0; omega, by show _ ≤ 0; omega⟩) (fun v6 μ7 H locs hw hI => ?_)
      refine W.eq (g2 := F0 m 21 ls [va_rf v6]) rfl ?_
      obtain ⟨h9, hw⟩ := hw
      refine j_castz (C := RX4) (T := TX4) (N := 7) (ci := 7) (r := v6) hx hb hown (hts (.classLink RX3 113 "CashPools$Flow") (List.mem_of_getElem? (i := 2) (by decide +kernel))) hK hI rfl h9 dX3_bookDueFlows_21 ?_
      refine j_aload_n (r := (some b)) hx hb dX3_bookDueFlows_24 rfl (lv_at hl 0 rfl) ?_
      obtain ⟨v10, hv10, hw⟩ := hw
      refine j_getz (C := RX3) (T := TX3) (N := 8) (ci := 6) (r := (some b)) (v := .int v10) hx hb hfX3 hown hK hI rfl 6 (by decide) (hts (.fieldLink RX3 83 "CashPools$Desk" "day" "I") (List.mem_of_getElem? (i := 3) (by decide +kernel))) (fun _ h => h) hv10 dX3_bookDueFlows_25 ?_
      obtain ⟨b13, ⟨hrb13, hfs⟩, hw⟩ := hw
      refine j_goz hI (va_runV (As := [.int v10]) (rest := []) ⟨hx, hb, hml, hown, hts⟩ (kX4_bookUpTo l hfl D z b13 v10 μ7 H.size _) (cwV 1 hts gX3_bookDueFlows_X4_bookUpTo rfl rfl rfl (by decide +kernel) ⟨Nat.le_of_ble_eq_true rfl, Nat.le_of_ble_eq_true rfl⟩) (j_prV2z hK hG hI hw (ci := 7) rfl hfs) rfl rfl hl.1 (by rw [hrb13]; rfl) (lv_room (Nat.le_of_ble_eq_true rfl)) dX3_bookDueFlows_28 ⟨by show _ ≤ 0; omega, by show _ ≤ 0; omega⟩) (fun u11 μ12 H locs hw hI => ?_)
      refine W.eq (g2 := F0 m 31 ls []) rfl ?_
      obtain ⟨v14, ev14⟩ : ∃ y : Int32, y = x1 + (1 : Int32) := ⟨_, rfl⟩
      have hw := hw v14 ev14
      refine lv_iinc (v := v14) (lv' := [(1, .int v14), (0, va_rf (some b))]) hx hb dX3_bookDueFlows_31 hl (k := 1) rfl (by rw [ev14]; rfl) (by decide) rfl (fun ls hl => ?_)
      refine lv_goto (tgt := 2) hx hb dX3_bookDueFlows_34 (by decide) ?_
      exact ih hw hI (lv_sub hl [1, 0] rfl) (by omega) (by omega)
set_option maxHeartbeats 4000000 in
set_option maxRecDepth 100000 in
theorem kX3_bookDueFlows_0 {b : Nat} (hX : jX2 D z A p l s m args meth c yX3_bookDueFlows cX3_bookDueFlows 2 wsX3_bookDueFlows none) {Q : Unit → jM → Prop}   {μ : jM} {H : Heap} {locs : List Loc} {ls : Array Slot} {cells slots : Nat} (hw : wX3_bookDueFlows_0 z b Q  μ) (hI : jIz D z A s.heap μ H locs) (hl : lv_has ls 2 [(0, va_rf (some b))]) (hcn : cells + 0 ≤ 0) (hsn : slots + 0 ≤ 0) : W p l e rmX3_bookDueFlows s m args below meth c H locs cells slots (MQ below (jRz jfV Q D z A) args s 0 0 A) (F0 m 0 ls []) := by
  unfold wX3_bookDueFlows_0 at hw
  obtain ⟨hx, hb, hml, hown, hts, hr, hlocks, hnm, hK, hG, hfl⟩ := id hX
  have hown : s.vm.findClass RX3 = some m.cls := hown
  refine lv_iconst (v := (0)) hx hb dX3_bookDueFlows_0 (by decide) ?_
  refine lv_topi (fun v1 ev1 => ?_)
  have hw := hw v1 ev1
  refine lv_istore_n (lv' := [(1, .int v1), (0, va_rf (some b))]) hx hb dX3_bookDueFlows_1 rfl hl (by decide) rfl (fun ls hl => ?_)
  obtain ⟨n2, hw⟩ := hw
  exact kX3_bookDueFlows_2 hX  n2 hw hI (lv_sub hl [1, 0] rfl) (by omega) (by omega)
set_option maxHeartbeats 4000000 in
set_option maxRecDepth 100000 in
theorem kX3_bookDueFlows (l : Launch) (hfl : l.stackTraces = false) (D : jD) (z : Nat × Nat) (b : Nat)  (μ : jM) (sz : Nat) (Q : Unit → jM → Prop) : Met l yX3_bookDueFlows wsX3_bookDueFlows rmX3_bookDueFlows (jPre2z D z μ sz [.ref b] (wX3_bookDueFlows z b  μ Q)) (jRz jfV Q D z (jA z μ sz)) 0 0 (jA z μ sz) := by
  refine Met.ofW (cc := cX3_bookDueFlows) (maxL := 2) (ret := none) (by decide) rfl ?_
  intro p e s m args below meth c s₁ B hml hv
  obtain ⟨rfl, hsz, hH, hz0, hK, hG, hw⟩ := hv
  subst hsz
  have hX : jX2 D z (jA z μ s.heap.size) p l s m _ meth c yX3_bookDueFlows cX3_bookDueFlows 2 wsX3_bookDueFlows none := ⟨B.exec, B.bytes, hml, findClass_of_methodNamed B.named, atoms_spec (ws := wsX3_bookDueFlows) B.pre, B.returns, B.notSynchronized, (name_of_methodNamed B.named B.method).1, hK, hG, hfl⟩
  obtain ⟨ls, hg, hl⟩ : ∃ ls : Array Slot, entryFrame m ([.ref b] : List Value).toArray 2 = F0 m 0 ls [] ∧ lv_has ls 2 [(0, va_rf (some b))] := by
    exact ⟨_, lg_entry_eq .., lv_entry _ (n := 2) (Nat.le_of_ble_eq_true rfl)⟩
  rw [hg]
  exact kX3_bookDueFlows_0 hX hw (jIz.start hH hz0) (lv_sub hl [0] rfl) (by decide) (by decide)
set_option maxHeartbeats 4000000 in
set_option maxRecDepth 100000 in
theorem kX0_surplusOf_0 {b : Nat} (hX : jX2 D z A p l s m args meth c yX0_surplusOf cX0_surplusOf 3 wsX0_surplusOf (some .long)) {Q : Int64 → jM → Prop}  {x1 : Int64} {μ : jM} {H : Heap} {locs : List Loc} {ls : Array Slot} {cells slots : Nat} (hw : wX0_surplusOf_0 z b Q x1 μ) (hI : jIz D z A s.heap μ H locs) (hl : lv_has ls 3 [(0, va_rf (some b)), (1, .long x1)]) (hcn : cells + 0 ≤ 0) (hsn : slots + 0 ≤ 0) : W p l e rmX0_surplusOf s m args below meth c H locs cells slots (MQ below (jRz jfJ Q D z A) args s 0 0 A) (F0 m 0 ls []) := by
  unfold wX0_surplusOf_0 at hw
  obtain ⟨hx, hb, hml, hown, hts, hr, hlocks, hnm, hK, hG, hfl⟩ := id hX
  have hown : s.vm.findClass RX0 = some m.cls := hown
  have hfX0 : ∀ w ∈ wsX00, w.before args s = true := fun w h => hts w (List.mem_cons_of_mem _ (List.mem_append_right _ h))
  refine j_aload_n (r := (some b)) hx hb dX0_surplusOf_0 rfl (lv_at hl 0 rfl) ?_
  obtain ⟨v1, hv1, hw⟩ := hw
  refine j_getz (C := RX0) (T := TX0) (N := 12) (ci := 3) (r := (some b)) (v := .int v1) hx hb hfX0 hown hK hI rfl 5 (by decide) (hts (.fieldLink RX0 32 "CashPools$Account" "rule" "I") (List.mem_of_getElem? (i := 1) (by decide +kernel))) (fun _ h => h) hv1 dX0_surplusOf_1 ?_
  by_cases hc0 : v1 = (1 : Int32)
  · have hw := hw.1 hc0
    refine lv_tableIn (off := 28) (tgt := 32) hx hb dX0_surplusOf_4 (by rw [hc0]; decide) (by rw [hc0]; decide) (by rw [hc0]; rfl) (by decide) ?_
    refine lv_lload_n hx hb dX0_surplusOf_32 rfl (lv_at hl 1 rfl) ?_
    refine j_aload_n (r := (some b)) hx hb dX0_surplusOf_33 rfl (lv_at hl 0 rfl) ?_
    obtain ⟨v2, hv2, hw⟩ := hw
    refine j_getz (C := RX0) (T := TX0) (N := 12) (ci := 3) (r := (some b)) (v := .int v2) hx hb hfX0 hown hK hI rfl 6 (by decide) (hts (.fieldLink RX0 35 "CashPools$Account" "target" "I") (List.mem_of_getElem? (i := 2) (by decide +kernel))) (fun _ h => h) hv2 dX0_surplusOf_34 ?_
    refine lv_i2l hx hb dX0_surplusOf_37 rfl ?_
    refine lv_lsub hx hb dX0_surplusOf_38 ?_
    exact j_lretz hx hb hr hlocks hI hw (by omega) (by omega) dX0_surplusOf_39
  have hw := hw.2 hc0
  by_cases hc1 : v1 = (2 : Int32)
  · have hw := hw.1 hc1
    refine lv_tableIn (off := 36) (tgt := 40) hx hb dX0_surplusOf_4 (by rw [hc1]; decide) (by rw [hc1]; decide) (by rw [hc1]; rfl) (by decide) ?_
    refine lv_lload_n hx hb dX0_surplusOf_40 rfl (lv_at hl 1 rfl) ?_
    refine j_aload_n (r := (some b)) hx hb dX0_surplusOf_41 rfl (lv_at hl 0 rfl) ?_
    obtain ⟨v3, hv3, hw⟩ := hw
    refine j_getz (C := RX0) (T := TX0) (N := 12) (ci := 3) (r := (some b)) (v := .int v3) hx hb hfX0 hown hK hI rfl 6 (by decide) (hts (.fieldLink RX0 35 "CashPools$Account" "target" "I") (List.mem_of_getElem? (i := 2) (by decide +kernel))) (fun _ h => h) hv3 dX0_surplusOf_42 ?_
    refine lv_i2l hx hb dX0_surplusOf_45 rfl ?_
    refine lv_lsub hx hb dX0_surplusOf_46 ?_
    refine lv_lconst (v := (0)) hx hb dX0_surplusOf_47 (by decide) ?_
    refine va_mmax_long hx hb (by rw [hml]; exact hl.1.symm) hown (hts (.methodLink RX0 38 Lib.MathLoose.max_long.x) (List.mem_of_getElem? (i := 3) (by decide +kernel))) (hts (.static Lib.MathLoose.max_long.x) (List.mem_of_getElem? (i := 4) (by decide +kernel))) (hts (.initialized "java/lang/Math") (List.mem_of_getElem? (i := 5) (by decide +kernel))) (hts (.code Lib.MathLoose.max_long.x Lib.MathLoose.max_long.code 4 (some .long)) (List.mem_of_getElem? (i := 6) (by decide +kernel))) (Nat.le_of_ble_eq_true rfl) (Nat.le_of_ble_eq_true rfl) (by show _ ≤ 0; omega) (by show _ ≤ 0; omega) dX0_surplusOf_48 ?_
    exact j_lretz hx hb hr hlocks hI hw (by omega) (by omega) dX0_surplusOf_51
  have hw := hw.2 hc1
  by_cases hc2 : v1 = (3 : Int32)
  · have hw := hw.1 hc2
    refine lv_tableIn (off := 48) (tgt := 52) hx hb dX0_surplusOf_4 (by rw [hc2]; decide) (by rw [hc2]; decide) (by rw [hc2]; rfl) (by decide) ?_
    refine lv_lload_n hx hb dX0_surplusOf_52 rfl (lv_at hl 1 rfl) ?_
    refine j_aload_n (r := (some b)) hx hb dX0_surplusOf_53 rfl (lv_at hl 0 rfl) ?_
    obtain ⟨v4, hv4, hw⟩ := hw
    refine j_getz (C := RX0) (T := TX0) (N := 12) (ci := 3) (r := (some b)) (v := .int v4) hx hb hfX0 hown hK hI rfl 6 (by decide) (hts (.fieldLink RX0 35 "CashPools$Account" "target" "I") (List.mem_of_getElem? (i := 2) (by decide +kernel))) (fun _ h => h) hv4 dX0_surplusOf_54 ?_
    refine lv_i2l hx hb dX0_surplusOf_57 rfl ?_
    refine lv_lsub hx hb dX0_surplusOf_58 ?_
    refine lv_lconst (v := (0)) hx hb dX0_surplusOf_59 (by decide) ?_
    refine va_mmin_long hx hb (by rw [hml]; exact hl.1.symm) hown (hts (.methodLink RX0 44 Lib.MathLoose.min_long.x) (List.mem_of_getElem? (i := 7) (by decide +kernel))) (hts (.static Lib.MathLoose.min_long.x) (List.mem_of_getElem? (i := 8) (by decide +kernel))) (hts (.initialized "java/lang/Math") (List.mem_of_getElem? (i := 5) (by decide +kernel))) (hts (.code Lib.MathLoose.min_long.x Lib.MathLoose.min_long.code 4 (some .long)) (List.mem_of_getElem? (i := 9) (by decide +kernel))) (Nat.le_of_ble_eq_true rfl) (Nat.le_of_ble_eq_true rfl) (by show _ ≤ 0; omega) (by show _ ≤ 0; omega) dX0_surplusOf_60 ?_
    exact j_lretz hx hb hr hlocks hI hw (by omega) (by omega) dX0_surplusOf_63
  have hw := hw.2 hc2
  refine lv_tableOut (tgt := 64) hx hb dX0_surplusOf_4 (by have hq0 := lv_neT hc0 (show (1 : Int32).toInt = 1 by decide) ; have hq1 := lv_neT hc1 (show (2 : Int32).toInt = 2 by decide) ; have hq2 := lv_neT hc2 (show (3 : Int32).toInt = 3 by decide) ; omega) (by decide) ?_
  refine lv_lconst (v := (0)) hx hb dX0_surplusOf_64 (by decide) ?_
  exact j_lretz hx hb hr hlocks hI hw (by omega) (by omega) dX0_surplusOf_65
set_option maxHeartbeats 4000000 in
set_option maxRecDepth 100000 in
theorem kX0_surplusOf (l : Launch) (hfl : l.stackTraces = false) (D : jD) (z : Nat × Nat) (b : Nat) (x1 : Int64) (μ : jM) (sz : Nat) (Q : Int64 → jM → Prop) : Met l yX0_surplusOf wsX0_surplusOf rmX0_surplusOf (jPre2z D z μ sz [.ref b, .long x1] (wX0_surplusOf z b x1 μ Q)) (jRz jfJ Q D z (jA z μ sz)) 0 0 (jA z μ sz) := by
  refine Met.ofW (cc := cX0_surplusOf) (maxL := 3) (ret := (some .long)) (by decide) rfl ?_
  intro p e s m args below meth c s₁ B hml hv
  obtain ⟨rfl, hsz, hH, hz0, hK, hG, hw⟩ := hv
  subst hsz
  have hX : jX2 D z (jA z μ s.heap.size) p l s m _ meth c yX0_surplusOf cX0_surplusOf 3 wsX0_surplusOf (some .long) := ⟨B.exec, B.bytes, hml, findClass_of_methodNamed B.named, atoms_spec (ws := wsX0_surplusOf) B.pre, B.returns, B.notSynchronized, (name_of_methodNamed B.named B.method).1, hK, hG, hfl⟩
  obtain ⟨ls, hg, hl⟩ : ∃ ls : Array Slot, entryFrame m ([.ref b, .long x1] : List Value).toArray 3 = F0 m 0 ls [] ∧ lv_has ls 3 [(0, va_rf (some b)), (1, .long x1)] := by
    exact ⟨_, lg_entry_eq .., lv_entry _ (n := 3) (Nat.le_of_ble_eq_true rfl)⟩
  rw [hg]
  exact kX0_surplusOf_0 hX hw (jIz.start hH hz0) (lv_sub hl [0, 1] rfl) (by decide) (by decide)
end
