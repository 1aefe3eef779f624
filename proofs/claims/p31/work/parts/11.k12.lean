section
variable {p : Program} {l : Launch} {e : Env} {s : State} {m : MethodId} {args : Array Value} {below : List Frame} {meth : Method} {c : Code} {D : jD} {z : Nat × Nat} {A : Nat → Prop}
set_option maxHeartbeats 4000000 in
set_option maxRecDepth 100000 in
theorem kX9_interestOf_0 {b : Nat} (hX : jX2 D z A p l s m args meth c yX9_interestOf cX9_interestOf 2 wsX9_interestOf (some .long)) {Q : Int64 → jM → Prop}  {x1 : Int32} {μ : jM} {H : Heap} {locs : List Loc} {ls : Array Slot} {cells slots : Nat} (hw : wX9_interestOf_0 z b Q jN x1 μ) (hI : jIz D z A s.heap μ H locs) (hl : lv_has ls 2 [(0, va_rf (some b)), (1, .int x1)]) (hcn : cells + 0 ≤ 0) (hsn : slots + 0 ≤ 0) : W p l e rmX9_interestOf s m args below meth c H locs cells slots (MQ below (jRz jfJ Q D z A) args s 0 0 A) (F0 m 0 ls []) := by
  unfold wX9_interestOf_0 at hw
  obtain ⟨hx, hb, hml, hown, hts, hr, hlocks, hnm, hK, hG, hfl⟩ := id hX
  have hown : s.vm.findClass RX9 = some m.cls := hown
  have hfX0 : ∀ w ∈ wsX00, w.before args s = true := fun w h => hts w (List.mem_cons_of_mem _ (List.mem_append_left _ (List.mem_append_left _ (List.mem_append_left _ (List.mem_append_left _ (List.mem_append_right _ h))))))
  refine j_aload_n (r := (some b)) hx hb dX9_interestOf_0 rfl (lv_at hl 0 rfl) ?_
  refine lv_iload_n hx hb dX9_interestOf_1 rfl (lv_at hl 1 rfl) ?_
  obtain ⟨hfs, hw⟩ := hw
  refine j_goz hI (va_runV (As := [.int x1]) (rest := []) ⟨hx, hb, hml, hown, hts⟩ (kX9_accountAt l hfl D z b x1 μ H.size _) (cwV 1 hts gX9_interestOf_X9_accountAt rfl rfl rfl (by decide +kernel) ⟨Nat.le_of_ble_eq_true rfl, Nat.le_of_ble_eq_true rfl⟩) (j_prV2z hK hG hI hw (ci := 11) rfl hfs) rfl rfl hl.1 rfl (lv_room (Nat.le_of_ble_eq_true rfl)) dX9_interestOf_2 ⟨by show _ ≤ 0; omega, by show _ ≤ 0; omega⟩) (fun v1 μ2 H locs hw hI => ?_)
  refine W.eq (g2 := F0 m 5 ls [va_rf v1]) rfl ?_
  obtain ⟨v3, hv3, hw⟩ := hw
  refine j_getz (C := RX0) (T := TX0) (N := 12) (ci := 3) (r := v1) (v := .long v3) hx hb hfX0 hown hK hI rfl 9 (by decide) (hts (.fieldLink RX9 184 "CashPools$Account" "interest" "J") (List.mem_of_getElem? (i := 1) (by decide +kernel))) (fun _ h => h) hv3 dX9_interestOf_5 ?_
  exact j_lretz hx hb hr hlocks hI hw (by omega) (by omega) dX9_interestOf_8
set_option maxHeartbeats 4000000 in
set_option maxRecDepth 100000 in
theorem kX9_interestOf (l : Launch) (hfl : l.stackTraces = false) (D : jD) (z : Nat × Nat) (b : Nat) (x1 : Int32) (μ : jM) (sz : Nat) (Q : Int64 → jM → Prop) : Met l yX9_interestOf wsX9_interestOf rmX9_interestOf (jPre2z D z μ sz [.ref b, .int x1] (wX9_interestOf z b x1 μ Q jN)) (jRz jfJ Q D z (jA z μ sz)) 0 0 (jA z μ sz) := by
  refine Met.ofW (cc := cX9_interestOf) (maxL := 2) (ret := (some .long)) (by decide) rfl ?_
  intro p e s m args below meth c s₁ B hml hv
  obtain ⟨rfl, hsz, hH, hz0, hK, hG, hw⟩ := hv
  subst hsz
  have hX : jX2 D z (jA z μ s.heap.size) p l s m _ meth c yX9_interestOf cX9_interestOf 2 wsX9_interestOf (some .long) := ⟨B.exec, B.bytes, hml, findClass_of_methodNamed B.named, atoms_spec (ws := wsX9_interestOf) B.pre, B.returns, B.notSynchronized, (name_of_methodNamed B.named B.method).1, hK, hG, hfl⟩
  obtain ⟨ls, hg, hl⟩ : ∃ ls : Array Slot, entryFrame m ([.ref b, .int x1] : List Value).toArray 2 = F0 m 0 ls [] ∧ lv_has ls 2 [(0, va_rf (some b)), (1, .int x1)] := by
    exact ⟨_, lg_entry_eq .., lv_entry _ (n := 2) (Nat.le_of_ble_eq_true rfl)⟩
  rw [hg]
  exact kX9_interestOf_0 hX hw (jIz.start hH hz0) (lv_sub hl [0, 1] rfl) (by decide) (by decide)
set_option maxHeartbeats 4000000 in
set_option maxRecDepth 100000 in
theorem kX9_poolOf_0 {b : Nat} (hX : jX2 D z A p l s m args meth c yX9_poolOf cX9_poolOf 2 wsX9_poolOf (some .int)) {Q : Int32 → jM → Prop}  {x1 : Int32} {μ : jM} {H : Heap} {locs : List Loc} {ls : Array Slot} {cells slots : Nat} (hw : wX9_poolOf_0 z b Q jN x1 μ) (hI : jIz D z A s.heap μ H locs) (hl : lv_has ls 2 [(0, va_rf (some b)), (1, .int x1)]) (hcn : cells + 0 ≤ 0) (hsn : slots + 0 ≤ 0) : W p l e rmX9_poolOf s m args below meth c H locs cells slots (MQ below (jRz jfI Q D z A) args s 0 0 A) (F0 m 0 ls []) := by
  unfold wX9_poolOf_0 at hw
  obtain ⟨hx, hb, hml, hown, hts, hr, hlocks, hnm, hK, hG, hfl⟩ := id hX
  have hown : s.vm.findClass RX9 = some m.cls := hown
  have hfX0 : ∀ w ∈ wsX00, w.before args s = true := fun w h => hts w (List.mem_cons_of_mem _ (List.mem_append_left _ (List.mem_append_left _ (List.mem_append_left _ (List.mem_append_left _ (List.mem_append_left _ (List.mem_append_right _ h)))))))
  have hfX6 : ∀ w ∈ wsX60, w.before args s = true := fun w h => hts w (List.mem_cons_of_mem _ (List.mem_append_left _ (List.mem_append_left _ (List.mem_append_left _ (List.mem_append_left _ (List.mem_append_right _ h))))))
  refine j_aload_n (r := (some b)) hx hb dX9_poolOf_0 rfl (lv_at hl 0 rfl) ?_
  refine lv_iload_n hx hb dX9_poolOf_1 rfl (lv_at hl 1 rfl) ?_
  obtain ⟨hfs, hw⟩ := hw
  refine j_goz hI (va_runV (As := [.int x1]) (rest := []) ⟨hx, hb, hml, hown, hts⟩ (kX9_accountAt l hfl D z b x1 μ H.size _) (cwV 1 hts gX9_poolOf_X9_accountAt rfl rfl rfl (by decide +kernel) ⟨Nat.le_of_ble_eq_true rfl, Nat.le_of_ble_eq_true rfl⟩) (j_prV2z hK hG hI hw (ci := 11) rfl hfs) rfl rfl hl.1 rfl (lv_room (Nat.le_of_ble_eq_true rfl)) dX9_poolOf_2 ⟨by show _ ≤ 0; omega, by show _ ≤ 0; omega⟩) (fun v1 μ2 H locs hw hI => ?_)
  refine W.eq (g2 := F0 m 5 ls [va_rf v1]) rfl ?_
  obtain ⟨v3, hv3, hw⟩ := hw
  refine j_getz (C := RX0) (T := TX0) (N := 12) (ci := 3) (r := v1) (v := va_rf v3) hx hb hfX0 hown hK hI rfl 2 (by decide) (hts (.fieldLink RX9 151 "CashPools$Account" "pool" "LCashPools$Pool;") (List.mem_of_getElem? (i := 1) (by decide +kernel))) (fun _ h => h) hv3 dX9_poolOf_5 ?_
  obtain ⟨v4, hv4, hw⟩ := hw
  refine j_getz (C := RX6) (T := TX6) (N := 5) (ci := 9) (r := v3) (v := .int v4) hx hb hfX6 hown hK hI rfl 0 (by decide) (hts (.fieldLink RX9 155 "CashPools$Pool" "number" "I") (List.mem_of_getElem? (i := 2) (by decide +kernel))) (fun _ h => h) hv4 dX9_poolOf_8 ?_
  exact j_iretz hx hb hr hlocks hI hw (by omega) (by omega) dX9_poolOf_11
set_option maxHeartbeats 4000000 in
set_option maxRecDepth 100000 in
theorem kX9_poolOf (l : Launch) (hfl : l.stackTraces = false) (D : jD) (z : Nat × Nat) (b : Nat) (x1 : Int32) (μ : jM) (sz : Nat) (Q : Int32 → jM → Prop) : Met l yX9_poolOf wsX9_poolOf rmX9_poolOf (jPre2z D z μ sz [.ref b, .int x1] (wX9_poolOf z b x1 μ Q jN)) (jRz jfI Q D z (jA z μ sz)) 0 0 (jA z μ sz) := by
  refine Met.ofW (cc := cX9_poolOf) (maxL := 2) (ret := (some .int)) (by decide) rfl ?_
  intro p e s m args below meth c s₁ B hml hv
  obtain ⟨rfl, hsz, hH, hz0, hK, hG, hw⟩ := hv
  subst hsz
  have hX : jX2 D z (jA z μ s.heap.size) p l s m _ meth c yX9_poolOf cX9_poolOf 2 wsX9_poolOf (some .int) := ⟨B.exec, B.bytes, hml, findClass_of_methodNamed B.named, atoms_spec (ws := wsX9_poolOf) B.pre, B.returns, B.notSynchronized, (name_of_methodNamed B.named B.method).1, hK, hG, hfl⟩
  obtain ⟨ls, hg, hl⟩ : ∃ ls : Array Slot, entryFrame m ([.ref b, .int x1] : List Value).toArray 2 = F0 m 0 ls [] ∧ lv_has ls 2 [(0, va_rf (some b)), (1, .int x1)] := by
    exact ⟨_, lg_entry_eq .., lv_entry _ (n := 2) (Nat.le_of_ble_eq_true rfl)⟩
  rw [hg]
  exact kX9_poolOf_0 hX hw (jIz.start hH hz0) (lv_sub hl [0, 1] rfl) (by decide) (by decide)
set_option maxHeartbeats 4000000 in
set_option maxRecDepth 100000 in
theorem kX9_afterSweepByMoves_0 {b : Nat} (hX : jX2 D z A p l s m args meth c yX9_afterSweepByMoves cX9_afterSweepByMoves 5 wsX9_afterSweepByMoves (some .long)) {Q : Int64 → jM → Prop}  {x1 : Int32} {μ : jM} {H : Heap} {locs : List Loc} {ls : Array Slot} {cells slots : Nat} (hw : wX9_afterSweepByMoves_0 z b Q jN x1 μ) (hI : jIz D z A s.heap μ H locs) (hl : lv_has ls 5 [(0, va_rf (some b)), (1, .int x1)]) (hcn : cells + 0 ≤ 0) (hsn : slots + 0 ≤ 0) : W p l e rmX9_afterSweepByMoves s m args below meth c H locs cells slots (MQ below (jRz jfJ Q D z A) args s 0 0 A) (F0 m 0 ls []) := by
  unfold wX9_afterSweepByMoves_0 at hw
  obtain ⟨hx, hb, hml, hown, hts, hr, hlocks, hnm, hK, hG, hfl⟩ := id hX
  have hown : s.vm.findClass RX9 = some m.cls := hown
  have hfX0 : ∀ w ∈ wsX00, w.before args s = true := fun w h => hts w (List.mem_cons_of_mem _ (List.mem_append_left _ (List.mem_append_left _ (List.mem_append_left _ (List.mem_append_left _ (List.mem_append_left _ (List.mem_append_left _ (List.mem_append_left _ (List.mem_append_right _ h)))))))))
  have hfX9 : ∀ w ∈ wsX90, w.before args s = true := fun w h => hts w (List.mem_cons_of_mem _ (List.mem_append_left _ (List.mem_append_left _ (List.mem_append_left _ (List.mem_append_left _ (List.mem_append_left _ (List.mem_append_left _ (List.mem_append_left _ (List.mem_append_left _ (List.mem_append_right _ h))))))))))
  refine j_aload_n (r := (some b)) hx hb dX9_afterSweepByMoves_0 rfl (lv_at hl 0 rfl) ?_
  refine lv_iload_n hx hb dX9_afterSweepByMoves_1 rfl (lv_at hl 1 rfl) ?_
  obtain ⟨hfs, hw⟩ := hw
  refine j_goz hI (va_runV (As := [.int x1]) (rest := []) ⟨hx, hb, hml, hown, hts⟩ (kX9_accountAt l hfl D z b x1 μ H.size _) (cwV 1 hts gX9_afterSweepByMoves_X9_accountAt rfl rfl rfl (by decide +kernel) ⟨Nat.le_of_ble_eq_true rfl, Nat.le_of_ble_eq_true rfl⟩) (j_prV2z hK hG hI hw (ci := 11) rfl hfs) rfl rfl hl.1 rfl (lv_room (Nat.le_of_ble_eq_true rfl)) dX9_afterSweepByMoves_2 ⟨by show _ ≤ 0; omega, by show _ ≤ 0; omega⟩) (fun v1 μ2 H locs hw hI => ?_)
  refine W.eq (g2 := F0 m 5 ls [va_rf v1]) rfl ?_
  refine j_astore_n (r := v1) (lv' := [(2, va_rf v1), (0, va_rf (some b)), (1, .int x1)]) hx hb dX9_afterSweepByMoves_5 rfl hl (by decide) rfl (fun ls hl => ?_)
  refine j_aload_n (r := (some b)) hx hb dX9_afterSweepByMoves_6 rfl (lv_at hl 1 rfl) ?_
  obtain ⟨v3, hv3, hw⟩ := hw
  refine j_getz (C := RX9) (T := TX9) (N := 1) (ci := 11) (r := (some b)) (v := va_rf v3) hx hb hfX9 hown hK hI rfl 0 (by decide) (hts (.fieldLink RX9 10 "CashPools" "desk" "LCashPools$Desk;") (List.mem_of_getElem? (i := 1) (by decide +kernel))) (fun _ h => h) hv3 dX9_afterSweepByMoves_7 ?_
  obtain ⟨b6, ⟨hrb6, hfs⟩, hw⟩ := hw
  refine j_goz hI (va_runV (As := []) (rest := []) ⟨hx, hb, hml, hown, hts⟩ (kX3_keep l hfl D z b6  μ2 H.size _) (cwV 0 hts gX9_afterSweepByMoves_X3_keep rfl rfl rfl (by decide +kernel) ⟨Nat.le_of_ble_eq_true rfl, Nat.le_of_ble_eq_true rfl⟩) (j_prV2z hK hG hI hw (ci := 6) rfl hfs) rfl rfl hl.1 (by rw [hrb6]; rfl) (lv_room (Nat.le_of_ble_eq_true rfl)) dX9_afterSweepByMoves_10 ⟨by show _ ≤ 0; omega, by show _ ≤ 0; omega⟩) (fun u4 μ5 H locs hw hI => ?_)
  refine W.eq (g2 := F0 m 13 ls []) rfl ?_
  refine j_aload_n (r := (some b)) hx hb dX9_afterSweepByMoves_13 rfl (lv_at hl 1 rfl) ?_
  obtain ⟨v7, hv7, hw⟩ := hw
  refine j_getz (C := RX9) (T := TX9) (N := 1) (ci := 11) (r := (some b)) (v := va_rf v7) hx hb hfX9 hown hK hI rfl 0 (by decide) (hts (.fieldLink RX9 10 "CashPools" "desk" "LCashPools$Desk;") (List.mem_of_getElem? (i := 1) (by decide +kernel))) (fun _ h => h) hv7 dX9_afterSweepByMoves_14 ?_
  obtain ⟨b10, ⟨hrb10, hfs⟩, hw⟩ := hw
  refine j_goz hI (va_runV (As := []) (rest := []) ⟨hx, hb, hml, hown, hts⟩ (kX3_sweepPools l hfl D z b10  μ5 H.size _) (cwV 0 hts gX9_afterSweepByMoves_X3_sweepPools rfl rfl rfl (by decide +kernel) ⟨Nat.le_of_ble_eq_true rfl, Nat.le_of_ble_eq_true rfl⟩) (j_prV2z hK hG hI hw (ci := 6) rfl hfs) rfl rfl hl.1 (by rw [hrb10]; rfl) (lv_room (Nat.le_of_ble_eq_true rfl)) dX9_afterSweepByMoves_17 ⟨by show _ ≤ 0; omega, by show _ ≤ 0; omega⟩) (fun u8 μ9 H locs hw hI => ?_)
  refine W.eq (g2 := F0 m 20 ls []) rfl ?_
  refine j_aload_n (r := v1) hx hb dX9_afterSweepByMoves_20 rfl (lv_at hl 0 rfl) ?_
  obtain ⟨v11, hv11, hw⟩ := hw
  refine j_getz (C := RX0) (T := TX0) (N := 12) (ci := 3) (r := v1) (v := .long v11) hx hb hfX0 hown hK hI rfl 8 (by decide) (hts (.fieldLink RX9 119 "CashPools$Account" "cash" "J") (List.mem_of_getElem? (i := 2) (by decide +kernel))) (fun _ h => h) hv11 dX9_afterSweepByMoves_21 ?_
  refine j_lstore_nA (r := v1) (F := fun w => [(2, w), (0, va_rf (some b)), (1, .int x1)]) (F2 := fun w => [(3, .long v11), (2, w), (0, va_rf (some b)), (1, .int x1)]) hx hb dX9_afterSweepByMoves_24 rfl hl (by decide) (fun w hw => by rcases hw with rfl | ⟨_, rfl⟩ <;> rfl) (fun ls hl => ?_)
  refine j_aload_n (r := (some b)) hx hb dX9_afterSweepByMoves_25 rfl (lv_at hl 2 rfl) ?_
  obtain ⟨v12, hv12, hw⟩ := hw
  refine j_getz (C := RX9) (T := TX9) (N := 1) (ci := 11) (r := (some b)) (v := va_rf v12) hx hb hfX9 hown hK hI rfl 0 (by decide) (hts (.fieldLink RX9 10 "CashPools" "desk" "LCashPools$Desk;") (List.mem_of_getElem? (i := 1) (by decide +kernel))) (fun _ h => h) hv12 dX9_afterSweepByMoves_26 ?_
  obtain ⟨b15, ⟨hrb15, hfs⟩, hw⟩ := hw
  refine j_goz hI (va_runV (As := []) (rest := []) ⟨hx, hb, hml, hown, hts⟩ (kX3_goBack l hfl D z b15  μ9 H.size _) (cwV 0 hts gX9_afterSweepByMoves_X3_goBack rfl rfl rfl (by decide +kernel) ⟨Nat.le_of_ble_eq_true rfl, Nat.le_of_ble_eq_true rfl⟩) (j_prV2z hK hG hI hw (ci := 6) rfl hfs) rfl rfl hl.1 (by rw [hrb15]; rfl) (lv_room (Nat.le_of_ble_eq_true rfl)) dX9_afterSweepByMoves_29 ⟨by show _ ≤ 0; omega, by show _ ≤ 0; omega⟩) (fun u13 μ14 H locs hw hI => ?_)
  refine W.eq (g2 := F0 m 32 ls []) rfl ?_
  refine lv_lload_n hx hb dX9_afterSweepByMoves_32 rfl (lv_at hl 0 rfl) ?_
  exact j_lretz hx hb hr hlocks hI hw (by omega) (by omega) dX9_afterSweepByMoves_33
set_option maxHeartbeats 4000000 in
set_option maxRecDepth 100000 in
theorem kX9_afterSweepByMoves (l : Launch) (hfl : l.stackTraces = false) (D : jD) (z : Nat × Nat) (b : Nat) (x1 : Int32) (μ : jM) (sz : Nat) (Q : Int64 → jM → Prop) : Met l yX9_afterSweepByMoves wsX9_afterSweepByMoves rmX9_afterSweepByMoves (jPre2z D z μ sz [.ref b, .int x1] (wX9_afterSweepByMoves z b x1 μ Q jN)) (jRz jfJ Q D z (jA z μ sz)) 0 0 (jA z μ sz) := by
  refine Met.ofW (cc := cX9_afterSweepByMoves) (maxL := 5) (ret := (some .long)) (by decide) rfl ?_
  intro p e s m args below meth c s₁ B hml hv
  obtain ⟨rfl, hsz, hH, hz0, hK, hG, hw⟩ := hv
  subst hsz
  have hX : jX2 D z (jA z μ s.heap.size) p l s m _ meth c yX9_afterSweepByMoves cX9_afterSweepByMoves 5 wsX9_afterSweepByMoves (some .long) := ⟨B.exec, B.bytes, hml, findClass_of_methodNamed B.named, atoms_spec (ws := wsX9_afterSweepByMoves) B.pre, B.returns, B.notSynchronized, (name_of_methodNamed B.named B.method).1, hK, hG, hfl⟩
  obtain ⟨ls, hg, hl⟩ : ∃ ls : Array Slot, entryFrame m ([.ref b, .int x1] : List Value).toArray 5 = F0 m 0 ls [] ∧ lv_has ls 5 [(0, va_rf (some b)), (1, .int x1)] := by
    exact ⟨_, lg_entry_eq .., lv_entry _ (n := 5) (Nat.le_of_ble_eq_true rfl)⟩
  rw [hg]
  exact kX9_afterSweepByMoves_0 hX hw (jIz.start hH hz0) (lv_sub hl [0, 1] rfl) (by decide) (by decide)
set_option maxHeartbeats 4000000 in
set_option maxRecDepth 100000 in
theorem kL_areSums_78 (hX : jX2 D z A p l s m args meth c yL_areSums cL_areSums 13 wsL_areSums (some .boolean)) {Q : Int32 → jM → Prop} {K18 : Option Nat → Option Nat → Int32 → Int32 → jM → Prop} (hK18 : ∀ {x0 : Option Nat} {x1 : Option Nat} {x2 : Int32} {x3 : Int32} {μ : jM} {H : Heap} {locs : List Loc} {ls : Array Slot} {cells slots : Nat}, K18 x0 x1 x2 x3 μ → jIz D z A s.heap μ H locs → lv_has ls 13 [(0, va_rf x0), (1, va_rf x1), (2, .int x2), (3, .int x3)] → cells + 0 ≤ 0 → slots + 0 ≤ 0 → W p l e rmL_areSums s m args below meth c H locs cells slots (MQ below (jRz jfI Q D z A) args s 0 0 A) (F0 m 18 ls [])) {K48 : Option Nat → Option Nat → Int32 → Int64 → Int64 → Int64 → Int64 → Int32 → jM → Prop} (hK48 : ∀ {x0 : Option Nat} {x1 : Option Nat} {x3 : Int32} {x4 : Int64} {x6 : Int64} {x8 : Int64} {x10 : Int64} {x12 : Int32} {μ : jM} {H : Heap} {locs : List Loc} {ls : Array Slot} {cells slots : Nat}, K48 x0 x1 x3 x4 x6 x8 x10 x12 μ → jIz D z A s.heap μ H locs → lv_has ls 13 [(0, va_rf x0), (1, va_rf x1), (3, .int x3), (4, .long x4), (6, .long x6), (8, .long x8), (10, .long x10), (12, .int x12)] → cells + 0 ≤ 0 → slots + 0 ≤ 0 → W p l e rmL_areSums s m args below meth c H locs cells slots (MQ below (jRz jfI Q D z A) args s 0 0 A) (F0 m 48 ls [])) {x0 : Option Nat} {x1 : Option Nat} {x3 : Int32} {x6 : Int64} {x8 : Int64} {x10 : Int64} {x12 : Int32} {t0 : Int64} {t1 : Int64} {μ : jM} {H : Heap} {locs : List Loc} {ls : Array Slot} {cells slots : Nat} (hw : wL_areSums_78 z K18 K48 Q x0 x1 x3 x6 x8 x10 x12 t0 t1 μ) (hI : jIz D z A s.heap μ H locs) (hl : lv_has ls 13 [(0, va_rf x0), (1, va_rf x1), (3, .int x3), (6, .long x6), (8, .long x8), (10, .long x10), (12, .int x12)]) (hcn : cells + 0 ≤ 0) (hsn : slots + 0 ≤ 0) : W p l e rmL_areSums s m args below meth c H locs cells slots (MQ below (jRz jfI Q D z A) args s 0 0 A) (F0 m 78 ls [.long t1, .long t0]) := by
  unfold wL_areSums_78 at hw
  obtain ⟨hx, hb, hml, hown, hts, hr, hlocks, hnm, hK, hG, hfl⟩ := id hX
  have hown : s.vm.findClass RL = some m.cls := hown
  refine lv_ladd hx hb dL_areSums_78 ?_
  refine lv_topl (fun v1 ev1 => ?_)
  have hw := hw v1 ev1
  refine lv_lstore (lv' := [(4, .long v1), (0, va_rf x0), (1, va_rf x1), (3, .int x3), (6, .long x6), (8, .long x8), (10, .long x10), (12, .int x12)]) hx hb dL_areSums_79 hl (by decide) rfl (fun ls hl => ?_)
  refine j_aload_n (r := x1) hx hb dL_areSums_81 rfl (lv_at hl 2 rfl) ?_
  refine lv_iload hx hb dL_areSums_82 (lv_at hl 7 rfl) ?_
  refine j_goz hI (va_runS (As := [va_rf x1, .int x12]) (rest := []) ⟨hx, hb, hml, hown, hts⟩ (kL_top l hfl D z x1 x12 μ H.size _) (va_cwS 2 hts gL_areSums_L_top rfl rfl rfl (by decide +kernel) ⟨Nat.le_of_ble_eq_true rfl, Nat.le_of_ble_eq_true rfl⟩) (j_prS2z hK hG hI hw) rfl rfl hl.1 rfl (lv_room (Nat.le_of_ble_eq_true rfl)) dL_areSums_84 ⟨by show _ ≤ 0; omega, by show _ ≤ 0; omega⟩) (fun v2 μ3 H locs hw hI => ?_)
  refine W.eq (g2 := F0 m 87 ls [.int v2]) rfl ?_
  refine lv_iload_n hx hb dL_areSums_87 rfl (lv_at hl 3 rfl) ?_
  refine lv_icmp_ne (tgt := 124) hx hb dL_areSums_88 (by decide) (fun hc => ?_) (fun hc => ?_)
  · have hw := hw.1 hc
    obtain ⟨v4, ev4⟩ : ∃ y : Int32, y = x12 + (1 : Int32) := ⟨_, rfl⟩
    have hw := hw v4 ev4
    refine lv_iinc (v := v4) (lv' := [(12, .int v4), (4, .long v1), (0, va_rf x0), (1, va_rf x1), (3, .int x3), (6, .long x6), (8, .long x8), (10, .long x10)]) hx hb dL_areSums_124 hl (k := 7) rfl (by rw [ev4]; rfl) (by decide) rfl (fun ls hl => ?_)
    refine lv_goto (tgt := 48) hx hb dL_areSums_127 (by decide) ?_
    exact hK48 hw hI (lv_sub hl [2, 3, 4, 1, 5, 6, 7, 0] rfl) (by omega) (by omega)
  · have hw := hw.2 hc
    refine lv_lload hx hb dL_areSums_91 (lv_at hl 4 rfl) ?_
    refine j_aload_n (r := x0) hx hb dL_areSums_93 rfl (lv_at hl 1 rfl) ?_
    refine lv_iload hx hb dL_areSums_94 (lv_at hl 7 rfl) ?_
    obtain ⟨b7, ⟨hrb7, hfs⟩, hw⟩ := hw
    refine j_goz hI (va_runV (As := [.int x12]) (rest := [.long x6]) ⟨hx, hb, hml, hown, hts⟩ (kX9_balance l hfl D z b7 x12 μ3 H.size _) (cwV 1 hts gL_areSums_X9_balance rfl rfl rfl (by decide +kernel) ⟨Nat.le_of_ble_eq_true rfl, Nat.le_of_ble_eq_true rfl⟩) (j_prV2z hK hG hI hw (ci := 11) rfl hfs) rfl rfl hl.1 (by rw [hrb7]; rfl) (lv_room (Nat.le_of_ble_eq_true rfl)) dL_areSums_96 ⟨by show _ ≤ 0; omega, by show _ ≤ 0; omega⟩) (fun v5 μ6 H locs hw hI => ?_)
    refine W.eq (g2 := F0 m 99 ls [.long v5, .long x6]) rfl ?_
    refine lv_ladd hx hb dL_areSums_99 ?_
    refine lv_topl (fun v8 ev8 => ?_)
    have hw := hw v8 ev8
    refine lv_lstore (lv' := [(6, .long v8), (4, .long v1), (0, va_rf x0), (1, va_rf x1), (3, .int x3), (8, .long x8), (10, .long x10), (12, .int x12)]) hx hb dL_areSums_100 hl (by decide) rfl (fun ls hl => ?_)
    refine lv_lload hx hb dL_areSums_102 (lv_at hl 5 rfl) ?_
    refine j_aload_n (r := x0) hx hb dL_areSums_104 rfl (lv_at hl 2 rfl) ?_
    refine lv_iload hx hb dL_areSums_105 (lv_at hl 7 rfl) ?_
    obtain ⟨b11, ⟨hrb11, hfs⟩, hw⟩ := hw
    refine j_goz hI (va_runV (As := [.int x12]) (rest := [.long x8]) ⟨hx, hb, hml, hown, hts⟩ (kX9_afterSweep l hfl D z b11 x12 μ6 H.size _) (cwV 1 hts gL_areSums_X9_afterSweep rfl rfl rfl (by decide +kernel) ⟨Nat.le_of_ble_eq_true rfl, Nat.le_of_ble_eq_true rfl⟩) (j_prV2z hK hG hI hw (ci := 11) rfl hfs) rfl rfl hl.1 (by rw [hrb11]; rfl) (lv_room (Nat.le_of_ble_eq_true rfl)) dL_areSums_107 ⟨by show _ ≤ 0; omega, by show _ ≤ 0; omega⟩) (fun v9 μ10 H locs hw hI => ?_)
    refine W.eq (g2 := F0 m 110 ls [.long v9, .long x8]) rfl ?_
    refine lv_ladd hx hb dL_areSums_110 ?_
    refine lv_topl (fun v12 ev12 => ?_)
    have hw := hw v12 ev12
    refine lv_lstore (lv' := [(8, .long v12), (6, .long v8), (4, .long v1), (0, va_rf x0), (1, va_rf x1), (3, .int x3), (10, .long x10), (12, .int x12)]) hx hb dL_areSums_111 hl (by decide) rfl (fun ls hl => ?_)
    refine lv_lload hx hb dL_areSums_113 (lv_at hl 6 rfl) ?_
    refine j_aload_n (r := x0) hx hb dL_areSums_115 rfl (lv_at hl 3 rfl) ?_
    refine lv_iload hx hb dL_areSums_116 (lv_at hl 7 rfl) ?_
    obtain ⟨b15, ⟨hrb15, hfs⟩, hw⟩ := hw
    refine j_goz hI (va_runV (As := [.int x12]) (rest := [.long x10]) ⟨hx, hb, hml, hown, hts⟩ (kX9_interestOf l hfl D z b15 x12 μ10 H.size _) (cwV 1 hts gL_areSums_X9_interestOf rfl rfl rfl (by decide +kernel) ⟨Nat.le_of_ble_eq_true rfl, Nat.le_of_ble_eq_true rfl⟩) (j_prV2z hK hG hI hw (ci := 11) rfl hfs) rfl rfl hl.1 (by rw [hrb15]; rfl) (lv_room (Nat.le_of_ble_eq_true rfl)) dL_areSums_118 ⟨by show _ ≤ 0; omega, by show _ ≤ 0; omega⟩) (fun v13 μ14 H locs hw hI => ?_)
    refine W.eq (g2 := F0 m 121 ls [.long v13, .long x10]) rfl ?_
    refine lv_ladd hx hb dL_areSums_121 ?_
    refine lv_topl (fun v16 ev16 => ?_)
    have hw := hw v16 ev16
    refine lv_lstore (lv' := [(10, .long v16), (8, .long v12), (6, .long v8), (4, .long v1), (0, va_rf x0), (1, va_rf x1), (3, .int x3), (12, .int x12)]) hx hb dL_areSums_122 hl (by decide) rfl (fun ls hl => ?_)
    obtain ⟨v17, ev17⟩ : ∃ y : Int32, y = x12 + (1 : Int32) := ⟨_, rfl⟩
    have hw := hw v17 ev17
    refine lv_iinc (v := v17) (lv' := [(12, .int v17), (10, .long v16), (8, .long v12), (6, .long v8), (4, .long v1), (0, va_rf x0), (1, va_rf x1), (3, .int x3)]) hx hb dL_areSums_124 hl (k := 7) rfl (by rw [ev17]; rfl) (by decide) rfl (fun ls hl => ?_)
    refine lv_goto (tgt := 48) hx hb dL_areSums_127 (by decide) ?_
    exact hK48 hw hI (lv_sub hl [5, 6, 7, 4, 3, 2, 1, 0] rfl) (by omega) (by omega)
set_option maxHeartbeats 4000000 in
set_option maxRecDepth 100000 in
theorem kL_areSums_173 (hX : jX2 D z A p l s m args meth c yL_areSums cL_areSums 13 wsL_areSums (some .boolean)) {Q : Int32 → jM → Prop} {K18 : Option Nat → Option Nat → Int32 → Int32 → jM → Prop} (hK18 : ∀ {x0 : Option Nat} {x1 : Option Nat} {x2 : Int32} {x3 : Int32} {μ : jM} {H : Heap} {locs : List Loc} {ls : Array Slot} {cells slots : Nat}, K18 x0 x1 x2 x3 μ → jIz D z A s.heap μ H locs → lv_has ls 13 [(0, va_rf x0), (1, va_rf x1), (2, .int x2), (3, .int x3)] → cells + 0 ≤ 0 → slots + 0 ≤ 0 → W p l e rmL_areSums s m args below meth c H locs cells slots (MQ below (jRz jfI Q D z A) args s 0 0 A) (F0 m 18 ls [])) {x0 : Option Nat} {x1 : Option Nat} {x3 : Int32} {x6 : Int64} {x8 : Int64} {x10 : Int64} {t0 : Int32} {μ : jM} {H : Heap} {locs : List Loc} {ls : Array Slot} {cells slots : Nat} (hw : wL_areSums_173 z K18 Q x0 x1 x3 x6 x8 x10 t0 μ) (hI : jIz D z A s.heap μ H locs) (hl : lv_has ls 13 [(0, va_rf x0), (1, va_rf x1), (3, .int x3), (6, .long x6), (8, .long x8), (10, .long x10)]) (hcn : cells + 0 ≤ 0) (hsn : slots + 0 ≤ 0) : W p l e rmL_areSums s m args below meth c H locs cells slots (MQ below (jRz jfI Q D z A) args s 0 0 A) (F0 m 173 ls [.int t0]) := by
  unfold wL_areSums_173 at hw
  obtain ⟨hx, hb, hml, hown, hts, hr, hlocks, hnm, hK, hG, hfl⟩ := id hX
  have hown : s.vm.findClass RL = some m.cls := hown
  refine j_istore_nA (r := x1) (F := fun w => [(0, va_rf x0), (1, w), (3, .int x3), (6, .long x6), (8, .long x8), (10, .long x10)]) (F2 := fun w => [(2, .int t0), (0, va_rf x0), (1, w), (3, .int x3), (6, .long x6), (8, .long x8), (10, .long x10)]) hx hb dL_areSums_173 rfl hl (by decide) (fun w hw => by rcases hw with rfl | ⟨_, rfl⟩ <;> rfl) (fun ls hl => ?_)
  refine lv_iload_n hx hb dL_areSums_174 rfl (lv_at hl 0 rfl) ?_
  refine lv_if_eq (tgt := 220) hx hb dL_areSums_175 (by decide) (fun hc => ?_) (fun hc => ?_)
  · have hw := hw.1 hc
    refine lv_iconst (v := (0)) hx hb dL_areSums_220 (by decide) ?_
    refine lv_topi (fun v1 ev1 => ?_)
    have hw := hw v1 ev1
    refine j_istore_nA (r := x1) (F := fun w => [(2, .int t0), (0, va_rf x0), (1, w), (3, .int x3), (6, .long x6), (8, .long x8), (10, .long x10)]) (F2 := fun w => [(2, .int v1), (0, va_rf x0), (1, w), (3, .int x3), (6, .long x6), (8, .long x8), (10, .long x10)]) hx hb dL_areSums_221 rfl hl (by decide) (fun w hw => by rcases hw with rfl | ⟨_, rfl⟩ <;> rfl) (fun ls hl => ?_)
    obtain ⟨v2, ev2⟩ : ∃ y : Int32, y = x3 + (1 : Int32) := ⟨_, rfl⟩
    have hw := hw v2 ev2
    refine lv_iinc (v := v2) (lv' := [(3, .int v2), (2, .int v1), (0, va_rf x0), (1, va_rf x1), (6, .long x6), (8, .long x8), (10, .long x10)]) hx hb dL_areSums_222 hl (k := 3) rfl (by rw [ev2]; rfl) (by decide) rfl (fun ls hl => ?_)
    refine lv_goto (tgt := 18) hx hb dL_areSums_225 (by decide) ?_
    exact hK18 hw hI (lv_sub hl [2, 3, 1, 0] rfl) (by omega) (by omega)
  · have hw := hw.2 hc
    refine j_aload_n (r := x1) hx hb dL_areSums_178 rfl (lv_at hl 2 rfl) ?_
    refine lv_iload_n hx hb dL_areSums_179 rfl (lv_at hl 3 rfl) ?_
    refine j_goz hI (va_runS (As := [va_rf x1, .int x3]) (rest := []) ⟨hx, hb, hml, hown, hts⟩ (kL_parent l hfl D z x1 x3 μ H.size _) (va_cwS 2 hts gL_areSums_L_parent rfl rfl rfl (by decide +kernel) ⟨Nat.le_of_ble_eq_true rfl, Nat.le_of_ble_eq_true rfl⟩) (j_prS2z hK hG hI hw) rfl rfl hl.1 rfl (lv_room (Nat.le_of_ble_eq_true rfl)) dL_areSums_180 ⟨by show _ ≤ 0; omega, by show _ ≤ 0; omega⟩) (fun v3 μ4 H locs hw hI => ?_)
    refine W.eq (g2 := F0 m 183 ls [.int v3]) rfl ?_
    refine lv_if_ge (tgt := 216) hx hb dL_areSums_183 (by decide) (fun hc => ?_) (fun hc => ?_)
    · have hw := hw.1 hc
      refine lv_iconst (v := (1)) hx hb dL_areSums_216 (by decide) ?_
      refine lv_goto (tgt := 221) hx hb dL_areSums_217 (by decide) ?_
      refine lv_topi (fun v5 ev5 => ?_)
      have hw := hw v5 ev5
      refine j_istore_nA (r := x1) (F := fun w => [(2, .int t0), (0, va_rf x0), (1, w), (3, .int x3), (6, .long x6), (8, .long x8), (10, .long x10)]) (F2 := fun w => [(2, .int v5), (0, va_rf x0), (1, w), (3, .int x3), (6, .long x6), (8, .long x8), (10, .long x10)]) hx hb dL_areSums_221 rfl hl (by decide) (fun w hw => by rcases hw with rfl | ⟨_, rfl⟩ <;> rfl) (fun ls hl => ?_)
      obtain ⟨v6, ev6⟩ : ∃ y : Int32, y = x3 + (1 : Int32) := ⟨_, rfl⟩
      have hw := hw v6 ev6
      refine lv_iinc (v := v6) (lv' := [(3, .int v6), (2, .int v5), (0, va_rf x0), (1, va_rf x1), (6, .long x6), (8, .long x8), (10, .long x10)]) hx hb dL_areSums_222 hl (k := 3) rfl (by rw [ev6]; rfl) (by decide) rfl (fun ls hl => ?_)
      refine lv_goto (tgt := 18) hx hb dL_areSums_225 (by decide) ?_
      exact hK18 hw hI (lv_sub hl [2, 3, 1, 0] rfl) (by omega) (by omega)
    · have hw := hw.2 hc
      refine j_aload_n (r := x0) hx hb dL_areSums_186 rfl (lv_at hl 1 rfl) ?_
      refine lv_iload_n hx hb dL_areSums_187 rfl (lv_at hl 3 rfl) ?_
      obtain ⟨b9, ⟨hrb9, hfs⟩, hw⟩ := hw
      refine j_goz hI (va_runV (As := [.int x3]) (rest := []) ⟨hx, hb, hml, hown, hts⟩ (kX9_total l hfl D z b9 x3 μ4 H.size _) (cwV 1 hts gL_areSums_X9_total rfl rfl rfl (by decide +kernel) ⟨Nat.le_of_ble_eq_true rfl, Nat.le_of_ble_eq_true rfl⟩) (j_prV2z hK hG hI hw (ci := 11) rfl hfs) rfl rfl hl.1 (by rw [hrb9]; rfl) (lv_room (Nat.le_of_ble_eq_true rfl)) dL_areSums_188 ⟨by show _ ≤ 0; omega, by show _ ≤ 0; omega⟩) (fun v7 μ8 H locs hw hI => ?_)
      refine W.eq (g2 := F0 m 191 ls [.long v7]) rfl ?_
      refine lv_lload hx hb dL_areSums_191 (lv_at hl 4 rfl) ?_
      refine j_lcmp_ne (tgt := 220) hx hb dL_areSums_193 dL_areSums_194 (by decide) (fun hc => ?_) (fun hc => ?_)
      · have hw := hw.1 hc
        refine lv_iconst (v := (0)) hx hb dL_areSums_220 (by decide) ?_
        refine lv_topi (fun v10 ev10 => ?_)
        have hw := hw v10 ev10
        refine j_istore_nA (r := x1) (F := fun w => [(2, .int t0), (0, va_rf x0), (1, w), (3, .int x3), (6, .long x6), (8, .long x8), (10, .long x10)]) (F2 := fun w => [(2, .int v10), (0, va_rf x0), (1, w), (3, .int x3), (6, .long x6), (8, .long x8), (10, .long x10)]) hx hb dL_areSums_221 rfl hl (by decide) (fun w hw => by rcases hw with rfl | ⟨_, rfl⟩ <;> rfl) (fun ls hl => ?_)
        obtain ⟨v11, ev11⟩ : ∃ y : Int32, y = x3 + (1 : Int32) := ⟨_, rfl⟩
        have hw := hw v11 ev11
        refine lv_iinc (v := v11) (lv' := [(3, .int v11), (2, .int v10), (0, va_rf x0), (1, va_rf x1), (6, .long x6), (8, .long x8), (10, .long x10)]) hx hb dL_areSums_222 hl (k := 3) rfl (by rw [ev11]; rfl) (by decide) rfl (fun ls hl => ?_)
        refine lv_goto (tgt := 18) hx hb dL_areSums_225 (by decide) ?_
        exact hK18 hw hI (lv_sub hl [2, 3, 1, 0] rfl) (by omega) (by omega)
      · have hw := hw.2 hc
        refine lv_lload hx hb dL_areSums_197 (lv_at hl 5 rfl) ?_
        refine lv_lload hx hb dL_areSums_199 (lv_at hl 4 rfl) ?_
        refine j_lcmp_ne (tgt := 220) hx hb dL_areSums_201 dL_areSums_202 (by decide) (fun hc => ?_) (fun hc => ?_)
        · have hw := hw.1 hc
          refine lv_iconst (v := (0)) hx hb dL_areSums_220 (by decide) ?_
          refine lv_topi (fun v12 ev12 => ?_)
          have hw := hw v12 ev12
          refine j_istore_nA (r := x1) (F := fun w => [(2, .int t0), (0, va_rf x0), (1, w), (3, .int x3), (6, .long x6), (8, .long x8), (10, .long x10)]) (F2 := fun w => [(2, .int v12), (0, va_rf x0), (1, w), (3, .int x3), (6, .long x6), (8, .long x8), (10, .long x10)]) hx hb dL_areSums_221 rfl hl (by decide) (fun w hw => by rcases hw with rfl | ⟨_, rfl⟩ <;> rfl) (fun ls hl => ?_)
          obtain ⟨v13, ev13⟩ : ∃ y : Int32, y = x3 + (1 : Int32) := ⟨_, rfl⟩
          have hw := hw v13 ev13
          refine lv_iinc (v := v13) (lv' := [(3, .int v13), (2, .int v12), (0, va_rf x0), (1, va_rf x1), (6, .long x6), (8, .long x8), (10, .long x10)]) hx hb dL_areSums_222 hl (k := 3) rfl (by rw [ev13]; rfl) (by decide) rfl (fun ls hl => ?_)
          refine lv_goto (tgt := 18) hx hb dL_areSums_225 (by decide) ?_
          exact hK18 hw hI (lv_sub hl [2, 3, 1, 0] rfl) (by omega) (by omega)
        · have hw := hw.2 hc
          refine j_aload_n (r := x0) hx hb dL_areSums_205 rfl (lv_at hl 1 rfl) ?_
          refine lv_iload_n hx hb dL_areSums_206 rfl (lv_at hl 3 rfl) ?_
          obtain ⟨b16, ⟨hrb16, hfs⟩, hw⟩ := hw
          refine j_goz hI (va_runV (As := [.int x3]) (rest := []) ⟨hx, hb, hml, hown, hts⟩ (kX9_poolInterest l hfl D z b16 x3 μ8 H.size _) (cwV 1 hts gL_areSums_X9_poolInterest rfl rfl rfl (by decide +kernel) ⟨Nat.le_of_ble_eq_true rfl, Nat.le_of_ble_eq_true rfl⟩) (j_prV2z hK hG hI hw (ci := 11) rfl hfs) rfl rfl hl.1 (by rw [hrb16]; rfl) (lv_room (Nat.le_of_ble_eq_true rfl)) dL_areSums_207 ⟨by show _ ≤ 0; omega, by show _ ≤ 0; omega⟩) (fun v14 μ15 H locs hw hI => ?_)
          refine W.eq (g2 := F0 m 210 ls [.long v14]) rfl ?_
          refine lv_lload hx hb dL_areSums_210 (lv_at hl 6 rfl) ?_
          refine j_lcmp_ne (tgt := 220) hx hb dL_areSums_212 dL_areSums_213 (by decide) (fun hc => ?_) (fun hc => ?_)
          · have hw := hw.1 hc
            refine lv_iconst (v := (0)) hx hb dL_areSums_220 (by decide) ?_
            refine lv_topi (fun v17 ev17 => ?_)
            have hw := hw v17 ev17
            refine j_istore_nA (r := x1) (F := fun w => [(2, .int t0), (0, va_rf x0), (1, w), (3, .int x3), (6, .long x6), (8, .long x8), (10, .long x10)]) (F2 := fun w => [(2, .int v17), (0, va_rf x0), (1, w), (3, .int x3), (6, .long x6), (8, .long x8), (10, .long x10)]) hx hb dL_areSums_221 rfl hl (by decide) (fun w hw => by rcases hw with rfl | ⟨_, rfl⟩ <;> rfl) (fun ls hl => ?_)
            obtain ⟨v18, ev18⟩ : ∃ y : Int32, y = x3 + (1 : Int32) := ⟨_, rfl⟩
            have hw := hw v18 ev18
            refine lv_iinc (v := v18) (lv' := [(3, .int v18), (2, .int v17), (0, va_rf x0), (1, va_rf x1), (6, .long x6), (8, .long x8), (10, .long x10)]) hx hb dL_areSums_222 hl (k := 3) rfl (by rw [ev18]; rfl) (by decide) rfl (fun ls hl => ?_)
            refine lv_goto (tgt := 18) hx hb dL_areSums_225 (by decide) ?_
            exact hK18 hw hI (lv_sub hl [2, 3, 1, 0] rfl) (by omega) (by omega)
          · have hw := hw.2 hc
            refine lv_iconst (v := (1)) hx hb dL_areSums_216 (by decide) ?_
            refine lv_goto (tgt := 221) hx hb dL_areSums_217 (by decide) ?_
            refine lv_topi (fun v19 ev19 => ?_)
            have hw := hw v19 ev19
            refine j_istore_nA (r := x1) (F := fun w => [(2, .int t0), (0, va_rf x0), (1, w), (3, .int x3), (6, .long x6), (8, .long x8), (10, .long x10)]) (F2 := fun w => [(2, .int v19), (0, va_rf x0), (1, w), (3, .int x3), (6, .long x6), (8, .long x8), (10, .long x10)]) hx hb dL_areSums_221 rfl hl (by decide) (fun w hw => by rcases hw with rfl | ⟨_, rfl⟩ <;> rfl) (fun ls hl => ?_)
            obtain ⟨v20, ev20⟩ : ∃ y : Int32, y = x3 + (1 : Int32) := ⟨_, rfl⟩
            have hw := hw v20 ev20
            refine lv_iinc (v := v20) (lv' := [(3, .int v20), (2, .int v19), (0, va_rf x0), (1, va_rf x1), (6, .long x6), (8, .long x8), (10, .long x10)]) hx hb dL_areSums_222 hl (k := 3) rfl (by rw [ev20]; rfl) (by decide) rfl (fun ls hl => ?_)
            refine lv_goto (tgt := 18) hx hb dL_areSums_225 (by decide) ?_
            exact hK18 hw hI (lv_sub hl [2, 3, 1, 0] rfl) (by omega) (by omega)
set_option maxHeartbeats 4000000 in
set_option maxRecDepth 100000 in
theorem kL_areSums_172 (hX : jX2 D z A p l s m args meth c yL_areSums cL_areSums 13 wsL_areSums (some .boolean)) {Q : Int32 → jM → Prop} {K18 : Option Nat → Option Nat → Int32 → Int32 → jM → Prop} (hK18 : ∀ {x0 : Option Nat} {x1 : Option Nat} {x2 : Int32} {x3 : Int32} {μ : jM} {H : Heap} {locs : List Loc} {ls : Array Slot} {cells slots : Nat}, K18 x0 x1 x2 x3 μ → jIz D z A s.heap μ H locs → lv_has ls 13 [(0, va_rf x0), (1, va_rf x1), (2, .int x2), (3, .int x3)] → cells + 0 ≤ 0 → slots + 0 ≤ 0 → W p l e rmL_areSums s m args below meth c H locs cells slots (MQ below (jRz jfI Q D z A) args s 0 0 A) (F0 m 18 ls [])) {x0 : Option Nat} {x1 : Option Nat} {x3 : Int32} {x6 : Int64} {x8 : Int64} {x10 : Int64} {μ : jM} {H : Heap} {locs : List Loc} {ls : Array Slot} {cells slots : Nat} (hw : wL_areSums_172 z K18 Q x0 x1 x3 x6 x8 x10 μ) (hI : jIz D z A s.heap μ H locs) (hl : lv_has ls 13 [(0, va_rf x0), (1, va_rf x1), (3, .int x3), (6, .long x6), (8, .long x8), (10, .long x10)]) (hcn : cells + 0 ≤ 0) (hsn : slots + 0 ≤ 0) : W p l e rmL_areSums s m args below meth c H locs cells slots (MQ below (jRz jfI Q D z A) args s 0 0 A) (F0 m 172 ls []) := by
  unfold wL_areSums_172 at hw
  obtain ⟨hx, hb, hml, hown, hts, hr, hlocks, hnm, hK, hG, hfl⟩ := id hX
  have hown : s.vm.findClass RL = some m.cls := hown
  refine lv_iconst (v := (0)) hx hb dL_areSums_172 (by decide) ?_
  exact kL_areSums_173 hX hK18 hw hI (lv_sub hl [0, 1, 2, 3, 4, 5] rfl) (by omega) (by omega)
set_option maxHeartbeats 4000000 in
set_option maxRecDepth 100000 in
theorem kL_areSums_48 (hX : jX2 D z A p l s m args meth c yL_areSums cL_areSums 13 wsL_areSums (some .boolean)) {Q : Int32 → jM → Prop} {K18 : Option Nat → Option Nat → Int32 → Int32 → jM → Prop} (hK18 : ∀ {x0 : Option Nat} {x1 : Option Nat} {x2 : Int32} {x3 : Int32} {μ : jM} {H : Heap} {locs : List Loc} {ls : Array Slot} {cells slots : Nat}, K18 x0 x1 x2 x3 μ → jIz D z A s.heap μ H locs → lv_has ls 13 [(0, va_rf x0), (1, va_rf x1), (2, .int x2), (3, .int x3)] → cells + 0 ≤ 0 → slots + 0 ≤ 0 → W p l e rmL_areSums s m args below meth c H locs cells slots (MQ below (jRz jfI Q D z A) args s 0 0 A) (F0 m 18 ls [])) (n : Nat) : ∀ {x0 : Option Nat} {x1 : Option Nat} {x3 : Int32} {x4 : Int64} {x6 : Int64} {x8 : Int64} {x10 : Int64} {x12 : Int32} {μ : jM} {H : Heap} {locs : List Loc} {ls : Array Slot} {cells slots : Nat}, wL_areSums_48 z K18 Q n x0 x1 x3 x4 x6 x8 x10 x12 μ → jIz D z A s.heap μ H locs → lv_has ls 13 [(0, va_rf x0), (1, va_rf x1), (3, .int x3), (4, .long x4), (6, .long x6), (8, .long x8), (10, .long x10), (12, .int x12)] → cells + 0 ≤ 0 → slots + 0 ≤ 0 → W p l e rmL_areSums s m args below meth c H locs cells slots (MQ below (jRz jfI Q D z A) args s 0 0 A) (F0 m 48 ls []) := by
  induction n with
  | zero =>
    intros
    rename_i hw _ _ _ _
    exact (show False from hw).elim
  | succ n ih =>
    intro x0 x1 x3 x4 x6 x8 x10 x12 μ H locs ls cells slots hw hI hl hcn hsn
    have hw : wL_areSums_48_b z K18 Q (wL_areSums_48 z K18 Q n) x0 x1 x3 x4 x6 x8 x10 x12 μ := hw
    unfold wL_areSums_48_b at hw
    obtain ⟨hx, hb, hml, hown, hts, hr, hlocks, hnm, hK, hG, hfl⟩ := id hX
    have hown : s.vm.findClass RL = some m.cls := hown
    refine lv_iload hx hb dL_areSums_48 (lv_at hl 7 rfl) ?_
    refine j_aload_n (r := x1) hx hb dL_areSums_50 rfl (lv_at hl 1 rfl) ?_
    refine lv_iconst (v := (0)) hx hb dL_areSums_51 (by decide) ?_
    obtain ⟨v1, hv1, hw⟩ := hw
    refine j_ialdz (r := x1) hx hb hK hI hv1 dL_areSums_52 ?_
    refine lv_icmp_ge (tgt := 130) hx hb dL_areSums_53 (by decide) (fun hc => ?_) (fun hc => ?_)
    · have hw := hw.1 hc
      refine j_aload_n (r := x0) hx hb dL_areSums_130 rfl (lv_at hl 0 rfl) ?_
      refine lv_iload_n hx hb dL_areSums_131 rfl (lv_at hl 2 rfl) ?_
      obtain ⟨b4, ⟨hrb4, hfs⟩, hw⟩ := hw
      refine j_goz hI (va_runV (As := [.int x3]) (rest := []) ⟨hx, hb, hml, hown, hts⟩ (kX9_total l hfl D z b4 x3 μ H.size _) (cwV 1 hts gL_areSums_X9_total rfl rfl rfl (by decide +kernel) ⟨Nat.le_of_ble_eq_true rfl, Nat.le_of_ble_eq_true rfl⟩) (j_prV2z hK hG hI hw (ci := 11) rfl hfs) rfl rfl hl.1 (by rw [hrb4]; rfl) (lv_room (Nat.le_of_ble_eq_true rfl)) dL_areSums_132 ⟨by show _ ≤ 0; omega, by show _ ≤ 0; omega⟩) (fun v2 μ3 H locs hw hI => ?_)
      refine W.eq (g2 := F0 m 135 ls [.long v2]) rfl ?_
      refine lv_lload hx hb dL_areSums_135 (lv_at hl 3 rfl) ?_
      refine j_lcmp_ne (tgt := 172) hx hb dL_areSums_137 dL_areSums_138 (by decide) (fun hc => ?_) (fun hc => ?_)
      · have hw := hw.1 hc
        exact kL_areSums_172 hX hK18 hw hI (lv_sub hl [0, 1, 2, 4, 5, 6] rfl) (by omega) (by omega)
      · have hw := hw.2 hc
        refine j_aload_n (r := x0) hx hb dL_areSums_141 rfl (lv_at hl 0 rfl) ?_
        refine lv_iload_n hx hb dL_areSums_142 rfl (lv_at hl 2 rfl) ?_
        obtain ⟨b7, ⟨hrb7, hfs⟩, hw⟩ := hw
        refine j_goz hI (va_runV (As := [.int x3]) (rest := []) ⟨hx, hb, hml, hown, hts⟩ (kX9_poolOf l hfl D z b7 x3 μ3 H.size _) (cwV 1 hts gL_areSums_X9_poolOf rfl rfl rfl (by decide +kernel) ⟨Nat.le_of_ble_eq_true rfl, Nat.le_of_ble_eq_true rfl⟩) (j_prV2z hK hG hI hw (ci := 11) rfl hfs) rfl rfl hl.1 (by rw [hrb7]; rfl) (lv_room (Nat.le_of_ble_eq_true rfl)) dL_areSums_143 ⟨by show _ ≤ 0; omega, by show _ ≤ 0; omega⟩) (fun v5 μ6 H locs hw hI => ?_)
        refine W.eq (g2 := F0 m 146 ls [.int v5]) rfl ?_
        refine j_aload_n (r := x1) hx hb dL_areSums_146 rfl (lv_at hl 1 rfl) ?_
        refine lv_iload_n hx hb dL_areSums_147 rfl (lv_at hl 2 rfl) ?_
        refine j_goz hI (va_runS (As := [va_rf x1, .int x3]) (rest := [.int v5]) ⟨hx, hb, hml, hown, hts⟩ (kL_top l hfl D z x1 x3 μ6 H.size _) (va_cwS 2 hts gL_areSums_L_top rfl rfl rfl (by decide +kernel) ⟨Nat.le_of_ble_eq_true rfl, Nat.le_of_ble_eq_true rfl⟩) (j_prS2z hK hG hI hw) rfl rfl hl.1 rfl (lv_room (Nat.le_of_ble_eq_true rfl)) dL_areSums_148 ⟨by show _ ≤ 0; omega, by show _ ≤ 0; omega⟩) (fun v8 μ9 H locs hw hI => ?_)
        refine W.eq (g2 := F0 m 151 ls [.int v8, .int v5]) rfl ?_
        refine lv_icmp_ne (tgt := 172) hx hb dL_areSums_151 (by decide) (fun hc => ?_) (fun hc => ?_)
        · have hw := hw.1 hc
          exact kL_areSums_172 hX hK18 hw hI (lv_sub hl [0, 1, 2, 4, 5, 6] rfl) (by omega) (by omega)
        · have hw := hw.2 hc
          refine j_aload_n (r := x0) hx hb dL_areSums_154 rfl (lv_at hl 0 rfl) ?_
          refine lv_iload_n hx hb dL_areSums_155 rfl (lv_at hl 2 rfl) ?_
          obtain ⟨b12, ⟨hrb12, hfs⟩, hw⟩ := hw
          refine j_goz hI (va_runV (As := [.int x3]) (rest := []) ⟨hx, hb, hml, hown, hts⟩ (kX9_afterSweep l hfl D z b12 x3 μ9 H.size _) (cwV 1 hts gL_areSums_X9_afterSweep rfl rfl rfl (by decide +kernel) ⟨Nat.le_of_ble_eq_true rfl, Nat.le_of_ble_eq_true rfl⟩) (j_prV2z hK hG hI hw (ci := 11) rfl hfs) rfl rfl hl.1 (by rw [hrb12]; rfl) (lv_room (Nat.le_of_ble_eq_true rfl)) dL_areSums_156 ⟨by show _ ≤ 0; omega, by show _ ≤ 0; omega⟩) (fun v10 μ11 H locs hw hI => ?_)
          refine W.eq (g2 := F0 m 159 ls [.long v10]) rfl ?_
          refine j_aload_n (r := x0) hx hb dL_areSums_159 rfl (lv_at hl 0 rfl) ?_
          refine lv_iload_n hx hb dL_areSums_160 rfl (lv_at hl 2 rfl) ?_
          obtain ⟨b15, ⟨hrb15, hfs⟩, hw⟩ := hw
          refine j_goz hI (va_runV (As := [.int x3]) (rest := [.long v10]) ⟨hx, hb, hml, hown, hts⟩ (kX9_afterSweepByMoves l hfl D z b15 x3 μ11 H.size _) (cwV 1 hts gL_areSums_X9_afterSweepByMoves rfl rfl rfl (by decide +kernel) ⟨Nat.le_of_ble_eq_true rfl, Nat.le_of_ble_eq_true rfl⟩) (j_prV2z hK hG hI hw (ci := 11) rfl hfs) rfl rfl hl.1 (by rw [hrb15]; rfl) (lv_room (Nat.le_of_ble_eq_true rfl)) dL_areSums_161 ⟨by show _ ≤ 0; omega, by show _ ≤ 0; omega⟩) (fun v13 μ14 H locs hw hI => ?_)
          refine W.eq (g2 := F0 m 164 ls [.long v13, .long v10]) rfl ?_
          refine j_lcmp_ne (tgt := 172) hx hb dL_areSums_164 dL_areSums_165 (by decide) (fun hc => ?_) (fun hc => ?_)
          · have hw := hw.1 hc
            exact kL_areSums_172 hX hK18 hw hI (lv_sub hl [0, 1, 2, 4, 5, 6] rfl) (by omega) (by omega)
          · have hw := hw.2 hc
            refine lv_iconst (v := (1)) hx hb dL_areSums_168 (by decide) ?_
            refine lv_goto (tgt := 173) hx hb dL_areSums_169 (by decide) ?_
            exact kL_areSums_173 hX hK18 hw hI (lv_sub hl [0, 1, 2, 4, 5, 6] rfl) (by omega) (by omega)
    · have hw := hw.2 hc
      refine lv_lload hx hb dL_areSums_56 (lv_at hl 3 rfl) ?_
      refine j_aload_n (r := x1) hx hb dL_areSums_58 rfl (lv_at hl 1 rfl) ?_
      refine lv_iload hx hb dL_areSums_59 (lv_at hl 7 rfl) ?_
      refine j_goz hI (va_runS (As := [va_rf x1, .int x12]) (rest := [.long x4]) ⟨hx, hb, hml, hown, hts⟩ (kL_parent l hfl D z x1 x12 μ H.size _) (va_cwS 2 hts gL_areSums_L_parent rfl rfl rfl (by decide +kernel) ⟨Nat.le_of_ble_eq_true rfl, Nat.le_of_ble_eq_true rfl⟩) (j_prS2z hK hG hI hw) rfl rfl hl.1 rfl (lv_room (Nat.le_of_ble_eq_true rfl)) dL_areSums_61 ⟨by show _ ≤ 0; omega, by show _ ≤ 0; omega⟩) (fun v16 μ17 H locs hw hI => ?_)
      refine W.eq (g2 := F0 m 64 ls [.int v16, .long x4]) rfl ?_
      refine lv_iload_n hx hb dL_areSums_64 rfl (lv_at hl 2 rfl) ?_
      refine lv_icmp_ne (tgt := 77) hx hb dL_areSums_65 (by decide) (fun hc => ?_) (fun hc => ?_)
      · have hw := hw.1 hc
        refine lv_lconst (v := (0)) hx hb dL_areSums_77 (by decide) ?_
        exact kL_areSums_78 hX hK18 ih hw hI (lv_sub hl [0, 1, 2, 4, 5, 6, 7] rfl) (by omega) (by omega)
      · have hw := hw.2 hc
        refine j_aload_n (r := x0) hx hb dL_areSums_68 rfl (lv_at hl 0 rfl) ?_
        refine lv_iload hx hb dL_areSums_69 (lv_at hl 7 rfl) ?_
        obtain ⟨b20, ⟨hrb20, hfs⟩, hw⟩ := hw
        refine j_goz hI (va_runV (As := [.int x12]) (rest := [.long x4]) ⟨hx, hb, hml, hown, hts⟩ (kX9_total l hfl D z b20 x12 μ17 H.size _) (cwV 1 hts gL_areSums_X9_total rfl rfl rfl (by decide +kernel) ⟨Nat.le_of_ble_eq_true rfl, Nat.le_of_ble_eq_true rfl⟩) (j_prV2z hK hG hI hw (ci := 11) rfl hfs) rfl rfl hl.1 (by rw [hrb20]; rfl) (lv_room (Nat.le_of_ble_eq_true rfl)) dL_areSums_71 ⟨by show _ ≤ 0; omega, by show _ ≤ 0; omega⟩) (fun v18 μ19 H locs hw hI => ?_)
        refine W.eq (g2 := F0 m 74 ls [.long v18, .long x4]) rfl ?_
        refine lv_goto (tgt := 78) hx hb dL_areSums_74 (by decide) ?_
        exact kL_areSums_78 hX hK18 ih hw hI (lv_sub hl [0, 1, 2, 4, 5, 6, 7] rfl) (by omega) (by omega)
set_option maxHeartbeats 4000000 in
set_option maxRecDepth 100000 in
theorem kL_areSums_18 (hX : jX2 D z A p l s m args meth c yL_areSums cL_areSums 13 wsL_areSums (some .boolean)) {Q : Int32 → jM → Prop}  (n : Nat) : ∀ {x0 : Option Nat} {x1 : Option Nat} {x2 : Int32} {x3 : Int32} {μ : jM} {H : Heap} {locs : List Loc} {ls : Array Slot} {cells slots : Nat}, wL_areSums_18 z Q n x0 x1 x2 x3 μ → jIz D z A s.heap μ H locs → lv_has ls 13 [(0, va_rf x0), (1, va_rf x1), (2, .int x2), (3, .int x3)] → cells + 0 ≤ 0 → slots + 0 ≤ 0 → W p l e rmL_areSums s m args below meth c H locs cells slots (MQ below (jRz jfI Q D z A) args s 0 0 A) (F0 m 18 ls []) := by
  induction n with
  | zero =>
    intros
    rename_i hw _ _ _ _
    exact (show False from hw).elim
  | succ n ih =>
    intro x0 x1 x2 x3 μ H locs ls cells slots hw hI hl hcn hsn
    have hw : wL_areSums_18_b z Q (wL_areSums_18 z Q n) x0 x1 x2 x3 μ := hw
    unfold wL_areSums_18_b at hw
    obtain ⟨hx, hb, hml, hown, hts, hr, hlocks, hnm, hK, hG, hfl⟩ := id hX
    have hown : s.vm.findClass RL = some m.cls := hown
    refine lv_iload_n hx hb dL_areSums_18 rfl (lv_at hl 3 rfl) ?_
    refine j_aload_n (r := x1) hx hb dL_areSums_19 rfl (lv_at hl 1 rfl) ?_
    refine lv_iconst (v := (0)) hx hb dL_areSums_20 (by decide) ?_
    obtain ⟨v1, hv1, hw⟩ := hw
    refine j_ialdz (r := x1) hx hb hK hI hv1 dL_areSums_21 ?_
    refine lv_icmp_ge (tgt := 228) hx hb dL_areSums_22 (by decide) (fun hc => ?_) (fun hc => ?_)
    · have hw := hw.1 hc
      refine lv_iload_n hx hb dL_areSums_228 rfl (lv_at hl 2 rfl) ?_
      obtain ⟨hz, hw⟩ := hw
      exact j_zretz hx hb hr hz hlocks hI hw (by omega) (by omega) dL_areSums_229
    · have hw := hw.2 hc
      refine lv_iload_n hx hb dL_areSums_25 rfl (lv_at hl 2 rfl) ?_
      refine lv_if_eq (tgt := 228) hx hb dL_areSums_26 (by decide) (fun hc => ?_) (fun hc => ?_)
      · have hw := hw.1 hc
        refine lv_iload_n hx hb dL_areSums_228 rfl (lv_at hl 2 rfl) ?_
        obtain ⟨hz, hw⟩ := hw
        exact j_zretz hx hb hr hz hlocks hI hw (by omega) (by omega) dL_areSums_229
      · have hw := hw.2 hc
        refine j_aload_n (r := x0) hx hb dL_areSums_29 rfl (lv_at hl 0 rfl) ?_
        refine lv_iload_n hx hb dL_areSums_30 rfl (lv_at hl 3 rfl) ?_
        obtain ⟨b4, ⟨hrb4, hfs⟩, hw⟩ := hw
        refine j_goz hI (va_runV (As := [.int x3]) (rest := []) ⟨hx, hb, hml, hown, hts⟩ (kX9_balance l hfl D z b4 x3 μ H.size _) (cwV 1 hts gL_areSums_X9_balance rfl rfl rfl (by decide +kernel) ⟨Nat.le_of_ble_eq_true rfl, Nat.le_of_ble_eq_true rfl⟩) (j_prV2z hK hG hI hw (ci := 11) rfl hfs) rfl rfl hl.1 (by rw [hrb4]; rfl) (lv_room (Nat.le_of_ble_eq_true rfl)) dL_areSums_31 ⟨by show _ ≤ 0; omega, by show _ ≤ 0; omega⟩) (fun v2 μ3 H locs hw hI => ?_)
        refine W.eq (g2 := F0 m 34 ls [.long v2]) rfl ?_
        refine lv_lstore (lv' := [(4, .long v2), (0, va_rf x0), (1, va_rf x1), (2, .int x2), (3, .int x3)]) hx hb dL_areSums_34 hl (by decide) rfl (fun ls hl => ?_)
        refine lv_lconst (v := (0)) hx hb dL_areSums_36 (by decide) ?_
        refine lv_topl (fun v5 ev5 => ?_)
        have hw := hw v5 ev5
        refine lv_lstore (lv' := [(6, .long v5), (4, .long v2), (0, va_rf x0), (1, va_rf x1), (2, .int x2), (3, .int x3)]) hx hb dL_areSums_37 hl (by decide) rfl (fun ls hl => ?_)
        refine lv_lconst (v := (0)) hx hb dL_areSums_39 (by decide) ?_
        refine lv_topl (fun v6 ev6 => ?_)
        have hw := hw v6 ev6
        refine lv_lstore (lv' := [(8, .long v6), (6, .long v5), (4, .long v2), (0, va_rf x0), (1, va_rf x1), (2, .int x2), (3, .int x3)]) hx hb dL_areSums_40 hl (by decide) rfl (fun ls hl => ?_)
        refine lv_lconst (v := (0)) hx hb dL_areSums_42 (by decide) ?_
        refine lv_topl (fun v7 ev7 => ?_)
        have hw := hw v7 ev7
        refine lv_lstore (lv' := [(10, .long v7), (8, .long v6), (6, .long v5), (4, .long v2), (0, va_rf x0), (1, va_rf x1), (2, .int x2), (3, .int x3)]) hx hb dL_areSums_43 hl (by decide) rfl (fun ls hl => ?_)
        refine lv_iconst (v := (0)) hx hb dL_areSums_45 (by decide) ?_
        refine lv_topi (fun v8 ev8 => ?_)
        have hw := hw v8 ev8
        refine lv_istore (lv' := [(12, .int v8), (10, .long v7), (8, .long v6), (6, .long v5), (4, .long v2), (0, va_rf x0), (1, va_rf x1), (2, .int x2), (3, .int x3)]) hx hb dL_areSums_46 hl (by decide) rfl (fun ls hl => ?_)
        obtain ⟨n9, hw⟩ := hw
        exact kL_areSums_48 hX ih n9 hw hI (lv_sub hl [5, 6, 8, 4, 3, 2, 1, 0] rfl) (by omega) (by omega)
set_option maxHeartbeats 4000000 in
set_option maxRecDepth 100000 in
theorem kL_areSums_0 (hX : jX2 D z A p l s m args meth c yL_areSums cL_areSums 13 wsL_areSums (some .boolean)) {Q : Int32 → jM → Prop}  {x0 : Option Nat} {x1 : Option Nat} {μ : jM} {H : Heap} {locs : List Loc} {ls : Array Slot} {cells slots : Nat} (hw : wL_areSums_0 z Q x0 x1 μ) (hI : jIz D z A s.heap μ H locs) (hl : lv_has ls 13 [(0, va_rf x0), (1, va_rf x1)]) (hcn : cells + 0 ≤ 0) (hsn : slots + 0 ≤ 0) : W p l e rmL_areSums s m args below meth c H locs cells slots (MQ below (jRz jfI Q D z A) args s 0 0 A) (F0 m 0 ls []) := by
  unfold wL_areSums_0 at hw
  obtain ⟨hx, hb, hml, hown, hts, hr, hlocks, hnm, hK, hG, hfl⟩ := id hX
  have hown : s.vm.findClass RL = some m.cls := hown
  refine j_aload_n (r := x0) hx hb dL_areSums_0 rfl (lv_at hl 0 rfl) ?_
  obtain ⟨b3, ⟨hrb3, hfs⟩, hw⟩ := hw
  refine j_goz hI (va_runV (As := []) (rest := []) ⟨hx, hb, hml, hown, hts⟩ (kX9_accounts l hfl D z b3  μ H.size _) (cwV 0 hts gL_areSums_X9_accounts rfl rfl rfl (by decide +kernel) ⟨Nat.le_of_ble_eq_true rfl, Nat.le_of_ble_eq_true rfl⟩) (j_prV2z hK hG hI hw (ci := 11) rfl hfs) rfl rfl hl.1 (by rw [hrb3]; rfl) (lv_room (Nat.le_of_ble_eq_true rfl)) dL_areSums_1 ⟨by show _ ≤ 0; omega, by show _ ≤ 0; omega⟩) (fun v1 μ2 H locs hw hI => ?_)
  refine W.eq (g2 := F0 m 4 ls [.int v1]) rfl ?_
  refine j_aload_n (r := x1) hx hb dL_areSums_4 rfl (lv_at hl 1 rfl) ?_
  refine lv_iconst (v := (0)) hx hb dL_areSums_5 (by decide) ?_
  obtain ⟨v4, hv4, hw⟩ := hw
  refine j_ialdz (r := x1) hx hb hK hI hv4 dL_areSums_6 ?_
  refine lv_icmp_ne (tgt := 14) hx hb dL_areSums_7 (by decide) (fun hc => ?_) (fun hc => ?_)
  · have hw := hw.1 hc
    refine lv_iconst (v := (0)) hx hb dL_areSums_14 (by decide) ?_
    refine lv_topi (fun v5 ev5 => ?_)
    have hw := hw v5 ev5
    refine j_istore_nA (r := x1) (F := fun w => [(0, va_rf x0), (1, w)]) (F2 := fun w => [(2, .int v5), (0, va_rf x0), (1, w)]) hx hb dL_areSums_15 rfl hl (by decide) (fun w hw => by rcases hw with rfl | ⟨_, rfl⟩ <;> rfl) (fun ls hl => ?_)
    refine lv_iconst (v := (0)) hx hb dL_areSums_16 (by decide) ?_
    refine lv_topi (fun v6 ev6 => ?_)
    have hw := hw v6 ev6
    refine lv_istore_n (lv' := [(3, .int v6), (2, .int v5), (0, va_rf x0), (1, va_rf x1)]) hx hb dL_areSums_17 rfl hl (by decide) rfl (fun ls hl => ?_)
    obtain ⟨n7, hw⟩ := hw
    exact kL_areSums_18 hX  n7 hw hI (lv_sub hl [2, 3, 1, 0] rfl) (by omega) (by omega)
  · have hw := hw.2 hc
    refine lv_iconst (v := (1)) hx hb dL_areSums_10 (by decide) ?_
    refine lv_goto (tgt := 15) hx hb dL_areSums_11 (by decide) ?_
    refine lv_topi (fun v8 ev8 => ?_)
    have hw := hw v8 ev8
    refine j_istore_nA (r := x1) (F := fun w => [(0, va_rf x0), (1, w)]) (F2 := fun w => [(2, .int v8), (0, va_rf x0), (1, w)]) hx hb dL_areSums_15 rfl hl (by decide) (fun w hw => by rcases hw with rfl | ⟨_, rfl⟩ <;> rfl) (fun ls hl => ?_)
    refine lv_iconst (v := (0)) hx hb dL_areSums_16 (by decide) ?_
    refine lv_topi (fun v9 ev9 => ?_)
    have hw := hw v9 ev9
    refine lv_istore_n (lv' := [(3, .int v9), (2, .int v8), (0, va_rf x0), (1, va_rf x1)]) hx hb dL_areSums_17 rfl hl (by decide) rfl (fun ls hl => ?_)
    obtain ⟨n10, hw⟩ := hw
    exact kL_areSums_18 hX  n10 hw hI (lv_sub hl [2, 3, 1, 0] rfl) (by omega) (by omega)
set_option maxHeartbeats 4000000 in
set_option maxRecDepth 100000 in
theorem kL_areSums (l : Launch) (hfl : l.stackTraces = false) (D : jD) (z : Nat × Nat) (x0 : Option Nat) (x1 : Option Nat) (μ : jM) (sz : Nat) (Q : Int32 → jM → Prop) : Met l yL_areSums wsL_areSums rmL_areSums (jPre2z D z μ sz [va_rf x0, va_rf x1] (wL_areSums z x0 x1 μ Q)) (jRz jfI Q D z (jA z μ sz)) 0 0 (jA z μ sz) := by
  refine Met.ofW (cc := cL_areSums) (maxL := 13) (ret := (some .boolean)) (by decide) rfl ?_
  intro p e s m args below meth c s₁ B hml hv
  obtain ⟨rfl, hsz, hH, hz0, hK, hG, hw⟩ := hv
  subst hsz
  have hX : jX2 D z (jA z μ s.heap.size) p l s m _ meth c yL_areSums cL_areSums 13 wsL_areSums (some .boolean) := ⟨B.exec, B.bytes, hml, findClass_of_methodNamed B.named, atoms_spec (ws := wsL_areSums) B.pre, B.returns, B.notSynchronized, (name_of_methodNamed B.named B.method).1, hK, hG, hfl⟩
  obtain ⟨ls, hg, hl⟩ : ∃ ls : Array Slot, entryFrame m ([va_rf x0, va_rf x1] : List Value).toArray 13 = F0 m 0 ls [] ∧ lv_has ls 13 [(0, va_rf x0), (1, va_rf x1)] := by
    cases x0 <;> cases x1 <;> exact ⟨_, lg_entry_eq .., lv_entry _ (n := 13) (Nat.le_of_ble_eq_true rfl)⟩
  rw [hg]
  exact kL_areSums_0 hX hw (jIz.start hH hz0) (lv_sub hl [0, 1] rfl) (by decide) (by decide)
set_option maxHeartbeats 4000000 in
set_option maxRecDepth 100000 in
theorem kL_areExposed_15 (hX : jX2 D z A p l s m args meth c yL_areExposed cL_areExposed 7 wsL_areExposed (some .boolean)) {Q : Int32 → jM → Prop} {K4 : Option Nat → Option Nat → Int32 → Int32 → jM → Prop} (hK4 : ∀ {x0 : Option Nat} {x1 : Option Nat} {x2 : Int32} {x3 : Int32} {μ : jM} {H : Heap} {locs : List Loc} {ls : Array Slot} {cells slots : Nat}, K4 x0 x1 x2 x3 μ → jIz D z A s.heap μ H locs → lv_has ls 7 [(0, va_rf x0), (1, va_rf x1), (2, .int x2), (3, .int x3)] → cells + 0 ≤ 0 → slots + 0 ≤ 0 → W p l e rmL_areExposed s m args below meth c H locs cells slots (MQ below (jRz jfI Q D z A) args s 0 0 A) (F0 m 4 ls [])) (n : Nat) : ∀ {x0 : Option Nat} {x1 : Option Nat} {x2 : Int32} {x3 : Int32} {x4 : Int64} {x6 : Int32} {μ : jM} {H : Heap} {locs : List Loc} {ls : Array Slot} {cells slots : Nat}, wL_areExposed_15 z K4 Q n x0 x1 x2 x3 x4 x6 μ → jIz D z A s.heap μ H locs → lv_has ls 7 [(0, va_rf x0), (1, va_rf x1), (2, .int x2), (3, .int x3), (4, .long x4), (6, .int x6)] → cells + 0 ≤ 0 → slots + 0 ≤ 0 → W p l e rmL_areExposed s m args below meth c H locs cells slots (MQ below (jRz jfI Q D z A) args s 0 0 A) (F0 m 15 ls []) := by
  induction n with
  | zero =>
    intros
    rename_i hw _ _ _ _
    exact (show False from hw).elim
  | succ n ih =>
    intro x0 x1 x2 x3 x4 x6 μ H locs ls cells slots hw hI hl hcn hsn
    have hw : wL_areExposed_15_b z K4 Q (wL_areExposed_15 z K4 Q n) x0 x1 x2 x3 x4 x6 μ := hw
    unfold wL_areExposed_15_b at hw
    obtain ⟨hx, hb, hml, hown, hts, hr, hlocks, hnm, hK, hG, hfl⟩ := id hX
    have hown : s.vm.findClass RL = some m.cls := hown
    refine lv_iload hx hb dL_areExposed_15 (lv_at hl 5 rfl) ?_
    refine j_aload_n (r := x1) hx hb dL_areExposed_17 rfl (lv_at hl 1 rfl) ?_
    refine lv_iconst (v := (0)) hx hb dL_areExposed_18 (by decide) ?_
    obtain ⟨v1, hv1, hw⟩ := hw
    refine j_ialdz (r := x1) hx hb hK hI hv1 dL_areExposed_19 ?_
    refine lv_icmp_ge (tgt := 67) hx hb dL_areExposed_20 (by decide) (fun hc => ?_) (fun hc => ?_)
    · have hw := hw.1 hc
      refine lv_iload_n hx hb dL_areExposed_67 rfl (lv_at hl 2 rfl) ?_
      refine lv_if_eq (tgt := 86) hx hb dL_areExposed_68 (by decide) (fun hc => ?_) (fun hc => ?_)
      · have hw := hw.1 hc
        refine lv_iconst (v := (0)) hx hb dL_areExposed_86 (by decide) ?_
        refine lv_topi (fun v2 ev2 => ?_)
        have hw := hw v2 ev2
        refine j_istore_nA (r := x1) (F := fun w => [(0, va_rf x0), (1, w), (2, .int x2), (3, .int x3), (4, .long x4), (6, .int x6)]) (F2 := fun w => [(2, .int v2), (0, va_rf x0), (1, w), (3, .int x3), (4, .long x4), (6, .int x6)]) hx hb dL_areExposed_87 rfl hl (by decide) (fun w hw => by rcases hw with rfl | ⟨_, rfl⟩ <;> rfl) (fun ls hl => ?_)
        obtain ⟨v3, ev3⟩ : ∃ y : Int32, y = x3 + (1 : Int32) := ⟨_, rfl⟩
        have hw := hw v3 ev3
        refine lv_iinc (v := v3) (lv' := [(3, .int v3), (2, .int v2), (0, va_rf x0), (1, va_rf x1), (4, .long x4), (6, .int x6)]) hx hb dL_areExposed_88 hl (k := 3) rfl (by rw [ev3]; rfl) (by decide) rfl (fun ls hl => ?_)
        refine lv_goto (tgt := 4) hx hb dL_areExposed_91 (by decide) ?_
        exact hK4 hw hI (lv_sub hl [2, 3, 1, 0] rfl) (by omega) (by omega)
      · have hw := hw.2 hc
        refine j_aload_n (r := x0) hx hb dL_areExposed_71 rfl (lv_at hl 0 rfl) ?_
        refine lv_iload_n hx hb dL_areExposed_72 rfl (lv_at hl 3 rfl) ?_
        obtain ⟨b6, ⟨hrb6, hfs⟩, hw⟩ := hw
        refine j_goz hI (va_runV (As := [.int x3]) (rest := []) ⟨hx, hb, hml, hown, hts⟩ (kX9_exposure l hfl D z b6 x3 μ H.size _) (cwV 1 hts gL_areExposed_X9_exposure rfl rfl rfl (by decide +kernel) ⟨Nat.le_of_ble_eq_true rfl, Nat.le_of_ble_eq_true rfl⟩) (j_prV2z hK hG hI hw (ci := 11) rfl hfs) rfl rfl hl.1 (by rw [hrb6]; rfl) (lv_room (Nat.le_of_ble_eq_true rfl)) dL_areExposed_73 ⟨by show _ ≤ 0; omega, by show _ ≤ 0; omega⟩) (fun v4 μ5 H locs hw hI => ?_)
        refine W.eq (g2 := F0 m 76 ls [.long v4]) rfl ?_
        refine lv_lload hx hb dL_areExposed_76 (lv_at hl 4 rfl) ?_
        refine j_lcmp_ne (tgt := 86) hx hb dL_areExposed_78 dL_areExposed_79 (by decide) (fun hc => ?_) (fun hc => ?_)
        · have hw := hw.1 hc
          refine lv_iconst (v := (0)) hx hb dL_areExposed_86 (by decide) ?_
          refine lv_topi (fun v7 ev7 => ?_)
          have hw := hw v7 ev7
          refine j_istore_nA (r := x1) (F := fun w => [(0, va_rf x0), (1, w), (2, .int x2), (3, .int x3), (4, .long x4), (6, .int x6)]) (F2 := fun w => [(2, .int v7), (0, va_rf x0), (1, w), (3, .int x3), (4, .long x4), (6, .int x6)]) hx hb dL_areExposed_87 rfl hl (by decide) (fun w hw => by rcases hw with rfl | ⟨_, rfl⟩ <;> rfl) (fun ls hl => ?_)
          obtain ⟨v8, ev8⟩ : ∃ y : Int32, y = x3 + (1 : Int32) := ⟨_, rfl⟩
          have hw := hw v8 ev8
          refine lv_iinc (v := v8) (lv' := [(3, .int v8), (2, .int v7), (0, va_rf x0), (1, va_rf x1), (4, .long x4), (6, .int x6)]) hx hb dL_areExposed_88 hl (k := 3) rfl (by rw [ev8]; rfl) (by decide) rfl (fun ls hl => ?_)
          refine lv_goto (tgt := 4) hx hb dL_areExposed_91 (by decide) ?_
          exact hK4 hw hI (lv_sub hl [2, 3, 1, 0] rfl) (by omega) (by omega)
        · have hw := hw.2 hc
          refine lv_iconst (v := (1)) hx hb dL_areExposed_82 (by decide) ?_
          refine lv_goto (tgt := 87) hx hb dL_areExposed_83 (by decide) ?_
          refine lv_topi (fun v9 ev9 => ?_)
          have hw := hw v9 ev9
          refine j_istore_nA (r := x1) (F := fun w => [(0, va_rf x0), (1, w), (2, .int x2), (3, .int x3), (4, .long x4), (6, .int x6)]) (F2 := fun w => [(2, .int v9), (0, va_rf x0), (1, w), (3, .int x3), (4, .long x4), (6, .int x6)]) hx hb dL_areExposed_87 rfl hl (by decide) (fun w hw => by rcases hw with rfl | ⟨_, rfl⟩ <;> rfl) (fun ls hl => ?_)
          obtain ⟨v10, ev10⟩ : ∃ y : Int32, y = x3 + (1 : Int32) := ⟨_, rfl⟩
          have hw := hw v10 ev10
          refine lv_iinc (v := v10) (lv' := [(3, .int v10), (2, .int v9), (0, va_rf x0), (1, va_rf x1), (4, .long x4), (6, .int x6)]) hx hb dL_areExposed_88 hl (k := 3) rfl (by rw [ev10]; rfl) (by decide) rfl (fun ls hl => ?_)
          refine lv_goto (tgt := 4) hx hb dL_areExposed_91 (by decide) ?_
          exact hK4 hw hI (lv_sub hl [2, 3, 1, 0] rfl) (by omega) (by omega)
    · have hw := hw.2 hc
      refine lv_lload hx hb dL_areExposed_23 (lv_at hl 4 rfl) ?_
      refine j_aload_n (r := x1) hx hb dL_areExposed_25 rfl (lv_at hl 1 rfl) ?_
      refine lv_iconst (v := (2)) hx hb dL_areExposed_26 (by decide) ?_
      refine lv_iload hx hb dL_areExposed_27 (lv_at hl 5 rfl) ?_
      refine lv_imul hx hb dL_areExposed_29 ?_
      refine lv_iconst (v := (2)) hx hb dL_areExposed_30 (by decide) ?_
      refine lv_iadd hx hb dL_areExposed_31 ?_
      obtain ⟨v11, hv11, hw⟩ := hw
      refine j_ialdz (r := x1) hx hb hK hI hv11 dL_areExposed_32 ?_
      refine lv_iload_n hx hb dL_areExposed_33 rfl (lv_at hl 3 rfl) ?_
      refine lv_icmp_ne (tgt := 57) hx hb dL_areExposed_34 (by decide) (fun hc => ?_) (fun hc => ?_)
      · have hw := hw.1 hc
        refine lv_lconst (v := (0)) hx hb dL_areExposed_57 (by decide) ?_
        refine lv_ladd hx hb dL_areExposed_58 ?_
        refine lv_topl (fun v12 ev12 => ?_)
        have hw := hw v12 ev12
        refine lv_lstore (lv' := [(4, .long v12), (0, va_rf x0), (1, va_rf x1), (2, .int x2), (3, .int x3), (6, .int x6)]) hx hb dL_areExposed_59 hl (by decide) rfl (fun ls hl => ?_)
        obtain ⟨v13, ev13⟩ : ∃ y : Int32, y = x6 + (1 : Int32) := ⟨_, rfl⟩
        have hw := hw v13 ev13
        refine lv_iinc (v := v13) (lv' := [(6, .int v13), (4, .long v12), (0, va_rf x0), (1, va_rf x1), (2, .int x2), (3, .int x3)]) hx hb dL_areExposed_61 hl (k := 5) rfl (by rw [ev13]; rfl) (by decide) rfl (fun ls hl => ?_)
        refine lv_goto (tgt := 15) hx hb dL_areExposed_64 (by decide) ?_
        exact ih hw hI (lv_sub hl [2, 3, 4, 5, 1, 0] rfl) (by omega) (by omega)
      · have hw := hw.2 hc
        refine j_aload_n (r := x0) hx hb dL_areExposed_37 rfl (lv_at hl 0 rfl) ?_
        refine lv_iload hx hb dL_areExposed_38 (lv_at hl 5 rfl) ?_
        obtain ⟨b16, ⟨hrb16, hfs⟩, hw⟩ := hw
        refine j_goz hI (va_runV (As := [.int x6]) (rest := [.long x4]) ⟨hx, hb, hml, hown, hts⟩ (kX9_balance l hfl D z b16 x6 μ H.size _) (cwV 1 hts gL_areExposed_X9_balance rfl rfl rfl (by decide +kernel) ⟨Nat.le_of_ble_eq_true rfl, Nat.le_of_ble_eq_true rfl⟩) (j_prV2z hK hG hI hw (ci := 11) rfl hfs) rfl rfl hl.1 (by rw [hrb16]; rfl) (lv_room (Nat.le_of_ble_eq_true rfl)) dL_areExposed_40 ⟨by show _ ≤ 0; omega, by show _ ≤ 0; omega⟩) (fun v14 μ15 H locs hw hI => ?_)
        refine W.eq (g2 := F0 m 43 ls [.long v14, .long x4]) rfl ?_
        refine lv_lconst (v := (0)) hx hb dL_areExposed_43 (by decide) ?_
        refine j_lcmp_le (tgt := 57) hx hb dL_areExposed_44 dL_areExposed_45 (by decide) (fun hc => ?_) (fun hc => ?_)
        · have hw := hw.1 hc
          refine lv_lconst (v := (0)) hx hb dL_areExposed_57 (by decide) ?_
          refine lv_ladd hx hb dL_areExposed_58 ?_
          refine lv_topl (fun v17 ev17 => ?_)
          have hw := hw v17 ev17
          refine lv_lstore (lv' := [(4, .long v17), (0, va_rf x0), (1, va_rf x1), (2, .int x2), (3, .int x3), (6, .int x6)]) hx hb dL_areExposed_59 hl (by decide) rfl (fun ls hl => ?_)
          obtain ⟨v18, ev18⟩ : ∃ y : Int32, y = x6 + (1 : Int32) := ⟨_, rfl⟩
          have hw := hw v18 ev18
          refine lv_iinc (v := v18) (lv' := [(6, .int v18), (4, .long v17), (0, va_rf x0), (1, va_rf x1), (2, .int x2), (3, .int x3)]) hx hb dL_areExposed_61 hl (k := 5) rfl (by rw [ev18]; rfl) (by decide) rfl (fun ls hl => ?_)
          refine lv_goto (tgt := 15) hx hb dL_areExposed_64 (by decide) ?_
          exact ih hw hI (lv_sub hl [2, 3, 4, 5, 1, 0] rfl) (by omega) (by omega)
        · have hw := hw.2 hc
          refine j_aload_n (r := x0) hx hb dL_areExposed_48 rfl (lv_at hl 0 rfl) ?_
          refine lv_iload hx hb dL_areExposed_49 (lv_at hl 5 rfl) ?_
          obtain ⟨b21, ⟨hrb21, hfs⟩, hw⟩ := hw
          refine j_goz hI (va_runV (As := [.int x6]) (rest := [.long x4]) ⟨hx, hb, hml, hown, hts⟩ (kX9_balance l hfl D z b21 x6 μ15 H.size _) (cwV 1 hts gL_areExposed_X9_balance rfl rfl rfl (by decide +kernel) ⟨Nat.le_of_ble_eq_true rfl, Nat.le_of_ble_eq_true rfl⟩) (j_prV2z hK hG hI hw (ci := 11) rfl hfs) rfl rfl hl.1 (by rw [hrb21]; rfl) (lv_room (Nat.le_of_ble_eq_true rfl)) dL_areExposed_51 ⟨by show _ ≤ 0; omega, by show _ ≤ 0; omega⟩) (fun v19 μ20 H locs hw hI => ?_)
          refine W.eq (g2 := F0 m 54 ls [.long v19, .long x4]) rfl ?_
          refine lv_goto (tgt := 58) hx hb dL_areExposed_54 (by decide) ?_
          refine lv_ladd hx hb dL_areExposed_58 ?_
          refine lv_topl (fun v22 ev22 => ?_)
          have hw := hw v22 ev22
          refine lv_lstore (lv' := [(4, .long v22), (0, va_rf x0), (1, va_rf x1), (2, .int x2), (3, .int x3), (6, .int x6)]) hx hb dL_areExposed_59 hl (by decide) rfl (fun ls hl => ?_)
          obtain ⟨v23, ev23⟩ : ∃ y : Int32, y = x6 + (1 : Int32) := ⟨_, rfl⟩
          have hw := hw v23 ev23
          refine lv_iinc (v := v23) (lv' := [(6, .int v23), (4, .long v22), (0, va_rf x0), (1, va_rf x1), (2, .int x2), (3, .int x3)]) hx hb dL_areExposed_61 hl (k := 5) rfl (by rw [ev23]; rfl) (by decide) rfl (fun ls hl => ?_)
          refine lv_goto (tgt := 15) hx hb dL_areExposed_64 (by decide) ?_
          exact ih hw hI (lv_sub hl [2, 3, 4, 5, 1, 0] rfl) (by omega) (by omega)
set_option maxHeartbeats 4000000 in
set_option maxRecDepth 100000 in
theorem kL_areExposed_4 (hX : jX2 D z A p l s m args meth c yL_areExposed cL_areExposed 7 wsL_areExposed (some .boolean)) {Q : Int32 → jM → Prop}  (n : Nat) : ∀ {x0 : Option Nat} {x1 : Option Nat} {x2 : Int32} {x3 : Int32} {μ : jM} {H : Heap} {locs : List Loc} {ls : Array Slot} {cells slots : Nat}, wL_areExposed_4 z Q n x0 x1 x2 x3 μ → jIz D z A s.heap μ H locs → lv_has ls 7 [(0, va_rf x0), (1, va_rf x1), (2, .int x2), (3, .int x3)] → cells + 0 ≤ 0 → slots + 0 ≤ 0 → W p l e rmL_areExposed s m args below meth c H locs cells slots (MQ below (jRz jfI Q D z A) args s 0 0 A) (F0 m 4 ls []) := by
  induction n with
  | zero =>
    intros
    rename_i hw _ _ _ _
    exact (show False from hw).elim
  | succ n ih =>
    intro x0 x1 x2 x3 μ H locs ls cells slots hw hI hl hcn hsn
    have hw : wL_areExposed_4_b z Q (wL_areExposed_4 z Q n) x0 x1 x2 x3 μ := hw
    unfold wL_areExposed_4_b at hw
    obtain ⟨hx, hb, hml, hown, hts, hr, hlocks, hnm, hK, hG, hfl⟩ := id hX
    have hown : s.vm.findClass RL = some m.cls := hown
    refine lv_iload_n hx hb dL_areExposed_4 rfl (lv_at hl 3 rfl) ?_
    refine lv_iconst (v := (4)) hx hb dL_areExposed_5 (by decide) ?_
    refine lv_icmp_ge (tgt := 94) hx hb dL_areExposed_6 (by decide) (fun hc => ?_) (fun hc => ?_)
    · have hw := hw.1 hc
      refine lv_iload_n hx hb dL_areExposed_94 rfl (lv_at hl 2 rfl) ?_
      obtain ⟨hz, hw⟩ := hw
      exact j_zretz hx hb hr hz hlocks hI hw (by omega) (by omega) dL_areExposed_95
    · have hw := hw.2 hc
      refine lv_lconst (v := (0)) hx hb dL_areExposed_9 (by decide) ?_
      refine lv_topl (fun v1 ev1 => ?_)
      have hw := hw v1 ev1
      refine lv_lstore (lv' := [(4, .long v1), (0, va_rf x0), (1, va_rf x1), (2, .int x2), (3, .int x3)]) hx hb dL_areExposed_10 hl (by decide) rfl (fun ls hl => ?_)
      refine lv_iconst (v := (0)) hx hb dL_areExposed_12 (by decide) ?_
      refine lv_topi (fun v2 ev2 => ?_)
      have hw := hw v2 ev2
      refine lv_istore (lv' := [(6, .int v2), (4, .long v1), (0, va_rf x0), (1, va_rf x1), (2, .int x2), (3, .int x3)]) hx hb dL_areExposed_13 hl (by decide) rfl (fun ls hl => ?_)
      obtain ⟨n3, hw⟩ := hw
      exact kL_areExposed_15 hX ih n3 hw hI (lv_sub hl [2, 3, 4, 5, 1, 0] rfl) (by omega) (by omega)
set_option maxHeartbeats 4000000 in
set_option maxRecDepth 100000 in
theorem kL_areExposed_0 (hX : jX2 D z A p l s m args meth c yL_areExposed cL_areExposed 7 wsL_areExposed (some .boolean)) {Q : Int32 → jM → Prop}  {x0 : Option Nat} {x1 : Option Nat} {μ : jM} {H : Heap} {locs : List Loc} {ls : Array Slot} {cells slots : Nat} (hw : wL_areExposed_0 z Q x0 x1 μ) (hI : jIz D z A s.heap μ H locs) (hl : lv_has ls 7 [(0, va_rf x0), (1, va_rf x1)]) (hcn : cells + 0 ≤ 0) (hsn : slots + 0 ≤ 0) : W p l e rmL_areExposed s m args below meth c H locs cells slots (MQ below (jRz jfI Q D z A) args s 0 0 A) (F0 m 0 ls []) := by
  unfold wL_areExposed_0 at hw
  obtain ⟨hx, hb, hml, hown, hts, hr, hlocks, hnm, hK, hG, hfl⟩ := id hX
  have hown : s.vm.findClass RL = some m.cls := hown
  refine lv_iconst (v := (1)) hx hb dL_areExposed_0 (by decide) ?_
  refine lv_topi (fun v1 ev1 => ?_)
  have hw := hw v1 ev1
  refine j_istore_nA (r := x1) (F := fun w => [(0, va_rf x0), (1, w)]) (F2 := fun w => [(2, .int v1), (0, va_rf x0), (1, w)]) hx hb dL_areExposed_1 rfl hl (by decide) (fun w hw => by rcases hw with rfl | ⟨_, rfl⟩ <;> rfl) (fun ls hl => ?_)
  refine lv_iconst (v := (0)) hx hb dL_areExposed_2 (by decide) ?_
  refine lv_topi (fun v2 ev2 => ?_)
  have hw := hw v2 ev2
  refine lv_istore_n (lv' := [(3, .int v2), (2, .int v1), (0, va_rf x0), (1, va_rf x1)]) hx hb dL_areExposed_3 rfl hl (by decide) rfl (fun ls hl => ?_)
  obtain ⟨n3, hw⟩ := hw
  exact kL_areExposed_4 hX  n3 hw hI (lv_sub hl [2, 3, 1, 0] rfl) (by omega) (by omega)
set_option maxHeartbeats 4000000 in
set_option maxRecDepth 100000 in
theorem kL_areExposed (l : Launch) (hfl : l.stackTraces = false) (D : jD) (z : Nat × Nat) (x0 : Option Nat) (x1 : Option Nat) (μ : jM) (sz : Nat) (Q : Int32 → jM → Prop) : Met l yL_areExposed wsL_areExposed rmL_areExposed (jPre2z D z μ sz [va_rf x0, va_rf x1] (wL_areExposed z x0 x1 μ Q)) (jRz jfI Q D z (jA z μ sz)) 0 0 (jA z μ sz) := by
  refine Met.ofW (cc := cL_areExposed) (maxL := 7) (ret := (some .boolean)) (by decide) rfl ?_
  intro p e s m args below meth c s₁ B hml hv
  obtain ⟨rfl, hsz, hH, hz0, hK, hG, hw⟩ := hv
  subst hsz
  have hX : jX2 D z (jA z μ s.heap.size) p l s m _ meth c yL_areExposed cL_areExposed 7 wsL_areExposed (some .boolean) := ⟨B.exec, B.bytes, hml, findClass_of_methodNamed B.named, atoms_spec (ws := wsL_areExposed) B.pre, B.returns, B.notSynchronized, (name_of_methodNamed B.named B.method).1, hK, hG, hfl⟩
  obtain ⟨ls, hg, hl⟩ : ∃ ls : Array Slot, entryFrame m ([va_rf x0, va_rf x1] : List Value).toArray 7 = F0 m 0 ls [] ∧ lv_has ls 7 [(0, va_rf x0), (1, va_rf x1)] := by
    cases x0 <;> cases x1 <;> exact ⟨_, lg_entry_eq .., lv_entry _ (n := 7) (Nat.le_of_ble_eq_true rfl)⟩
  rw [hg]
  exact kL_areExposed_0 hX hw (jIz.start hH hz0) (lv_sub hl [0, 1] rfl) (by decide) (by decide)
set_option maxHeartbeats 4000000 in
set_option maxRecDepth 100000 in
theorem kL_areLines_4 (hX : jX2 D z A p l s m args meth c yL_areLines cL_areLines 4 wsL_areLines (some .boolean)) {Q : Int32 → jM → Prop}  (n : Nat) : ∀ {x0 : Option Nat} {x1 : Option Nat} {x2 : Int32} {x3 : Int32} {μ : jM} {H : Heap} {locs : List Loc} {ls : Array Slot} {cells slots : Nat}, wL_areLines_4 z Q n x0 x1 x2 x3 μ → jIz D z A s.heap μ H locs → lv_has ls 4 [(0, va_rf x0), (1, va_rf x1), (2, .int x2), (3, .int x3)] → cells + 0 ≤ 0 → slots + 0 ≤ 0 → W p l e rmL_areLines s m args below meth c H locs cells slots (MQ below (jRz jfI Q D z A) args s 0 0 A) (F0 m 4 ls []) := by
  induction n with
  | zero =>
    intros
    rename_i hw _ _ _ _
    exact (show False from hw).elim
  | succ n ih =>
    intro x0 x1 x2 x3 μ H locs ls cells slots hw hI hl hcn hsn
    have hw : wL_areLines_4_b z Q (wL_areLines_4 z Q n) x0 x1 x2 x3 μ := hw
    unfold wL_areLines_4_b at hw
    obtain ⟨hx, hb, hml, hown, hts, hr, hlocks, hnm, hK, hG, hfl⟩ := id hX
    have hown : s.vm.findClass RL = some m.cls := hown
    refine lv_iload_n hx hb dL_areLines_4 rfl (lv_at hl 3 rfl) ?_
    refine j_aload_n (r := x1) hx hb dL_areLines_5 rfl (lv_at hl 1 rfl) ?_
    refine lv_iconst (v := (1)) hx hb dL_areLines_6 (by decide) ?_
    obtain ⟨v1, hv1, hw⟩ := hw
    refine j_ialdz (r := x1) hx hb hK hI hv1 dL_areLines_7 ?_
    refine lv_icmp_ge (tgt := 61) hx hb dL_areLines_8 (by decide) (fun hc => ?_) (fun hc => ?_)
    · have hw := hw.1 hc
      refine lv_iload_n hx hb dL_areLines_61 rfl (lv_at hl 2 rfl) ?_
      obtain ⟨hz, hw⟩ := hw
      exact j_zretz hx hb hr hz hlocks hI hw (by omega) (by omega) dL_areLines_62
    · have hw := hw.2 hc
      refine lv_iload_n hx hb dL_areLines_11 rfl (lv_at hl 2 rfl) ?_
      refine lv_if_eq (tgt := 53) hx hb dL_areLines_12 (by decide) (fun hc => ?_) (fun hc => ?_)
      · have hw := hw.1 hc
        refine lv_iconst (v := (0)) hx hb dL_areLines_53 (by decide) ?_
        refine lv_topi (fun v2 ev2 => ?_)
        have hw := hw v2 ev2
        refine j_istore_nA (r := x1) (F := fun w => [(0, va_rf x0), (1, w), (2, .int x2), (3, .int x3)]) (F2 := fun w => [(2, .int v2), (0, va_rf x0), (1, w), (3, .int x3)]) hx hb dL_areLines_54 rfl hl (by decide) (fun w hw => by rcases hw with rfl | ⟨_, rfl⟩ <;> rfl) (fun ls hl => ?_)
        obtain ⟨v3, ev3⟩ : ∃ y : Int32, y = x3 + (1 : Int32) := ⟨_, rfl⟩
        have hw := hw v3 ev3
        refine lv_iinc (v := v3) (lv' := [(3, .int v3), (2, .int v2), (0, va_rf x0), (1, va_rf x1)]) hx hb dL_areLines_55 hl (k := 3) rfl (by rw [ev3]; rfl) (by decide) rfl (fun ls hl => ?_)
        refine lv_goto (tgt := 4) hx hb dL_areLines_58 (by decide) ?_
        exact ih hw hI (lv_sub hl [2, 3, 1, 0] rfl) (by omega) (by omega)
      · have hw := hw.2 hc
        refine j_aload_n (r := x0) hx hb dL_areLines_15 rfl (lv_at hl 0 rfl) ?_
        refine lv_iload_n hx hb dL_areLines_16 rfl (lv_at hl 3 rfl) ?_
        obtain ⟨b6, ⟨hrb6, hfs⟩, hw⟩ := hw
        refine j_goz hI (va_runV (As := [.int x3]) (rest := []) ⟨hx, hb, hml, hown, hts⟩ (kX9_drawn l hfl D z b6 x3 μ H.size _) (cwV 1 hts gL_areLines_X9_drawn rfl rfl rfl (by decide +kernel) ⟨Nat.le_of_ble_eq_true rfl, Nat.le_of_ble_eq_true rfl⟩) (j_prV2z hK hG hI hw (ci := 11) rfl hfs) rfl rfl hl.1 (by rw [hrb6]; rfl) (lv_room (Nat.le_of_ble_eq_true rfl)) dL_areLines_17 ⟨by show _ ≤ 0; omega, by show _ ≤ 0; omega⟩) (fun v4 μ5 H locs hw hI => ?_)
        refine W.eq (g2 := F0 m 20 ls [.int v4]) rfl ?_
        refine lv_if_lt (tgt := 53) hx hb dL_areLines_20 (by decide) (fun hc => ?_) (fun hc => ?_)
        · have hw := hw.1 hc
          refine lv_iconst (v := (0)) hx hb dL_areLines_53 (by decide) ?_
          refine lv_topi (fun v7 ev7 => ?_)
          have hw := hw v7 ev7
          refine j_istore_nA (r := x1) (F := fun w => [(0, va_rf x0), (1, w), (2, .int x2), (3, .int x3)]) (F2 := fun w => [(2, .int v7), (0, va_rf x0), (1, w), (3, .int x3)]) hx hb dL_areLines_54 rfl hl (by decide) (fun w hw => by rcases hw with rfl | ⟨_, rfl⟩ <;> rfl) (fun ls hl => ?_)
          obtain ⟨v8, ev8⟩ : ∃ y : Int32, y = x3 + (1 : Int32) := ⟨_, rfl⟩
          have hw := hw v8 ev8
          refine lv_iinc (v := v8) (lv' := [(3, .int v8), (2, .int v7), (0, va_rf x0), (1, va_rf x1)]) hx hb dL_areLines_55 hl (k := 3) rfl (by rw [ev8]; rfl) (by decide) rfl (fun ls hl => ?_)
          refine lv_goto (tgt := 4) hx hb dL_areLines_58 (by decide) ?_
          exact ih hw hI (lv_sub hl [2, 3, 1, 0] rfl) (by omega) (by omega)
        · have hw := hw.2 hc
          refine j_aload_n (r := x0) hx hb dL_areLines_23 rfl (lv_at hl 0 rfl) ?_
          refine lv_iload_n hx hb dL_areLines_24 rfl (lv_at hl 3 rfl) ?_
          obtain ⟨b11, ⟨hrb11, hfs⟩, hw⟩ := hw
          refine j_goz hI (va_runV (As := [.int x3]) (rest := []) ⟨hx, hb, hml, hown, hts⟩ (kX9_drawn l hfl D z b11 x3 μ5 H.size _) (cwV 1 hts gL_areLines_X9_drawn rfl rfl rfl (by decide +kernel) ⟨Nat.le_of_ble_eq_true rfl, Nat.le_of_ble_eq_true rfl⟩) (j_prV2z hK hG hI hw (ci := 11) rfl hfs) rfl rfl hl.1 (by rw [hrb11]; rfl) (lv_room (Nat.le_of_ble_eq_true rfl)) dL_areLines_25 ⟨by show _ ≤ 0; omega, by show _ ≤ 0; omega⟩) (fun v9 μ10 H locs hw hI => ?_)
          refine W.eq (g2 := F0 m 28 ls [.int v9]) rfl ?_
          refine j_aload_n (r := x1) hx hb dL_areLines_28 rfl (lv_at hl 1 rfl) ?_
          refine lv_iconst (v := (2)) hx hb dL_areLines_29 (by decide) ?_
          refine lv_iload_n hx hb dL_areLines_30 rfl (lv_at hl 3 rfl) ?_
          refine lv_imul hx hb dL_areLines_31 ?_
          refine lv_bipush (v := (23)) hx hb dL_areLines_32 (by decide) ?_
          refine lv_iadd hx hb dL_areLines_34 ?_
          obtain ⟨v12, hv12, hw⟩ := hw
          refine j_ialdz (r := x1) hx hb hK hI hv12 dL_areLines_35 ?_
          refine lv_icmp_gt (tgt := 53) hx hb dL_areLines_36 (by decide) (fun hc => ?_) (fun hc => ?_)
          · have hw := hw.1 hc
            refine lv_iconst (v := (0)) hx hb dL_areLines_53 (by decide) ?_
            refine lv_topi (fun v13 ev13 => ?_)
            have hw := hw v13 ev13
            refine j_istore_nA (r := x1) (F := fun w => [(0, va_rf x0), (1, w), (2, .int x2), (3, .int x3)]) (F2 := fun w => [(2, .int v13), (0, va_rf x0), (1, w), (3, .int x3)]) hx hb dL_areLines_54 rfl hl (by decide) (fun w hw => by rcases hw with rfl | ⟨_, rfl⟩ <;> rfl) (fun ls hl => ?_)
            obtain ⟨v14, ev14⟩ : ∃ y : Int32, y = x3 + (1 : Int32) := ⟨_, rfl⟩
            have hw := hw v14 ev14
            refine lv_iinc (v := v14) (lv' := [(3, .int v14), (2, .int v13), (0, va_rf x0), (1, va_rf x1)]) hx hb dL_areLines_55 hl (k := 3) rfl (by rw [ev14]; rfl) (by decide) rfl (fun ls hl => ?_)
            refine lv_goto (tgt := 4) hx hb dL_areLines_58 (by decide) ?_
            exact ih hw hI (lv_sub hl [2, 3, 1, 0] rfl) (by omega) (by omega)
          · have hw := hw.2 hc
            refine j_aload_n (r := x0) hx hb dL_areLines_39 rfl (lv_at hl 0 rfl) ?_
            refine lv_iload_n hx hb dL_areLines_40 rfl (lv_at hl 3 rfl) ?_
            obtain ⟨b17, ⟨hrb17, hfs⟩, hw⟩ := hw
            refine j_goz hI (va_runV (As := [.int x3]) (rest := []) ⟨hx, hb, hml, hown, hts⟩ (kX9_costOf l hfl D z b17 x3 μ10 H.size _) (cwV 1 hts gL_areLines_X9_costOf rfl rfl rfl (by decide +kernel) ⟨Nat.le_of_ble_eq_true rfl, Nat.le_of_ble_eq_true rfl⟩) (j_prV2z hK hG hI hw (ci := 11) rfl hfs) rfl rfl hl.1 (by rw [hrb17]; rfl) (lv_room (Nat.le_of_ble_eq_true rfl)) dL_areLines_41 ⟨by show _ ≤ 0; omega, by show _ ≤ 0; omega⟩) (fun v15 μ16 H locs hw hI => ?_)
            refine W.eq (g2 := F0 m 44 ls [.long v15]) rfl ?_
            refine lv_lconst (v := (0)) hx hb dL_areLines_44 (by decide) ?_
            refine j_lcmp_lt (tgt := 53) hx hb dL_areLines_45 dL_areLines_46 (by decide) (fun hc => ?_) (fun hc => ?_)
            · have hw := hw.1 hc
              refine lv_iconst (v := (0)) hx hb dL_areLines_53 (by decide) ?_
              refine lv_topi (fun v18 ev18 => ?_)
              have hw := hw v18 ev18
              refine j_istore_nA (r := x1) (F := fun w => [(0, va_rf x0), (1, w), (2, .int x2), (3, .int x3)]) (F2 := fun w => [(2, .int v18), (0, va_rf x0), (1, w), (3, .int x3)]) hx hb dL_areLines_54 rfl hl (by decide) (fun w hw => by rcases hw with rfl | ⟨_, rfl⟩ <;> rfl) (fun ls hl => ?_)
              obtain ⟨v19, ev19⟩ : ∃ y : Int32, y = x3 + (1 : Int32) := ⟨_, rfl⟩
              have hw := hw v19 ev19
              refine lv_iinc (v := v19) (lv' := [(3, .int v19), (2, .int v18), (0, va_rf x0), (1, va_rf x1)]) hx hb dL_areLines_55 hl (k := 3) rfl (by rw [ev19]; rfl) (by decide) rfl (fun ls hl => ?_)
              refine lv_goto (tgt := 4) hx hb dL_areLines_58 (by decide) ?_
              exact ih hw hI (lv_sub hl [2, 3, 1, 0] rfl) (by omega) (by omega)
            · have hw := hw.2 hc
              refine lv_iconst (v := (1)) hx hb dL_areLines_49 (by decide) ?_
              refine lv_goto (tgt := 54) hx hb dL_areLines_50 (by decide) ?_
              refine lv_topi (fun v20 ev20 => ?_)
              have hw := hw v20 ev20
              refine j_istore_nA (r := x1) (F := fun w => [(0, va_rf x0), (1, w), (2, .int x2), (3, .int x3)]) (F2 := fun w => [(2, .int v20), (0, va_rf x0), (1, w), (3, .int x3)]) hx hb dL_areLines_54 rfl hl (by decide) (fun w hw => by rcases hw with rfl | ⟨_, rfl⟩ <;> rfl) (fun ls hl => ?_)
              obtain ⟨v21, ev21⟩ : ∃ y : Int32, y = x3 + (1 : Int32) := ⟨_, rfl⟩
              have hw := hw v21 ev21
              refine lv_iinc (v := v21) (lv' := [(3, .int v21), (2, .int v20), (0, va_rf x0), (1, va_rf x1)]) hx hb dL_areLines_55 hl (k := 3) rfl (by rw [ev21]; rfl) (by decide) rfl (fun ls hl => ?_)
              refine lv_goto (tgt := 4) hx hb dL_areLines_58 (by decide) ?_
              exact ih hw hI (lv_sub hl [2, 3, 1, 0] rfl) (by omega) (by omega)
set_option maxHeartbeats 4000000 in
set_option maxRecDepth 100000 in
theorem kL_areLines_0 (hX : jX2 D z A p l s m args meth c yL_areLines cL_areLines 4 wsL_areLines (some .boolean)) {Q : Int32 → jM → Prop}  {x0 : Option Nat} {x1 : Option Nat} {μ : jM} {H : Heap} {locs : List Loc} {ls : Array Slot} {cells slots : Nat} (hw : wL_areLines_0 z Q x0 x1 μ) (hI : jIz D z A s.heap μ H locs) (hl : lv_has ls 4 [(0, va_rf x0), (1, va_rf x1)]) (hcn : cells + 0 ≤ 0) (hsn : slots + 0 ≤ 0) : W p l e rmL_areLines s m args below meth c H locs cells slots (MQ below (jRz jfI Q D z A) args s 0 0 A) (F0 m 0 ls []) := by
  unfold wL_areLines_0 at hw
  obtain ⟨hx, hb, hml, hown, hts, hr, hlocks, hnm, hK, hG, hfl⟩ := id hX
  have hown : s.vm.findClass RL = some m.cls := hown
  refine lv_iconst (v := (1)) hx hb dL_areLines_0 (by decide) ?_
  refine lv_topi (fun v1 ev1 => ?_)
  have hw := hw v1 ev1
  refine j_istore_nA (r := x1) (F := fun w => [(0, va_rf x0), (1, w)]) (F2 := fun w => [(2, .int v1), (0, va_rf x0), (1, w)]) hx hb dL_areLines_1 rfl hl (by decide) (fun w hw => by rcases hw with rfl | ⟨_, rfl⟩ <;> rfl) (fun ls hl => ?_)
  refine lv_iconst (v := (0)) hx hb dL_areLines_2 (by decide) ?_
  refine lv_topi (fun v2 ev2 => ?_)
  have hw := hw v2 ev2
  refine lv_istore_n (lv' := [(3, .int v2), (2, .int v1), (0, va_rf x0), (1, va_rf x1)]) hx hb dL_areLines_3 rfl hl (by decide) rfl (fun ls hl => ?_)
  obtain ⟨n3, hw⟩ := hw
  exact kL_areLines_4 hX  n3 hw hI (lv_sub hl [2, 3, 1, 0] rfl) (by omega) (by omega)
set_option maxHeartbeats 4000000 in
set_option maxRecDepth 100000 in
theorem kL_areLines (l : Launch) (hfl : l.stackTraces = false) (D : jD) (z : Nat × Nat) (x0 : Option Nat) (x1 : Option Nat) (μ : jM) (sz : Nat) (Q : Int32 → jM → Prop) : Met l yL_areLines wsL_areLines rmL_areLines (jPre2z D z μ sz [va_rf x0, va_rf x1] (wL_areLines z x0 x1 μ Q)) (jRz jfI Q D z (jA z μ sz)) 0 0 (jA z μ sz) := by
  refine Met.ofW (cc := cL_areLines) (maxL := 4) (ret := (some .boolean)) (by decide) rfl ?_
  intro p e s m args below meth c s₁ B hml hv
  obtain ⟨rfl, hsz, hH, hz0, hK, hG, hw⟩ := hv
  subst hsz
  have hX : jX2 D z (jA z μ s.heap.size) p l s m _ meth c yL_areLines cL_areLines 4 wsL_areLines (some .boolean) := ⟨B.exec, B.bytes, hml, findClass_of_methodNamed B.named, atoms_spec (ws := wsL_areLines) B.pre, B.returns, B.notSynchronized, (name_of_methodNamed B.named B.method).1, hK, hG, hfl⟩
  obtain ⟨ls, hg, hl⟩ : ∃ ls : Array Slot, entryFrame m ([va_rf x0, va_rf x1] : List Value).toArray 4 = F0 m 0 ls [] ∧ lv_has ls 4 [(0, va_rf x0), (1, va_rf x1)] := by
    cases x0 <;> cases x1 <;> exact ⟨_, lg_entry_eq .., lv_entry _ (n := 4) (Nat.le_of_ble_eq_true rfl)⟩
  rw [hg]
  exact kL_areLines_0 hX hw (jIz.start hH hz0) (lv_sub hl [0, 1] rfl) (by decide) (by decide)
set_option maxHeartbeats 4000000 in
set_option maxRecDepth 100000 in
theorem kL_parentIsShort_0 (hX : jX2 D z A p l s m args meth c yL_parentIsShort cL_parentIsShort 3 wsL_parentIsShort (some .boolean)) {Q : Int32 → jM → Prop}  {x0 : Option Nat} {x1 : Option Nat} {x2 : Int32} {μ : jM} {H : Heap} {locs : List Loc} {ls : Array Slot} {cells slots : Nat} (hw : wL_parentIsShort_0 z Q x0 x1 x2 μ) (hI : jIz D z A s.heap μ H locs) (hl : lv_has ls 3 [(0, va_rf x0), (1, va_rf x1), (2, .int x2)]) (hcn : cells + 0 ≤ 0) (hsn : slots + 0 ≤ 0) : W p l e rmL_parentIsShort s m args below meth c H locs cells slots (MQ below (jRz jfI Q D z A) args s 0 0 A) (F0 m 0 ls []) := by
  unfold wL_parentIsShort_0 at hw
  obtain ⟨hx, hb, hml, hown, hts, hr, hlocks, hnm, hK, hG, hfl⟩ := id hX
  have hown : s.vm.findClass RL = some m.cls := hown
  refine j_aload_n (r := x0) hx hb dL_parentIsShort_0 rfl (lv_at hl 0 rfl) ?_
  refine lv_iload_n hx hb dL_parentIsShort_1 rfl (lv_at hl 2 rfl) ?_
  obtain ⟨b3, ⟨hrb3, hfs⟩, hw⟩ := hw
  refine j_goz hI (va_runV (As := [.int x2]) (rest := []) ⟨hx, hb, hml, hown, hts⟩ (kX9_afterSweep l hfl D z b3 x2 μ H.size _) (cwV 1 hts gL_parentIsShort_X9_afterSweep rfl rfl rfl (by decide +kernel) ⟨Nat.le_of_ble_eq_true rfl, Nat.le_of_ble_eq_true rfl⟩) (j_prV2z hK hG hI hw (ci := 11) rfl hfs) rfl rfl hl.1 (by rw [hrb3]; rfl) (lv_room (Nat.le_of_ble_eq_true rfl)) dL_parentIsShort_2 ⟨by show _ ≤ 0; omega, by show _ ≤ 0; omega⟩) (fun v1 μ2 H locs hw hI => ?_)
  refine W.eq (g2 := F0 m 5 ls [.long v1]) rfl ?_
  refine j_aload_n (r := x1) hx hb dL_parentIsShort_5 rfl (lv_at hl 1 rfl) ?_
  refine lv_iconst (v := (3)) hx hb dL_parentIsShort_6 (by decide) ?_
  refine lv_iload_n hx hb dL_parentIsShort_7 rfl (lv_at hl 2 rfl) ?_
  refine lv_imul hx hb dL_parentIsShort_8 ?_
  refine lv_bipush (v := (36)) hx hb dL_parentIsShort_9 (by decide) ?_
  refine lv_iadd hx hb dL_parentIsShort_11 ?_
  obtain ⟨v4, hv4, hw⟩ := hw
  refine j_ialdz (r := x1) hx hb hK hI hv4 dL_parentIsShort_12 ?_
  refine lv_i2l hx hb dL_parentIsShort_13 rfl ?_
  refine j_lcmp_gt (tgt := 22) hx hb dL_parentIsShort_14 dL_parentIsShort_15 (by decide) (fun hc => ?_) (fun hc => ?_)
  · have hw := hw.1 hc
    refine lv_iconst (v := (0)) hx hb dL_parentIsShort_22 (by decide) ?_
    exact j_zretz hx hb hr rfl hlocks hI hw (by omega) (by omega) dL_parentIsShort_23
  · have hw := hw.2 hc
    refine lv_iconst (v := (1)) hx hb dL_parentIsShort_18 (by decide) ?_
    refine lv_goto (tgt := 23) hx hb dL_parentIsShort_19 (by decide) ?_
    exact j_zretz hx hb hr rfl hlocks hI hw (by omega) (by omega) dL_parentIsShort_23
set_option maxHeartbeats 4000000 in
set_option maxRecDepth 100000 in
theorem kL_parentIsShort (l : Launch) (hfl : l.stackTraces = false) (D : jD) (z : Nat × Nat) (x0 : Option Nat) (x1 : Option Nat) (x2 : Int32) (μ : jM) (sz : Nat) (Q : Int32 → jM → Prop) : Met l yL_parentIsShort wsL_parentIsShort rmL_parentIsShort (jPre2z D z μ sz [va_rf x0, va_rf x1, .int x2] (wL_parentIsShort z x0 x1 x2 μ Q)) (jRz jfI Q D z (jA z μ sz)) 0 0 (jA z μ sz) := by
  refine Met.ofW (cc := cL_parentIsShort) (maxL := 3) (ret := (some .boolean)) (by decide) rfl ?_
  intro p e s m args below meth c s₁ B hml hv
  obtain ⟨rfl, hsz, hH, hz0, hK, hG, hw⟩ := hv
  subst hsz
  have hX : jX2 D z (jA z μ s.heap.size) p l s m _ meth c yL_parentIsShort cL_parentIsShort 3 wsL_parentIsShort (some .boolean) := ⟨B.exec, B.bytes, hml, findClass_of_methodNamed B.named, atoms_spec (ws := wsL_parentIsShort) B.pre, B.returns, B.notSynchronized, (name_of_methodNamed B.named B.method).1, hK, hG, hfl⟩
  obtain ⟨ls, hg, hl⟩ : ∃ ls : Array Slot, entryFrame m ([va_rf x0, va_rf x1, .int x2] : List Value).toArray 3 = F0 m 0 ls [] ∧ lv_has ls 3 [(0, va_rf x0), (1, va_rf x1), (2, .int x2)] := by
    cases x0 <;> cases x1 <;> exact ⟨_, lg_entry_eq .., lv_entry _ (n := 3) (Nat.le_of_ble_eq_true rfl)⟩
  rw [hg]
  exact kL_parentIsShort_0 hX hw (jIz.start hH hz0) (lv_sub hl [0, 1, 2] rfl) (by decide) (by decide)
end
