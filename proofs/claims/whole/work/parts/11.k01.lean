section
variable {p : Program} {l : Launch} {e : Env} {s : State} {m : MethodId} {args : Array Value} {below : List Frame} {meth : Method} {c : Code} {D : jD} {z : Nat × Nat} {A : Nat → Prop}
set_option maxHeartbeats 4000000 in
set_option maxRecDepth 100000 in
theorem kX3_enter_0 {b : Nat} (hX : jX2 D z A p l s m args meth c yX3_enter cX3_enter 2 wsX3_enter none) {Q : Unit → jM → Prop}  {x1 : Option Nat} {μ : jM} {H : Heap} {locs : List Loc} {ls : Array Slot} {cells slots : Nat} (hw : wX3_enter_0 z b Q x1 μ) (hI : jIz D z A s.heap μ H locs) (hl : lv_has ls 2 [(0, va_rf (some b)), (1, va_rf x1)]) (hcn : cells + 2 ≤ 2) (hsn : slots + 64 ≤ 64) : W p l e rmX3_enter s m args below meth c H locs cells slots (MQ below (jRz jfV Q D z A) args s 2 64 A) (F0 m 0 ls []) := by
  unfold wX3_enter_0 at hw
  obtain ⟨hx, hb, hml, hown, hts, hr, hlocks, hnm, hK, hG, hfl⟩ := id hX
  have hown : s.vm.findClass RX3 = some m.cls := hown
  have hfX0 : ∀ w ∈ wsX00, w.before args s = true := fun w h => hts w (List.mem_cons_of_mem _ (List.mem_append_left _ (List.mem_append_left _ (List.mem_append_right _ h))))
  have hfX3 : ∀ w ∈ wsX30, w.before args s = true := fun w h => hts w (List.mem_cons_of_mem _ (List.mem_append_left _ (List.mem_append_left _ (List.mem_append_left _ (List.mem_append_right _ h)))))
  have hfX6 : ∀ w ∈ wsX60, w.before args s = true := fun w h => hts w (List.mem_cons_of_mem _ (List.mem_append_left _ (List.mem_append_right _ h)))
  refine j_aload_n (r := (some b)) hx hb dX3_enter_0 rfl (lv_at hl 0 rfl) ?_
  obtain ⟨v1, hv1, hw⟩ := hw
  refine j_getz (C := RX3) (T := TX3) (N := 8) (ci := 6) (r := (some b)) (v := va_rf v1) hx hb hfX3 hown hK hI rfl 0 (by decide) (hts (.fieldLink RX3 12 "CashPools$Desk" "everyAccount" "Ljava/util/ArrayList;") (List.mem_of_getElem? (i := 1) (by decide +kernel))) (fun _ h => h) hv1 dX3_enter_1 ?_
  refine j_aload_n (r := x1) hx hb dX3_enter_4 rfl (lv_at hl 1 rfl) ?_
  obtain ⟨b4, ⟨hrb4, hfs⟩, hw⟩ := hw
  refine j_goz hI (va_runV (As := [va_rf x1]) (rest := []) ⟨hx, hb, hml, hown, hts⟩ (kJx4a65c_add_9ea2d l hfl D z b4 x1 μ H.size _) (cwV 1 hts gX3_enter_Jx4a65c_add_9ea2d rfl rfl rfl (by decide +kernel) ⟨Nat.le_of_ble_eq_true rfl, Nat.le_of_ble_eq_true rfl⟩) (j_prV2z hK hG hI hw (ci := 2) rfl hfs) rfl rfl hl.1 (by rw [hrb4]; rfl) (lv_room (Nat.le_of_ble_eq_true rfl)) dX3_enter_5 ⟨by show _ ≤ 2; omega, by show _ ≤ 64; omega⟩) (fun v2 μ3 H locs hw hI => ?_)
  refine W.eq (g2 := F0 m 8 ls [.int v2]) rfl ?_
  refine lv_pop hx hb dX3_enter_8 rfl ?_
  refine j_aload_n (r := x1) hx hb dX3_enter_9 rfl (lv_at hl 1 rfl) ?_
  obtain ⟨v5, hv5, hw⟩ := hw
  refine j_getz (C := RX0) (T := TX0) (N := 12) (ci := 3) (r := x1) (v := va_rf v5) hx hb hfX0 hown hK hI rfl 2 (by decide) (hts (.fieldLink RX3 64 "CashPools$Account" "pool" "LCashPools$Pool;") (List.mem_of_getElem? (i := 2) (by decide +kernel))) (fun _ h => h) hv5 dX3_enter_10 ?_
  obtain ⟨v6, hv6, hw⟩ := hw
  refine j_getz (C := RX6) (T := TX6) (N := 5) (ci := 9) (r := v5) (v := va_rf v6) hx hb hfX6 hown hK hI rfl 3 (by decide) (hts (.fieldLink RX3 71 "CashPools$Pool" "members" "Ljava/util/ArrayList;") (List.mem_of_getElem? (i := 3) (by decide +kernel))) (fun _ h => h) hv6 dX3_enter_13 ?_
  refine j_aload_n (r := x1) hx hb dX3_enter_16 rfl (lv_at hl 1 rfl) ?_
  obtain ⟨b9, ⟨hrb9, hfs⟩, hw⟩ := hw
  refine j_goz hI (va_runV (As := [va_rf x1]) (rest := []) ⟨hx, hb, hml, hown, hts⟩ (kJx4a65c_add_9ea2d l hfl D z b9 x1 μ3 H.size _) (cwV 1 hts gX3_enter_Jx4a65c_add_9ea2d rfl rfl rfl (by decide +kernel) ⟨Nat.le_of_ble_eq_true rfl, Nat.le_of_ble_eq_true rfl⟩) (j_prV2z hK hG hI hw (ci := 2) rfl hfs) rfl rfl hl.1 (by rw [hrb9]; rfl) (lv_room (Nat.le_of_ble_eq_true rfl)) dX3_enter_17 ⟨by show _ ≤ 2; omega, by show _ ≤ 64; omega⟩) (fun v7 μ8 H locs hw hI => ?_)
  refine W.eq (g2 := F0 m 20 ls [.int v7]) rfl ?_
  refine lv_pop hx hb dX3_enter_20 rfl ?_
  exact j_vretz hx hb hr hlocks hI hw (by omega) (by omega) dX3_enter_21
set_option maxHeartbeats 4000000 in
set_option maxRecDepth 100000 in
theorem kX3_enter (l : Launch) (hfl : l.stackTraces = false) (D : jD) (z : Nat × Nat) (b : Nat) (x1 : Option Nat) (μ : jM) (sz : Nat) (Q : Unit → jM → Prop) : Met l yX3_enter wsX3_enter rmX3_enter (jPre2z D z μ sz [.ref b, va_rf x1] (wX3_enter z b x1 μ Q)) (jRz jfV Q D z (jA z μ sz)) 2 64 (jA z μ sz) := by
  refine Met.ofW (cc := cX3_enter) (maxL := 2) (ret := none) (by decide) rfl ?_
  intro p e s m args below meth c s₁ B hml hv
  obtain ⟨rfl, hsz, hH, hz0, hK, hG, hw⟩ := hv
  subst hsz
  have hX : jX2 D z (jA z μ s.heap.size) p l s m _ meth c yX3_enter cX3_enter 2 wsX3_enter none := ⟨B.exec, B.bytes, hml, findClass_of_methodNamed B.named, atoms_spec (ws := wsX3_enter) B.pre, B.returns, B.notSynchronized, (name_of_methodNamed B.named B.method).1, hK, hG, hfl⟩
  obtain ⟨ls, hg, hl⟩ : ∃ ls : Array Slot, entryFrame m ([.ref b, va_rf x1] : List Value).toArray 2 = F0 m 0 ls [] ∧ lv_has ls 2 [(0, va_rf (some b)), (1, va_rf x1)] := by
    cases x1 <;> exact ⟨_, lg_entry_eq .., lv_entry _ (n := 2) (Nat.le_of_ble_eq_true rfl)⟩
  rw [hg]
  exact kX3_enter_0 hX hw (jIz.start hH hz0) (lv_sub hl [0, 1] rfl) (by decide) (by decide)
set_option maxHeartbeats 4000000 in
set_option maxRecDepth 100000 in
theorem kX3_openPool_0 {b : Nat} (hX : jX2 D z A p l s m args meth c yX3_openPool cX3_openPool 7 wsX3_openPool (some .int)) {Q : Int32 → jM → Prop}  {x1 : Option Nat} {x2 : Int32} {x3 : Int32} {μ : jM} {H : Heap} {locs : List Loc} {ls : Array Slot} {cells slots : Nat} (hw : wX3_openPool_0 z b Q x1 x2 x3 μ) (hI : jIz D z A s.heap μ H locs) (hl : lv_has ls 7 [(0, va_rf (some b)), (1, va_rf x1), (2, .int x2), (3, .int x3)]) (hcn : cells + 18 ≤ 18) (hsn : slots + 222 ≤ 222) : W p l e rmX3_openPool s m args below meth c H locs cells slots (MQ below (jRz jfI Q D z A) args s 18 222 A) (F0 m 0 ls []) := by
  unfold wX3_openPool_0 at hw
  obtain ⟨hx, hb, hml, hown, hts, hr, hlocks, hnm, hK, hG, hfl⟩ := id hX
  have hown : s.vm.findClass RX3 = some m.cls := hown
  have hfX0 : ∀ w ∈ wsX00, w.before args s = true := fun w h => hts w (List.mem_cons_of_mem _ (List.mem_append_left _ (List.mem_append_left _ (List.mem_append_right _ h))))
  have hfX3 : ∀ w ∈ wsX30, w.before args s = true := fun w h => hts w (List.mem_cons_of_mem _ (List.mem_append_left _ (List.mem_append_left _ (List.mem_append_left _ (List.mem_append_left _ (List.mem_append_right _ h))))))
  have hfX6 : ∀ w ∈ wsX60, w.before args s = true := fun w h => hts w (List.mem_cons_of_mem _ (List.mem_append_left _ (List.mem_append_left _ (List.mem_append_left _ (List.mem_append_right _ h)))))
  refine j_aload_n (r := (some b)) hx hb dX3_openPool_0 rfl (lv_at hl 0 rfl) ?_
  obtain ⟨v1, hv1, hw⟩ := hw
  refine j_getz (C := RX3) (T := TX3) (N := 8) (ci := 6) (r := (some b)) (v := va_rf v1) hx hb hfX3 hown hK hI rfl 0 (by decide) (hts (.fieldLink RX3 12 "CashPools$Desk" "everyAccount" "Ljava/util/ArrayList;") (List.mem_of_getElem? (i := 1) (by decide +kernel))) (fun _ h => h) hv1 dX3_openPool_1 ?_
  obtain ⟨b4, ⟨hrb4, hfs⟩, hw⟩ := hw
  refine j_goz hI (va_runV (As := []) (rest := []) ⟨hx, hb, hml, hown, hts⟩ (kJx4a65c_size_8abf5 l hfl D z b4  μ H.size _) (cwV 0 hts gX3_openPool_Jx4a65c_size_8abf5 rfl rfl rfl (by decide +kernel) ⟨Nat.le_of_ble_eq_true rfl, Nat.le_of_ble_eq_true rfl⟩) (j_prV2z hK hG hI hw (ci := 2) rfl hfs) rfl rfl hl.1 (by rw [hrb4]; rfl) (lv_room (Nat.le_of_ble_eq_true rfl)) dX3_openPool_4 ⟨by show _ ≤ 18; omega, by show _ ≤ 222; omega⟩) (fun v2 μ3 H locs hw hI => ?_)
  refine W.eq (g2 := F0 m 7 ls [.int v2]) rfl ?_
  refine lv_istore (lv' := [(4, .int v2), (0, va_rf (some b)), (1, va_rf x1), (2, .int x2), (3, .int x3)]) hx hb dX3_openPool_7 hl (by decide) rfl (fun ls hl => ?_)
  refine j_newz (C := RX6) (T := TX6) (N := 5) (ci := 9) (fs := jfX6) hx hb hfX6 tyX6 tyX6_ok hown (hts (.classLink RX3 50 RX6) (List.mem_of_getElem? (i := 2) (by decide +kernel))) (hts (.instantiable RX6 5) (List.mem_of_getElem? (i := 3) (by decide +kernel))) (hts (.initialized RX6) (List.mem_of_getElem? (i := 4) (by decide +kernel))) hK hI rfl jdX6 (by show _ ≤ 18; omega) (by show _ ≤ 222; omega) dX3_openPool_9 (fun q5 H hq5 hI => ?_)
  have hw := hw q5 hq5
  refine lv_dup hx hb dX3_openPool_12 rfl ?_
  refine lv_iload hx hb dX3_openPool_13 (lv_at hl 0 rfl) ?_
  refine lv_iload_n hx hb dX3_openPool_15 rfl (lv_at hl 3 rfl) ?_
  refine lv_iload_n hx hb dX3_openPool_16 rfl (lv_at hl 4 rfl) ?_
  refine j_goz hI (va_runI (As := [.int v2, .int x2, .int x3]) (rest := [va_rf (some q5)]) ⟨hx, hb, hml, hown, hts⟩ (kX6_init l hfl D z q5 v2 x2 x3 (va_up μ3 q5 (some (.inr (9, jfX6)))) H.size _) (cwI 3 hts gX3_openPool_X6_init rfl rfl rfl (hts (.initialized RX6) (List.mem_of_getElem? (i := 4) (by decide +kernel))) (hts (.methodLink RX3 52 yX6_init) (List.mem_of_getElem? (i := 15) (by decide +kernel))) (hts (.instanceMethod yX6_init) (List.mem_of_getElem? (i := 16) (by decide +kernel))) rfl (by decide +kernel) ⟨Nat.le_of_ble_eq_true rfl, Nat.le_of_ble_eq_true rfl⟩) (j_prS2z hK hG hI hw) rfl rfl hl.1 rfl (lv_room (Nat.le_of_ble_eq_true rfl)) dX3_openPool_17 ⟨by show _ ≤ 18; omega, by show _ ≤ 222; omega⟩) (fun u6 μ7 H locs hw hI => ?_)
  refine W.eq (g2 := F0 m 20 ls [va_rf (some q5)]) rfl ?_
  refine j_astore (r := (some q5)) (lv' := [(5, va_rf (some q5)), (4, .int v2), (0, va_rf (some b)), (1, va_rf x1), (2, .int x2), (3, .int x3)]) hx hb dX3_openPool_20 hl (by decide) rfl (fun ls hl => ?_)
  refine j_newz (C := RX0) (T := TX0) (N := 12) (ci := 3) (fs := jfX0) hx hb hfX0 tyX0 tyX0_ok hown (hts (.classLink RX3 55 RX0) (List.mem_of_getElem? (i := 5) (by decide +kernel))) (hts (.instantiable RX0 12) (List.mem_of_getElem? (i := 6) (by decide +kernel))) (hts (.initialized RX0) (List.mem_of_getElem? (i := 7) (by decide +kernel))) hK hI rfl jdX0 (by show _ ≤ 18; omega) (by show _ ≤ 222; omega) dX3_openPool_22 (fun q8 H hq8 hI => ?_)
  have hw := hw q8 hq8
  refine lv_dup hx hb dX3_openPool_25 rfl ?_
  refine lv_iload hx hb dX3_openPool_26 (lv_at hl 1 rfl) ?_
  refine j_null hx hb dX3_openPool_28 ?_
  refine j_aload (r := (some q5)) hx hb dX3_openPool_29 (lv_at hl 0 rfl) ?_
  refine j_aload_n (r := x1) hx hb dX3_openPool_31 rfl (lv_at hl 3 rfl) ?_
  refine j_goz hI (va_runI (As := [.int v2, va_rf none, va_rf (some q5), va_rf x1]) (rest := [va_rf (some q8)]) ⟨hx, hb, hml, hown, hts⟩ (kX0_init l hfl D z q8 v2 none (some q5) x1 (va_up μ7 q8 (some (.inr (3, jfX0)))) H.size _) (cwI 4 hts gX3_openPool_X0_init rfl rfl rfl (hts (.initialized RX0) (List.mem_of_getElem? (i := 7) (by decide +kernel))) (hts (.methodLink RX3 57 yX0_init) (List.mem_of_getElem? (i := 57) (by decide +kernel))) (hts (.instanceMethod yX0_init) (List.mem_of_getElem? (i := 58) (by decide +kernel))) rfl (by decide +kernel) ⟨Nat.le_of_ble_eq_true rfl, Nat.le_of_ble_eq_true rfl⟩) (j_prS2z hK hG hI hw) rfl rfl hl.1 rfl (lv_room (Nat.le_of_ble_eq_true rfl)) dX3_openPool_32 ⟨by show _ ≤ 18; omega, by show _ ≤ 222; omega⟩) (fun u9 μ10 H locs hw hI => ?_)
  refine W.eq (g2 := F0 m 35 ls [va_rf (some q8)]) rfl ?_
  refine j_astore (r := (some q8)) (lv' := [(6, va_rf (some q8)), (5, va_rf (some q5)), (4, .int v2), (0, va_rf (some b)), (1, va_rf x1), (2, .int x2), (3, .int x3)]) hx hb dX3_openPool_35 hl (by decide) rfl (fun ls hl => ?_)
  refine j_aload_n (r := (some b)) hx hb dX3_openPool_37 rfl (lv_at hl 3 rfl) ?_
  obtain ⟨v11, hv11, hw⟩ := hw
  refine j_getz (C := RX3) (T := TX3) (N := 8) (ci := 6) (r := (some b)) (v := va_rf v11) hx hb hfX3 hown hK hI rfl 1 (by decide) (hts (.fieldLink RX3 18 "CashPools$Desk" "tops" "Ljava/util/ArrayList;") (List.mem_of_getElem? (i := 8) (by decide +kernel))) (fun _ h => h) hv11 dX3_openPool_38 ?_
  refine j_aload (r := (some q8)) hx hb dX3_openPool_41 (lv_at hl 0 rfl) ?_
  obtain ⟨b14, ⟨hrb14, hfs⟩, hw⟩ := hw
  refine j_goz hI (va_runV (As := [va_rf (some q8)]) (rest := []) ⟨hx, hb, hml, hown, hts⟩ (kJx4a65c_add_9ea2d l hfl D z b14 (some q8) μ10 H.size _) (cwV 1 hts gX3_openPool_Jx4a65c_add_9ea2d rfl rfl rfl (by decide +kernel) ⟨Nat.le_of_ble_eq_true rfl, Nat.le_of_ble_eq_true rfl⟩) (j_prV2z hK hG hI hw (ci := 2) rfl hfs) rfl rfl hl.1 (by rw [hrb14]; rfl) (lv_room (Nat.le_of_ble_eq_true rfl)) dX3_openPool_43 ⟨by show _ ≤ 18; omega, by show _ ≤ 222; omega⟩) (fun v12 μ13 H locs hw hI => ?_)
  refine W.eq (g2 := F0 m 46 ls [.int v12]) rfl ?_
  refine lv_pop hx hb dX3_openPool_46 rfl ?_
  refine j_aload_n (r := (some b)) hx hb dX3_openPool_47 rfl (lv_at hl 3 rfl) ?_
  refine j_aload (r := (some q8)) hx hb dX3_openPool_48 (lv_at hl 0 rfl) ?_
  obtain ⟨hfs, hw⟩ := hw
  refine j_goz hI (va_runV (As := [va_rf (some q8)]) (rest := []) ⟨hx, hb, hml, hown, hts⟩ (kX3_enter l hfl D z b (some q8) μ13 H.size _) (cwV 1 hts gX3_openPool_X3_enter rfl rfl rfl (by decide +kernel) ⟨Nat.le_of_ble_eq_true rfl, Nat.le_of_ble_eq_true rfl⟩) (j_prV2z hK hG hI hw (ci := 6) rfl hfs) rfl rfl hl.1 rfl (lv_room (Nat.le_of_ble_eq_true rfl)) dX3_openPool_50 ⟨by show _ ≤ 18; omega, by show _ ≤ 222; omega⟩) (fun u15 μ16 H locs hw hI => ?_)
  refine W.eq (g2 := F0 m 53 ls []) rfl ?_
  refine lv_iload hx hb dX3_openPool_53 (lv_at hl 2 rfl) ?_
  exact j_iretz hx hb hr hlocks hI hw (by omega) (by omega) dX3_openPool_55
set_option maxHeartbeats 4000000 in
set_option maxRecDepth 100000 in
theorem kX3_openPool (l : Launch) (hfl : l.stackTraces = false) (D : jD) (z : Nat × Nat) (b : Nat) (x1 : Option Nat) (x2 : Int32) (x3 : Int32) (μ : jM) (sz : Nat) (Q : Int32 → jM → Prop) : Met l yX3_openPool wsX3_openPool rmX3_openPool (jPre2z D z μ sz [.ref b, va_rf x1, .int x2, .int x3] (wX3_openPool z b x1 x2 x3 μ Q)) (jRz jfI Q D z (jA z μ sz)) 18 222 (jA z μ sz) := by
  refine Met.ofW (cc := cX3_openPool) (maxL := 7) (ret := (some .int)) (by decide) rfl ?_
  intro p e s m args below meth c s₁ B hml hv
  obtain ⟨rfl, hsz, hH, hz0, hK, hG, hw⟩ := hv
  subst hsz
  have hX : jX2 D z (jA z μ s.heap.size) p l s m _ meth c yX3_openPool cX3_openPool 7 wsX3_openPool (some .int) := ⟨B.exec, B.bytes, hml, findClass_of_methodNamed B.named, atoms_spec (ws := wsX3_openPool) B.pre, B.returns, B.notSynchronized, (name_of_methodNamed B.named B.method).1, hK, hG, hfl⟩
  obtain ⟨ls, hg, hl⟩ : ∃ ls : Array Slot, entryFrame m ([.ref b, va_rf x1, .int x2, .int x3] : List Value).toArray 7 = F0 m 0 ls [] ∧ lv_has ls 7 [(0, va_rf (some b)), (1, va_rf x1), (2, .int x2), (3, .int x3)] := by
    cases x1 <;> exact ⟨_, lg_entry_eq .., lv_entry _ (n := 7) (Nat.le_of_ble_eq_true rfl)⟩
  rw [hg]
  exact kX3_openPool_0 hX hw (jIz.start hH hz0) (lv_sub hl [0, 1, 2, 3] rfl) (by decide) (by decide)
set_option maxHeartbeats 4000000 in
set_option maxRecDepth 100000 in
theorem kX9_addPool_0 {b : Nat} (hX : jX2 D z A p l s m args meth c yX9_addPool cX9_addPool 5 wsX9_addPool (some .int)) (hno : ∀ x ∈ c.exceptionTable.toList, False) {Q : Int32 → jM → Prop} {X : String → jM → Prop}  {x1 : Int32} {x2 : Int32} {x3 : Int32} {μ : jM} {H : Heap} {locs : List Loc} {ls : Array Slot} {cells slots : Nat} (hw : wX9_addPool_0 z b Q X x1 x2 x3 μ) (hI : jIz D z A s.heap μ H locs) (hl : lv_has ls 5 [(0, va_rf (some b)), (1, .int x1), (2, .int x2), (3, .int x3)]) (hcn : cells + 22 ≤ 22) (hsn : slots + 246 ≤ 246) : W p l e rmX9_addPool s m args below meth c H locs cells slots (vx_MQ below (jRz jfI Q D z A) (jXCz X D z A) args s 22 246 A) (F0 m 0 ls []) := by
  unfold wX9_addPool_0 at hw
  obtain ⟨hx, hb, hml, hown, hts, hr, hlocks, hnm, hK, hG, hfl⟩ := id hX
  have hown : s.vm.findClass RX9 = some m.cls := hown
  have hfX9 : ∀ w ∈ wsX90, w.before args s = true := fun w h => hts w (List.mem_cons_of_mem _ (List.mem_append_left _ (List.mem_append_left _ (List.mem_append_left _ (List.mem_append_left _ (List.mem_append_left _ (List.mem_append_left _ (List.mem_append_left _ (List.mem_append_right _ h)))))))))
  refine j_aload_n (r := (some b)) hx hb dX9_addPool_0 rfl (lv_at hl 0 rfl) ?_
  refine lv_iload_n hx hb dX9_addPool_1 rfl (lv_at hl 1 rfl) ?_
  obtain ⟨hfs, hw⟩ := hw
  refine j_goXz hI (vx_runV (As := [.int x1]) (rest := []) ⟨hx, hb, hml, hown, hts⟩ (kX9_bankAt l hfl D z b x1 μ H.size _ _) (cwV 1 hts gX9_addPool_X9_bankAt rfl rfl rfl (by decide +kernel) ⟨Nat.le_of_ble_eq_true rfl, Nat.le_of_ble_eq_true rfl⟩) (j_prV2z hK hG hI hw (ci := 11) rfl hfs) rfl rfl hl.1 rfl (lv_room (Nat.le_of_ble_eq_true rfl)) dX9_addPool_2 ⟨by show _ ≤ 22; omega, by show _ ≤ 246; omega⟩) (fun E ce q9 μX H locs hw hI hce hcv hcl => ?_) (fun v1 μ2 H locs hw hI => ?_)
  · exact j_outz hno hlocks hI hce hcv hcl hw (by omega) (by omega)
  refine W.eq (g2 := F0 m 5 ls [va_rf v1]) rfl ?_
  refine j_astore (r := v1) (lv' := [(4, va_rf v1), (0, va_rf (some b)), (1, .int x1), (2, .int x2), (3, .int x3)]) hx hb dX9_addPool_5 hl (by decide) rfl (fun ls hl => ?_)
  refine lv_iload_n hx hb dX9_addPool_7 rfl (lv_at hl 3 rfl) ?_
  refine lv_iconst (v := (0)) hx hb dX9_addPool_8 (by decide) ?_
  refine lv_sipush (v := (1000)) hx hb dX9_addPool_9 (by decide) ?_
  refine j_goXz hI (vx_runS (As := [.int x2, .int (0 : Int32), .int (1000 : Int32)]) (rest := []) ⟨hx, hb, hml, hown, hts⟩ (kX9_requireWithin l hfl D z x2 (0 : Int32) (1000 : Int32) μ2 H.size _ _) (va_cwS 3 hts gX9_addPool_X9_requireWithin rfl rfl rfl (by decide +kernel) ⟨Nat.le_of_ble_eq_true rfl, Nat.le_of_ble_eq_true rfl⟩) (j_prS2z hK hG hI hw) rfl rfl hl.1 rfl (lv_room (Nat.le_of_ble_eq_true rfl)) dX9_addPool_12 ⟨by show _ ≤ 22; omega, by show _ ≤ 246; omega⟩) (fun E ce q9 μX H locs hw hI hce hcv hcl => ?_) (fun u3 μ4 H locs hw hI => ?_)
  · exact j_outz hno hlocks hI hce hcv hcl hw (by omega) (by omega)
  refine W.eq (g2 := F0 m 15 ls []) rfl ?_
  refine lv_iload_n hx hb dX9_addPool_15 rfl (lv_at hl 4 rfl) ?_
  refine lv_iconst (v := (0)) hx hb dX9_addPool_16 (by decide) ?_
  refine lv_sipush (v := (1000)) hx hb dX9_addPool_17 (by decide) ?_
  refine j_goXz hI (vx_runS (As := [.int x3, .int (0 : Int32), .int (1000 : Int32)]) (rest := []) ⟨hx, hb, hml, hown, hts⟩ (kX9_requireWithin l hfl D z x3 (0 : Int32) (1000 : Int32) μ4 H.size _ _) (va_cwS 3 hts gX9_addPool_X9_requireWithin rfl rfl rfl (by decide +kernel) ⟨Nat.le_of_ble_eq_true rfl, Nat.le_of_ble_eq_true rfl⟩) (j_prS2z hK hG hI hw) rfl rfl hl.1 rfl (lv_room (Nat.le_of_ble_eq_true rfl)) dX9_addPool_20 ⟨by show _ ≤ 22; omega, by show _ ≤ 246; omega⟩) (fun E ce q9 μX H locs hw hI hce hcv hcl => ?_) (fun u5 μ6 H locs hw hI => ?_)
  · exact j_outz hno hlocks hI hce hcv hcl hw (by omega) (by omega)
  refine W.eq (g2 := F0 m 23 ls []) rfl ?_
  refine j_aload_n (r := (some b)) hx hb dX9_addPool_23 rfl (lv_at hl 1 rfl) ?_
  obtain ⟨hfs, hw⟩ := hw
  refine j_goXz hI (vx_runV (As := []) (rest := []) ⟨hx, hb, hml, hown, hts⟩ (kX9_requireAccountLeft l hfl D z b  μ6 H.size _ _) (cwV 0 hts gX9_addPool_X9_requireAccountLeft rfl rfl rfl (by decide +kernel) ⟨Nat.le_of_ble_eq_true rfl, Nat.le_of_ble_eq_true rfl⟩) (j_prV2z hK hG hI hw (ci := 11) rfl hfs) rfl rfl hl.1 rfl (lv_room (Nat.le_of_ble_eq_true rfl)) dX9_addPool_24 ⟨by show _ ≤ 22; omega, by show _ ≤ 246; omega⟩) (fun E ce q9 μX H locs hw hI hce hcv hcl => ?_) (fun u7 μ8 H locs hw hI => ?_)
  · exact j_outz hno hlocks hI hce hcv hcl hw (by omega) (by omega)
  refine W.eq (g2 := F0 m 27 ls []) rfl ?_
  refine j_aload_n (r := (some b)) hx hb dX9_addPool_27 rfl (lv_at hl 1 rfl) ?_
  obtain ⟨v9, hv9, hw⟩ := hw
  refine j_getz (C := RX9) (T := TX9) (N := 1) (ci := 11) (r := (some b)) (v := va_rf v9) hx hb hfX9 hown hK hI rfl 0 (by decide) (hts (.fieldLink RX9 10 "CashPools" "desk" "LCashPools$Desk;") (List.mem_of_getElem? (i := 1) (by decide +kernel))) (fun _ h => h) hv9 dX9_addPool_28 ?_
  refine j_aload (r := v1) hx hb dX9_addPool_31 (lv_at hl 0 rfl) ?_
  refine lv_iload_n hx hb dX9_addPool_33 rfl (lv_at hl 3 rfl) ?_
  refine lv_iload_n hx hb dX9_addPool_34 rfl (lv_at hl 4 rfl) ?_
  obtain ⟨b12, ⟨hrb12, hfs⟩, hw⟩ := hw
  refine j_goz hI (va_runV (As := [va_rf v1, .int x2, .int x3]) (rest := []) ⟨hx, hb, hml, hown, hts⟩ (kX3_openPool l hfl D z b12 v1 x2 x3 μ8 H.size _) (cwV 3 hts gX9_addPool_X3_openPool rfl rfl rfl (by decide +kernel) ⟨Nat.le_of_ble_eq_true rfl, Nat.le_of_ble_eq_true rfl⟩) (j_prV2z hK hG hI hw (ci := 6) rfl hfs) rfl rfl hl.1 (by rw [hrb12]; rfl) (lv_room (Nat.le_of_ble_eq_true rfl)) dX9_addPool_35 ⟨by show _ ≤ 22; omega, by show _ ≤ 246; omega⟩) (fun v10 μ11 H locs hw hI => ?_)
  refine W.eq (g2 := F0 m 38 ls [.int v10]) rfl ?_
  exact vx_ret (j_iretz hx hb hr hlocks hI hw (by omega) (by omega) dX9_addPool_38)
set_option maxHeartbeats 4000000 in
set_option maxRecDepth 100000 in
theorem kX9_addPool (l : Launch) (hfl : l.stackTraces = false) (D : jD) (z : Nat × Nat) (b : Nat) (x1 : Int32) (x2 : Int32) (x3 : Int32) (μ : jM) (sz : Nat) (Q : Int32 → jM → Prop) (X : String → jM → Prop) : vx_Met l yX9_addPool wsX9_addPool rmX9_addPool (jPre2z D z μ sz [.ref b, .int x1, .int x2, .int x3] (wX9_addPool z b x1 x2 x3 μ Q X)) (jRz jfI Q D z (jA z μ sz)) (jXCz X D z (jA z μ sz)) 22 246 (jA z μ sz) := by
  refine vx_ofW (cc := cX9_addPool) (maxL := 5) (ret := (some .int)) (by decide) rfl ?_
  intro p e s m args below meth c s₁ B hml hno hv
  obtain ⟨rfl, hsz, hH, hz0, hK, hG, hw⟩ := hv
  subst hsz
  have hX : jX2 D z (jA z μ s.heap.size) p l s m _ meth c yX9_addPool cX9_addPool 5 wsX9_addPool (some .int) := ⟨B.exec, B.bytes, hml, findClass_of_methodNamed B.named, atoms_spec (ws := wsX9_addPool) B.pre, B.returns, B.notSynchronized, (name_of_methodNamed B.named B.method).1, hK, hG, hfl⟩
  obtain ⟨ls, hg, hl⟩ : ∃ ls : Array Slot, entryFrame m ([.ref b, .int x1, .int x2, .int x3] : List Value).toArray 5 = F0 m 0 ls [] ∧ lv_has ls 5 [(0, va_rf (some b)), (1, .int x1), (2, .int x2), (3, .int x3)] := by
    exact ⟨_, lg_entry_eq .., lv_entry _ (n := 5) (Nat.le_of_ble_eq_true rfl)⟩
  rw [hg]
  exact kX9_addPool_0 hX hno hw (jIz.start hH hz0) (lv_sub hl [0, 1, 2, 3] rfl) (by decide) (by decide)
set_option maxHeartbeats 4000000 in
set_option maxRecDepth 100000 in
theorem kL_addPool_0 (hX : jX2 D z A p l s m args meth c yL_addPool cL_addPool 6 wsL_addPool (some .int)) (htab : c.exceptionTable.toList = ([⟨0, 12, 15, 13⟩, ⟨0, 12, 19, 15⟩] : List ExceptionTableEntry)) {Q : Int32 → jM → Prop}  {x0 : Option Nat} {x1 : Int32} {x2 : Int32} {x3 : Int32} {x4 : Option Nat} {μ : jM} {H : Heap} {locs : List Loc} {ls : Array Slot} {cells slots : Nat} (hw : wL_addPool_0 z Q x0 x1 x2 x3 x4 μ) (hI : jIz D z A s.heap μ H locs) (hl : lv_has ls 6 [(0, va_rf x0), (1, .int x1), (2, .int x2), (3, .int x3), (4, va_rf x4)]) (hcn : cells + 22 ≤ 22) (hsn : slots + 246 ≤ 246) : W p l e rmL_addPool s m args below meth c H locs cells slots (vx_MQ below (jRz jfI Q D z A) (jXCz (fun _ _ => False) D z A) args s 22 246 A) (F0 m 0 ls []) := by
  unfold wL_addPool_0 at hw
  obtain ⟨hx, hb, hml, hown, hts, hr, hlocks, hnm, hK, hG, hfl⟩ := id hX
  have hown : s.vm.findClass RL = some m.cls := hown
  refine j_aload (r := x4) hx hb dL_addPool_0 (lv_at hl 4 rfl) ?_
  refine lv_iconst (v := (0)) hx hb dL_addPool_2 (by decide) ?_
  refine j_aload_n (r := x0) hx hb dL_addPool_3 rfl (lv_at hl 0 rfl) ?_
  refine lv_iload_n hx hb dL_addPool_4 rfl (lv_at hl 1 rfl) ?_
  refine lv_iload_n hx hb dL_addPool_5 rfl (lv_at hl 2 rfl) ?_
  refine lv_iload_n hx hb dL_addPool_6 rfl (lv_at hl 3 rfl) ?_
  obtain ⟨b3, ⟨hrb3, hfs⟩, hw⟩ := hw
  refine j_goXz hI (vx_runV (As := [.int x1, .int x2, .int x3]) (rest := [.int (0 : Int32), va_rf x4]) ⟨hx, hb, hml, hown, hts⟩ (kX9_addPool l hfl D z b3 x1 x2 x3 μ H.size _ _) (cwV 3 hts gL_addPool_X9_addPool rfl rfl rfl (by decide +kernel) ⟨Nat.le_of_ble_eq_true rfl, Nat.le_of_ble_eq_true rfl⟩) (j_prV2z hK hG hI hw (ci := 11) rfl hfs) rfl rfl hl.1 (by rw [hrb3]; rfl) (lv_room (by simp only [List.map, List.sum_cons, List.sum_nil, jrc, jci, jcl, jcr, jcn]; exact Nat.le_of_ble_eq_true rfl)) dL_addPool_7 ⟨by show _ ≤ 22; omega, by show _ ≤ 246; omega⟩) (fun E ce q9 μX H locs hw hI hce hcv hcl => ?_) (fun v1 μ2 H locs hw hI => ?_)
  · rcases hw.2.2 with rfl | rfl
    · have hw := hw.1 rfl
      refine vx_catch hown [] ⟨0, 12, 15, 13⟩ [⟨0, 12, 19, 15⟩] (name := "java/lang/IllegalArgumentException") htab (fun z hz => absurd hz List.not_mem_nil) (by decide) (by decide) (hts (.classLink RL 13 "java/lang/IllegalArgumentException") (List.mem_of_getElem? (i := 1) (by decide +kernel))) (va_Nw.use rfl (hG.2.2.2.2.2.2.2.2.1 _ (by decide +kernel))) hce hcv hcl ?_
      refine W.eq (g2 := F0 m 15 ls [va_rf (some q9)]) rfl ?_
      refine j_astoreA (r := x4) (r0 := (some q9)) (F := fun w => [(0, va_rf x0), (1, .int x1), (2, .int x2), (3, .int x3), (4, w)]) (F2 := fun w => [(5, va_rf (some q9)), (0, va_rf x0), (1, .int x1), (2, .int x2), (3, .int x3), (4, w)]) hx hb dL_addPool_15 hl (by decide) (fun w hw => by rcases hw with rfl | ⟨_, rfl⟩ <;> rfl) (fun ls hl => ?_)
      refine lv_iconst (v := (1)) hx hb dL_addPool_17 (by decide) ?_
      exact vx_ret (j_iretz hx hb hr hlocks hI hw (by omega) (by omega) dL_addPool_18)
    · have hw := hw.2.1 rfl
      refine vx_catch hown [⟨0, 12, 15, 13⟩] ⟨0, 12, 19, 15⟩ [] (name := "java/lang/IllegalStateException") htab (List.forall_mem_cons.mpr ⟨Or.inr ⟨by decide, "java/lang/IllegalArgumentException", (hts (.classLink RL 13 "java/lang/IllegalArgumentException") (List.mem_of_getElem? (i := 1) (by decide +kernel))), hG.2.2.2.2.2.2.2.2.2.1 _ (by decide +kernel) _ (by decide +kernel) (by decide +kernel)⟩, (fun z hz => absurd hz List.not_mem_nil)⟩) (by decide) (by decide) (hts (.classLink RL 15 "java/lang/IllegalStateException") (List.mem_of_getElem? (i := 2) (by decide +kernel))) (va_Nw.use rfl (hG.2.2.2.2.2.2.2.2.1 _ (by decide +kernel))) hce hcv hcl ?_
      refine W.eq (g2 := F0 m 19 ls [va_rf (some q9)]) rfl ?_
      refine j_astoreA (r := x4) (r0 := (some q9)) (F := fun w => [(0, va_rf x0), (1, .int x1), (2, .int x2), (3, .int x3), (4, w)]) (F2 := fun w => [(5, va_rf (some q9)), (0, va_rf x0), (1, .int x1), (2, .int x2), (3, .int x3), (4, w)]) hx hb dL_addPool_19 hl (by decide) (fun w hw => by rcases hw with rfl | ⟨_, rfl⟩ <;> rfl) (fun ls hl => ?_)
      refine lv_iconst (v := (2)) hx hb dL_addPool_21 (by decide) ?_
      exact vx_ret (j_iretz hx hb hr hlocks hI hw (by omega) (by omega) dL_addPool_22)
  refine W.eq (g2 := F0 m 10 ls [.int v1, .int (0 : Int32), va_rf x4]) rfl ?_
  refine lv_i2l hx hb dL_addPool_10 rfl ?_
  obtain ⟨μ4, hμ4, hw⟩ := hw
  refine j_lastz (r := x4) hx hb hK hI hμ4 dL_addPool_11 (fun H locs hI => ?_)
  refine lv_goto (tgt := 23) hx hb dL_addPool_12 (by decide) ?_
  refine lv_iconst (v := (0)) hx hb dL_addPool_23 (by decide) ?_
  exact vx_ret (j_iretz hx hb hr hlocks hI hw (by omega) (by omega) dL_addPool_24)
set_option maxHeartbeats 4000000 in
set_option maxRecDepth 100000 in
theorem kL_addPool (l : Launch) (hfl : l.stackTraces = false) (D : jD) (z : Nat × Nat) (x0 : Option Nat) (x1 : Int32) (x2 : Int32) (x3 : Int32) (x4 : Option Nat) (μ : jM) (sz : Nat) (Q : Int32 → jM → Prop) : vx_Met l yL_addPool wsL_addPool rmL_addPool (jPre2z D z μ sz [va_rf x0, .int x1, .int x2, .int x3, va_rf x4] (wL_addPool z x0 x1 x2 x3 x4 μ Q)) (jRz jfI Q D z (jA z μ sz)) (jXCz (fun _ _ => False) D z (jA z μ sz)) 22 246 (jA z μ sz) := by
  refine vx_ofWH (cc := cL_addPool) (maxL := 6) (ret := (some .int)) (by decide) rfl ?_
  intro p e s m args below meth c s₁ B hml hv
  obtain ⟨rfl, hsz, hH, hz0, hK, hG, hw⟩ := hv
  subst hsz
  have hX : jX2 D z (jA z μ s.heap.size) p l s m _ meth c yL_addPool cL_addPool 6 wsL_addPool (some .int) := ⟨B.exec, B.bytes, hml, findClass_of_methodNamed B.named, atoms_spec (ws := wsL_addPool) B.pre, B.returns, B.notSynchronized, (name_of_methodNamed B.named B.method).1, hK, hG, hfl⟩
  obtain ⟨ls, hg, hl⟩ : ∃ ls : Array Slot, entryFrame m ([va_rf x0, .int x1, .int x2, .int x3, va_rf x4] : List Value).toArray 6 = F0 m 0 ls [] ∧ lv_has ls 6 [(0, va_rf x0), (1, .int x1), (2, .int x2), (3, .int x3), (4, va_rf x4)] := by
    cases x0 <;> cases x4 <;> exact ⟨_, lg_entry_eq .., lv_entry _ (n := 6) (Nat.le_of_ble_eq_true rfl)⟩
  rw [hg]
  exact kL_addPool_0 hX ((vx_table (x := yL_addPool) B (atoms_spec (ws := wsL_addPool) B.pre _ (List.mem_of_getElem? (i := 0) rfl))).trans rfl) hw (jIz.start hH hz0) (lv_sub hl [0, 1, 2, 3, 4] rfl) (by decide) (by decide)
set_option maxHeartbeats 4000000 in
set_option maxRecDepth 100000 in
theorem kX9_accountAt_0 {b : Nat} (hX : jX2 D z A p l s m args meth c yX9_accountAt cX9_accountAt 2 wsX9_accountAt (some (.object "CashPools$Account"))) (hno : ∀ x ∈ c.exceptionTable.toList, False) {Q : Option Nat → jM → Prop} {X : String → jM → Prop}  {x1 : Int32} {μ : jM} {H : Heap} {locs : List Loc} {ls : Array Slot} {cells slots : Nat} (hw : wX9_accountAt_0 z b Q X x1 μ) (hI : jIz D z A s.heap μ H locs) (hl : lv_has ls 2 [(0, va_rf (some b)), (1, .int x1)]) (hcn : cells + 1 ≤ 1) (hsn : slots + 6 ≤ 6) : W p l e rmX9_accountAt s m args below meth c H locs cells slots (vx_MQ below (jRz jfR Q D z A) (jXCz X D z A) args s 1 6 A) (F0 m 0 ls []) := by
  unfold wX9_accountAt_0 at hw
  obtain ⟨hx, hb, hml, hown, hts, hr, hlocks, hnm, hK, hG, hfl⟩ := id hX
  have hown : s.vm.findClass RX9 = some m.cls := hown
  have hfX3 : ∀ w ∈ wsX30, w.before args s = true := fun w h => hts w (List.mem_cons_of_mem _ (List.mem_append_left _ (List.mem_append_left _ (List.mem_append_right _ h))))
  have hfX9 : ∀ w ∈ wsX90, w.before args s = true := fun w h => hts w (List.mem_cons_of_mem _ (List.mem_append_left _ (List.mem_append_left _ (List.mem_append_left _ (List.mem_append_right _ h)))))
  refine lv_iload_n hx hb dX9_accountAt_0 rfl (lv_at hl 1 rfl) ?_
  refine lv_if_lt (tgt := 18) hx hb dX9_accountAt_1 (by decide) (fun hc => ?_) (fun hc => ?_)
  · have hw := hw.1 hc
    exact j_throw2z (names := ["java/lang/RuntimeException", "java/lang/Exception"]) (cls := "java/lang/IndexOutOfBoundsException") (text := "there is no such account") (ik := 223) (is := 225) (ic := 227) hx hb hno hfl hml hl.1 hown (by decide +kernel) (by decide +kernel) (hts (.classLink RX9 223 "java/lang/IndexOutOfBoundsException") (List.mem_of_getElem? (i := 1) (by decide +kernel))) (hts (.initialized "java/lang/IndexOutOfBoundsException") (List.mem_of_getElem? (i := 2) (by decide +kernel))) hG (by decide +kernel) (fun w h => hts w (List.mem_cons_of_mem _ (List.mem_append_right _ h))) (by decide +kernel) (by decide +kernel) (by decide +kernel) dX9_accountAt_18 dX9_accountAt_21 dX9_accountAt_22 dX9_accountAt_24 dX9_accountAt_27 (Nat.le_of_ble_eq_true rfl) (Nat.le_of_ble_eq_true rfl) (by show _ ≤ 1; omega) (by show _ ≤ 6; omega) hlocks hI hw (by omega) (by omega)
  · have hw := hw.2 hc
    refine lv_iload_n hx hb dX9_accountAt_4 rfl (lv_at hl 1 rfl) ?_
    refine j_aload_n (r := (some b)) hx hb dX9_accountAt_5 rfl (lv_at hl 0 rfl) ?_
    obtain ⟨v1, hv1, hw⟩ := hw
    refine j_getz (C := RX9) (T := TX9) (N := 1) (ci := 11) (r := (some b)) (v := va_rf v1) hx hb hfX9 hown hK hI rfl 0 (by decide) (hts (.fieldLink RX9 10 "CashPools" "desk" "LCashPools$Desk;") (List.mem_of_getElem? (i := 3) (by decide +kernel))) (fun _ h => h) hv1 dX9_accountAt_6 ?_
    obtain ⟨v2, hv2, hw⟩ := hw
    refine j_getz (C := RX3) (T := TX3) (N := 8) (ci := 6) (r := v1) (v := va_rf v2) hx hb hfX3 hown hK hI rfl 0 (by decide) (hts (.fieldLink RX9 148 "CashPools$Desk" "everyAccount" "Ljava/util/ArrayList;") (List.mem_of_getElem? (i := 4) (by decide +kernel))) (fun _ h => h) hv2 dX9_accountAt_9 ?_
    obtain ⟨b5, ⟨hrb5, hfs⟩, hw⟩ := hw
    refine j_goz hI (va_runV (As := []) (rest := [.int x1]) ⟨hx, hb, hml, hown, hts⟩ (kJx4a65c_size_8abf5 l hfl D z b5  μ H.size _) (cwV 0 hts gX9_accountAt_Jx4a65c_size_8abf5 rfl rfl rfl (by decide +kernel) ⟨Nat.le_of_ble_eq_true rfl, Nat.le_of_ble_eq_true rfl⟩) (j_prV2z hK hG hI hw (ci := 2) rfl hfs) rfl rfl hl.1 (by rw [hrb5]; rfl) (lv_room (Nat.le_of_ble_eq_true rfl)) dX9_accountAt_12 ⟨by show _ ≤ 1; omega, by show _ ≤ 6; omega⟩) (fun v3 μ4 H locs hw hI => ?_)
    refine W.eq (g2 := F0 m 15 ls [.int v3, .int x1]) rfl ?_
    refine lv_icmp_lt (tgt := 28) hx hb dX9_accountAt_15 (by decide) (fun hc => ?_) (fun hc => ?_)
    · have hw := hw.1 hc
      refine j_aload_n (r := (some b)) hx hb dX9_accountAt_28 rfl (lv_at hl 0 rfl) ?_
      obtain ⟨v6, hv6, hw⟩ := hw
      refine j_getz (C := RX9) (T := TX9) (N := 1) (ci := 11) (r := (some b)) (v := va_rf v6) hx hb hfX9 hown hK hI rfl 0 (by decide) (hts (.fieldLink RX9 10 "CashPools" "desk" "LCashPools$Desk;") (List.mem_of_getElem? (i := 3) (by decide +kernel))) (fun _ h => h) hv6 dX9_accountAt_29 ?_
      obtain ⟨v7, hv7, hw⟩ := hw
      refine j_getz (C := RX3) (T := TX3) (N := 8) (ci := 6) (r := v6) (v := va_rf v7) hx hb hfX3 hown hK hI rfl 0 (by decide) (hts (.fieldLink RX9 148 "CashPools$Desk" "everyAccount" "Ljava/util/ArrayList;") (List.mem_of_getElem? (i := 4) (by decide +kernel))) (fun _ h => h) hv7 dX9_accountAt_32 ?_
      refine lv_iload_n hx hb dX9_accountAt_35 rfl (lv_at hl 1 rfl) ?_
      obtain ⟨b10, ⟨hrb10, hfs⟩, hw⟩ := hw
      refine j_goz hI (va_runV (As := [.int x1]) (rest := []) ⟨hx, hb, hml, hown, hts⟩ (kJx4a65c_get_915e3 l hfl D z b10 x1 μ4 H.size _) (cwV 1 hts gX9_accountAt_Jx4a65c_get_915e3 rfl rfl rfl (by decide +kernel) ⟨Nat.le_of_ble_eq_true rfl, Nat.le_of_ble_eq_true rfl⟩) (j_prV2z hK hG hI hw (ci := 2) rfl hfs) rfl rfl hl.1 (by rw [hrb10]; rfl) (lv_room (Nat.le_of_ble_eq_true rfl)) dX9_accountAt_36 ⟨by show _ ≤ 1; omega, by show _ ≤ 6; omega⟩) (fun v8 μ9 H locs hw hI => ?_)
      refine W.eq (g2 := F0 m 39 ls [va_rf v8]) rfl ?_
      obtain ⟨h11, hw⟩ := hw
      refine j_castz (C := RX0) (T := TX0) (N := 12) (ci := 3) (r := v8) hx hb hown (hts (.classLink RX9 42 "CashPools$Account") (List.mem_of_getElem? (i := 5) (by decide +kernel))) hK hI rfl h11 dX9_accountAt_39 ?_
      exact vx_ret (j_aretz (v := v8) hx hb hr (Or.inl ⟨_, rfl⟩) hlocks hI hw (by omega) (by omega) dX9_accountAt_42)
    · have hw := hw.2 hc
      exact j_throw2z (names := ["java/lang/RuntimeException", "java/lang/Exception"]) (cls := "java/lang/IndexOutOfBoundsException") (text := "there is no such account") (ik := 223) (is := 225) (ic := 227) hx hb hno hfl hml hl.1 hown (by decide +kernel) (by decide +kernel) (hts (.classLink RX9 223 "java/lang/IndexOutOfBoundsException") (List.mem_of_getElem? (i := 1) (by decide +kernel))) (hts (.initialized "java/lang/IndexOutOfBoundsException") (List.mem_of_getElem? (i := 2) (by decide +kernel))) hG (by decide +kernel) (fun w h => hts w (List.mem_cons_of_mem _ (List.mem_append_right _ h))) (by decide +kernel) (by decide +kernel) (by decide +kernel) dX9_accountAt_18 dX9_accountAt_21 dX9_accountAt_22 dX9_accountAt_24 dX9_accountAt_27 (Nat.le_of_ble_eq_true rfl) (Nat.le_of_ble_eq_true rfl) (by show _ ≤ 1; omega) (by show _ ≤ 6; omega) hlocks hI hw (by omega) (by omega)
set_option maxHeartbeats 4000000 in
set_option maxRecDepth 100000 in
theorem kX9_accountAt (l : Launch) (hfl : l.stackTraces = false) (D : jD) (z : Nat × Nat) (b : Nat) (x1 : Int32) (μ : jM) (sz : Nat) (Q : Option Nat → jM → Prop) (X : String → jM → Prop) : vx_Met l yX9_accountAt wsX9_accountAt rmX9_accountAt (jPre2z D z μ sz [.ref b, .int x1] (wX9_accountAt z b x1 μ Q X)) (jRz jfR Q D z (jA z μ sz)) (jXCz X D z (jA z μ sz)) 1 6 (jA z μ sz) := by
  refine vx_ofW (cc := cX9_accountAt) (maxL := 2) (ret := (some (.object "CashPools$Account"))) (by decide) rfl ?_
  intro p e s m args below meth c s₁ B hml hno hv
  obtain ⟨rfl, hsz, hH, hz0, hK, hG, hw⟩ := hv
  subst hsz
  have hX : jX2 D z (jA z μ s.heap.size) p l s m _ meth c yX9_accountAt cX9_accountAt 2 wsX9_accountAt (some (.object "CashPools$Account")) := ⟨B.exec, B.bytes, hml, findClass_of_methodNamed B.named, atoms_spec (ws := wsX9_accountAt) B.pre, B.returns, B.notSynchronized, (name_of_methodNamed B.named B.method).1, hK, hG, hfl⟩
  obtain ⟨ls, hg, hl⟩ : ∃ ls : Array Slot, entryFrame m ([.ref b, .int x1] : List Value).toArray 2 = F0 m 0 ls [] ∧ lv_has ls 2 [(0, va_rf (some b)), (1, .int x1)] := by
    exact ⟨_, lg_entry_eq .., lv_entry _ (n := 2) (Nat.le_of_ble_eq_true rfl)⟩
  rw [hg]
  exact kX9_accountAt_0 hX hno hw (jIz.start hH hz0) (lv_sub hl [0, 1] rfl) (by decide) (by decide)
set_option maxHeartbeats 4000000 in
set_option maxRecDepth 100000 in
theorem kX3_openAccount_0 {b : Nat} (hX : jX2 D z A p l s m args meth c yX3_openAccount cX3_openAccount 5 wsX3_openAccount (some .int)) {Q : Int32 → jM → Prop}  {x1 : Option Nat} {x2 : Option Nat} {μ : jM} {H : Heap} {locs : List Loc} {ls : Array Slot} {cells slots : Nat} (hw : wX3_openAccount_0 z b Q x1 x2 μ) (hI : jIz D z A s.heap μ H locs) (hl : lv_has ls 5 [(0, va_rf (some b)), (1, va_rf x1), (2, va_rf x2)]) (hcn : cells + 5 ≤ 5) (hsn : slots + 111 ≤ 111) : W p l e rmX3_openAccount s m args below meth c H locs cells slots (MQ below (jRz jfI Q D z A) args s 5 111 A) (F0 m 0 ls []) := by
  unfold wX3_openAccount_0 at hw
  obtain ⟨hx, hb, hml, hown, hts, hr, hlocks, hnm, hK, hG, hfl⟩ := id hX
  have hown : s.vm.findClass RX3 = some m.cls := hown
  have hfX0 : ∀ w ∈ wsX00, w.before args s = true := fun w h => hts w (List.mem_cons_of_mem _ (List.mem_append_left _ (List.mem_append_left _ (List.mem_append_right _ h))))
  have hfX3 : ∀ w ∈ wsX30, w.before args s = true := fun w h => hts w (List.mem_cons_of_mem _ (List.mem_append_left _ (List.mem_append_left _ (List.mem_append_left _ (List.mem_append_right _ h)))))
  refine j_aload_n (r := (some b)) hx hb dX3_openAccount_0 rfl (lv_at hl 0 rfl) ?_
  obtain ⟨v1, hv1, hw⟩ := hw
  refine j_getz (C := RX3) (T := TX3) (N := 8) (ci := 6) (r := (some b)) (v := va_rf v1) hx hb hfX3 hown hK hI rfl 0 (by decide) (hts (.fieldLink RX3 12 "CashPools$Desk" "everyAccount" "Ljava/util/ArrayList;") (List.mem_of_getElem? (i := 1) (by decide +kernel))) (fun _ h => h) hv1 dX3_openAccount_1 ?_
  obtain ⟨b4, ⟨hrb4, hfs⟩, hw⟩ := hw
  refine j_goz hI (va_runV (As := []) (rest := []) ⟨hx, hb, hml, hown, hts⟩ (kJx4a65c_size_8abf5 l hfl D z b4  μ H.size _) (cwV 0 hts gX3_openAccount_Jx4a65c_size_8abf5 rfl rfl rfl (by decide +kernel) ⟨Nat.le_of_ble_eq_true rfl, Nat.le_of_ble_eq_true rfl⟩) (j_prV2z hK hG hI hw (ci := 2) rfl hfs) rfl rfl hl.1 (by rw [hrb4]; rfl) (lv_room (Nat.le_of_ble_eq_true rfl)) dX3_openAccount_4 ⟨by show _ ≤ 5; omega, by show _ ≤ 111; omega⟩) (fun v2 μ3 H locs hw hI => ?_)
  refine W.eq (g2 := F0 m 7 ls [.int v2]) rfl ?_
  refine j_istore_nA (r := x2) (F := fun w => [(0, va_rf (some b)), (1, va_rf x1), (2, w)]) (F2 := fun w => [(3, .int v2), (0, va_rf (some b)), (1, va_rf x1), (2, w)]) hx hb dX3_openAccount_7 rfl hl (by decide) (fun w hw => by rcases hw with rfl | ⟨_, rfl⟩ <;> rfl) (fun ls hl => ?_)
  refine j_newz (C := RX0) (T := TX0) (N := 12) (ci := 3) (fs := jfX0) hx hb hfX0 tyX0 tyX0_ok hown (hts (.classLink RX3 55 RX0) (List.mem_of_getElem? (i := 2) (by decide +kernel))) (hts (.instantiable RX0 12) (List.mem_of_getElem? (i := 3) (by decide +kernel))) (hts (.initialized RX0) (List.mem_of_getElem? (i := 4) (by decide +kernel))) hK hI rfl jdX0 (by show _ ≤ 5; omega) (by show _ ≤ 111; omega) dX3_openAccount_8 (fun q5 H hq5 hI => ?_)
  have hw := hw q5 hq5
  refine lv_dup hx hb dX3_openAccount_11 rfl ?_
  refine lv_iload_n hx hb dX3_openAccount_12 rfl (lv_at hl 0 rfl) ?_
  refine j_aload_n (r := x1) hx hb dX3_openAccount_13 rfl (lv_at hl 2 rfl) ?_
  refine j_aload_n (r := x1) hx hb dX3_openAccount_14 rfl (lv_at hl 2 rfl) ?_
  obtain ⟨v6, hv6, hw⟩ := hw
  refine j_getz (C := RX0) (T := TX0) (N := 12) (ci := 3) (r := x1) (v := va_rf v6) hx hb hfX0 hown hK hI rfl 2 (by decide) (hts (.fieldLink RX3 64 "CashPools$Account" "pool" "LCashPools$Pool;") (List.mem_of_getElem? (i := 5) (by decide +kernel))) (fun _ h => h) hv6 dX3_openAccount_15 ?_
  refine j_aload_n (r := x2) hx hb dX3_openAccount_18 rfl (lv_at hl 3 rfl) ?_
  refine j_goz hI (va_runI (As := [.int v2, va_rf x1, va_rf v6, va_rf x2]) (rest := [va_rf (some q5)]) ⟨hx, hb, hml, hown, hts⟩ (kX0_init l hfl D z q5 v2 x1 v6 x2 (va_up μ3 q5 (some (.inr (3, jfX0)))) H.size _) (cwI 4 hts gX3_openAccount_X0_init rfl rfl rfl (hts (.initialized RX0) (List.mem_of_getElem? (i := 4) (by decide +kernel))) (hts (.methodLink RX3 57 yX0_init) (List.mem_of_getElem? (i := 13) (by decide +kernel))) (hts (.instanceMethod yX0_init) (List.mem_of_getElem? (i := 14) (by decide +kernel))) rfl (by decide +kernel) ⟨Nat.le_of_ble_eq_true rfl, Nat.le_of_ble_eq_true rfl⟩) (j_prS2z hK hG hI hw) rfl rfl hl.1 rfl (lv_room (Nat.le_of_ble_eq_true rfl)) dX3_openAccount_19 ⟨by show _ ≤ 5; omega, by show _ ≤ 111; omega⟩) (fun u7 μ8 H locs hw hI => ?_)
  refine W.eq (g2 := F0 m 22 ls [va_rf (some q5)]) rfl ?_
  refine j_astore (r := (some q5)) (lv' := [(4, va_rf (some q5)), (3, .int v2), (0, va_rf (some b)), (1, va_rf x1), (2, va_rf x2)]) hx hb dX3_openAccount_22 hl (by decide) rfl (fun ls hl => ?_)
  refine j_aload_n (r := x1) hx hb dX3_openAccount_24 rfl (lv_at hl 3 rfl) ?_
  obtain ⟨v9, hv9, hw⟩ := hw
  refine j_getz (C := RX0) (T := TX0) (N := 12) (ci := 3) (r := x1) (v := va_rf v9) hx hb hfX0 hown hK hI rfl 4 (by decide) (hts (.fieldLink RX3 68 "CashPools$Account" "children" "Ljava/util/ArrayList;") (List.mem_of_getElem? (i := 6) (by decide +kernel))) (fun _ h => h) hv9 dX3_openAccount_25 ?_
  refine j_aload (r := (some q5)) hx hb dX3_openAccount_28 (lv_at hl 0 rfl) ?_
  obtain ⟨b12, ⟨hrb12, hfs⟩, hw⟩ := hw
  refine j_goz hI (va_runV (As := [va_rf (some q5)]) (rest := []) ⟨hx, hb, hml, hown, hts⟩ (kJx4a65c_add_9ea2d l hfl D z b12 (some q5) μ8 H.size _) (cwV 1 hts gX3_openAccount_Jx4a65c_add_9ea2d rfl rfl rfl (by decide +kernel) ⟨Nat.le_of_ble_eq_true rfl, Nat.le_of_ble_eq_true rfl⟩) (j_prV2z hK hG hI hw (ci := 2) rfl hfs) rfl rfl hl.1 (by rw [hrb12]; rfl) (lv_room (Nat.le_of_ble_eq_true rfl)) dX3_openAccount_30 ⟨by show _ ≤ 5; omega, by show _ ≤ 111; omega⟩) (fun v10 μ11 H locs hw hI => ?_)
  refine W.eq (g2 := F0 m 33 ls [.int v10]) rfl ?_
  refine lv_pop hx hb dX3_openAccount_33 rfl ?_
  refine j_aload_n (r := (some b)) hx hb dX3_openAccount_34 rfl (lv_at hl 2 rfl) ?_
  refine j_aload (r := (some q5)) hx hb dX3_openAccount_35 (lv_at hl 0 rfl) ?_
  obtain ⟨hfs, hw⟩ := hw
  refine j_goz hI (va_runV (As := [va_rf (some q5)]) (rest := []) ⟨hx, hb, hml, hown, hts⟩ (kX3_enter l hfl D z b (some q5) μ11 H.size _) (cwV 1 hts gX3_openAccount_X3_enter rfl rfl rfl (by decide +kernel) ⟨Nat.le_of_ble_eq_true rfl, Nat.le_of_ble_eq_true rfl⟩) (j_prV2z hK hG hI hw (ci := 6) rfl hfs) rfl rfl hl.1 rfl (lv_room (Nat.le_of_ble_eq_true rfl)) dX3_openAccount_37 ⟨by show _ ≤ 5; omega, by show _ ≤ 111; omega⟩) (fun u13 μ14 H locs hw hI => ?_)
  refine W.eq (g2 := F0 m 40 ls []) rfl ?_
  refine lv_iload_n hx hb dX3_openAccount_40 rfl (lv_at hl 1 rfl) ?_
  exact j_iretz hx hb hr hlocks hI hw (by omega) (by omega) dX3_openAccount_41
set_option maxHeartbeats 4000000 in
set_option maxRecDepth 100000 in
theorem kX3_openAccount (l : Launch) (hfl : l.stackTraces = false) (D : jD) (z : Nat × Nat) (b : Nat) (x1 : Option Nat) (x2 : Option Nat) (μ : jM) (sz : Nat) (Q : Int32 → jM → Prop) : Met l yX3_openAccount wsX3_openAccount rmX3_openAccount (jPre2z D z μ sz [.ref b, va_rf x1, va_rf x2] (wX3_openAccount z b x1 x2 μ Q)) (jRz jfI Q D z (jA z μ sz)) 5 111 (jA z μ sz) := by
  refine Met.ofW (cc := cX3_openAccount) (maxL := 5) (ret := (some .int)) (by decide) rfl ?_
  intro p e s m args below meth c s₁ B hml hv
  obtain ⟨rfl, hsz, hH, hz0, hK, hG, hw⟩ := hv
  subst hsz
  have hX : jX2 D z (jA z μ s.heap.size) p l s m _ meth c yX3_openAccount cX3_openAccount 5 wsX3_openAccount (some .int) := ⟨B.exec, B.bytes, hml, findClass_of_methodNamed B.named, atoms_spec (ws := wsX3_openAccount) B.pre, B.returns, B.notSynchronized, (name_of_methodNamed B.named B.method).1, hK, hG, hfl⟩
  obtain ⟨ls, hg, hl⟩ : ∃ ls : Array Slot, entryFrame m ([.ref b, va_rf x1, va_rf x2] : List Value).toArray 5 = F0 m 0 ls [] ∧ lv_has ls 5 [(0, va_rf (some b)), (1, va_rf x1), (2, va_rf x2)] := by
    cases x1 <;> cases x2 <;> exact ⟨_, lg_entry_eq .., lv_entry _ (n := 5) (Nat.le_of_ble_eq_true rfl)⟩
  rw [hg]
  exact kX3_openAccount_0 hX hw (jIz.start hH hz0) (lv_sub hl [0, 1, 2] rfl) (by decide) (by decide)
set_option maxHeartbeats 4000000 in
set_option maxRecDepth 100000 in
theorem kX9_addAccount_0 {b : Nat} (hX : jX2 D z A p l s m args meth c yX9_addAccount cX9_addAccount 5 wsX9_addAccount (some .int)) (hno : ∀ x ∈ c.exceptionTable.toList, False) {Q : Int32 → jM → Prop} {X : String → jM → Prop}  {x1 : Int32} {x2 : Int32} {μ : jM} {H : Heap} {locs : List Loc} {ls : Array Slot} {cells slots : Nat} (hw : wX9_addAccount_0 z b Q X x1 x2 μ) (hI : jIz D z A s.heap μ H locs) (hl : lv_has ls 5 [(0, va_rf (some b)), (1, .int x1), (2, .int x2)]) (hcn : cells + 8 ≤ 8) (hsn : slots + 129 ≤ 129) : W p l e rmX9_addAccount s m args below meth c H locs cells slots (vx_MQ below (jRz jfI Q D z A) (jXCz X D z A) args s 8 129 A) (F0 m 0 ls []) := by
  unfold wX9_addAccount_0 at hw
  obtain ⟨hx, hb, hml, hown, hts, hr, hlocks, hnm, hK, hG, hfl⟩ := id hX
  have hown : s.vm.findClass RX9 = some m.cls := hown
  have hfX9 : ∀ w ∈ wsX90, w.before args s = true := fun w h => hts w (List.mem_cons_of_mem _ (List.mem_append_left _ (List.mem_append_left _ (List.mem_append_left _ (List.mem_append_left _ (List.mem_append_left _ (List.mem_append_left _ (List.mem_append_left _ (List.mem_append_right _ h)))))))))
  refine j_aload_n (r := (some b)) hx hb dX9_addAccount_0 rfl (lv_at hl 0 rfl) ?_
  refine lv_iload_n hx hb dX9_addAccount_1 rfl (lv_at hl 1 rfl) ?_
  obtain ⟨hfs, hw⟩ := hw
  refine j_goXz hI (vx_runV (As := [.int x1]) (rest := []) ⟨hx, hb, hml, hown, hts⟩ (kX9_accountAt l hfl D z b x1 μ H.size _ _) (cwV 1 hts gX9_addAccount_X9_accountAt rfl rfl rfl (by decide +kernel) ⟨Nat.le_of_ble_eq_true rfl, Nat.le_of_ble_eq_true rfl⟩) (j_prV2z hK hG hI hw (ci := 11) rfl hfs) rfl rfl hl.1 rfl (lv_room (Nat.le_of_ble_eq_true rfl)) dX9_addAccount_2 ⟨by show _ ≤ 8; omega, by show _ ≤ 129; omega⟩) (fun E ce q9 μX H locs hw hI hce hcv hcl => ?_) (fun v1 μ2 H locs hw hI => ?_)
  · exact j_outz hno hlocks hI hce hcv hcl hw (by omega) (by omega)
  refine W.eq (g2 := F0 m 5 ls [va_rf v1]) rfl ?_
  refine j_astore_n (r := v1) (lv' := [(3, va_rf v1), (0, va_rf (some b)), (1, .int x1), (2, .int x2)]) hx hb dX9_addAccount_5 rfl hl (by decide) rfl (fun ls hl => ?_)
  refine j_aload_n (r := (some b)) hx hb dX9_addAccount_6 rfl (lv_at hl 1 rfl) ?_
  refine lv_iload_n hx hb dX9_addAccount_7 rfl (lv_at hl 3 rfl) ?_
  obtain ⟨hfs, hw⟩ := hw
  refine j_goXz hI (vx_runV (As := [.int x2]) (rest := []) ⟨hx, hb, hml, hown, hts⟩ (kX9_bankAt l hfl D z b x2 μ2 H.size _ _) (cwV 1 hts gX9_addAccount_X9_bankAt rfl rfl rfl (by decide +kernel) ⟨Nat.le_of_ble_eq_true rfl, Nat.le_of_ble_eq_true rfl⟩) (j_prV2z hK hG hI hw (ci := 11) rfl hfs) rfl rfl hl.1 rfl (lv_room (Nat.le_of_ble_eq_true rfl)) dX9_addAccount_8 ⟨by show _ ≤ 8; omega, by show _ ≤ 129; omega⟩) (fun E ce q9 μX H locs hw hI hce hcv hcl => ?_) (fun v3 μ4 H locs hw hI => ?_)
  · exact j_outz hno hlocks hI hce hcv hcl hw (by omega) (by omega)
  refine W.eq (g2 := F0 m 11 ls [va_rf v3]) rfl ?_
  refine j_astoreA (r := v1) (r0 := v3) (F := fun w => [(3, w), (0, va_rf (some b)), (1, .int x1), (2, .int x2)]) (F2 := fun w => [(4, va_rf v3), (3, w), (0, va_rf (some b)), (1, .int x1), (2, .int x2)]) hx hb dX9_addAccount_11 hl (by decide) (fun w hw => by rcases hw with rfl | ⟨_, rfl⟩ <;> rfl) (fun ls hl => ?_)
  refine j_aload_n (r := (some b)) hx hb dX9_addAccount_13 rfl (lv_at hl 2 rfl) ?_
  obtain ⟨hfs, hw⟩ := hw
  refine j_goXz hI (vx_runV (As := []) (rest := []) ⟨hx, hb, hml, hown, hts⟩ (kX9_requireAccountLeft l hfl D z b  μ4 H.size _ _) (cwV 0 hts gX9_addAccount_X9_requireAccountLeft rfl rfl rfl (by decide +kernel) ⟨Nat.le_of_ble_eq_true rfl, Nat.le_of_ble_eq_true rfl⟩) (j_prV2z hK hG hI hw (ci := 11) rfl hfs) rfl rfl hl.1 rfl (lv_room (Nat.le_of_ble_eq_true rfl)) dX9_addAccount_14 ⟨by show _ ≤ 8; omega, by show _ ≤ 129; omega⟩) (fun E ce q9 μX H locs hw hI hce hcv hcl => ?_) (fun u5 μ6 H locs hw hI => ?_)
  · exact j_outz hno hlocks hI hce hcv hcl hw (by omega) (by omega)
  refine W.eq (g2 := F0 m 17 ls []) rfl ?_
  refine j_aload_n (r := (some b)) hx hb dX9_addAccount_17 rfl (lv_at hl 2 rfl) ?_
  obtain ⟨v7, hv7, hw⟩ := hw
  refine j_getz (C := RX9) (T := TX9) (N := 1) (ci := 11) (r := (some b)) (v := va_rf v7) hx hb hfX9 hown hK hI rfl 0 (by decide) (hts (.fieldLink RX9 10 "CashPools" "desk" "LCashPools$Desk;") (List.mem_of_getElem? (i := 1) (by decide +kernel))) (fun _ h => h) hv7 dX9_addAccount_18 ?_
  refine j_aload_n (r := v1) hx hb dX9_addAccount_21 rfl (lv_at hl 1 rfl) ?_
  refine j_aload (r := v3) hx hb dX9_addAccount_22 (lv_at hl 0 rfl) ?_
  obtain ⟨b10, ⟨hrb10, hfs⟩, hw⟩ := hw
  refine j_goz hI (va_runV (As := [va_rf v1, va_rf v3]) (rest := []) ⟨hx, hb, hml, hown, hts⟩ (kX3_openAccount l hfl D z b10 v1 v3 μ6 H.size _) (cwV 2 hts gX9_addAccount_X3_openAccount rfl rfl rfl (by decide +kernel) ⟨Nat.le_of_ble_eq_true rfl, Nat.le_of_ble_eq_true rfl⟩) (j_prV2z hK hG hI hw (ci := 6) rfl hfs) rfl rfl hl.1 (by rw [hrb10]; rfl) (lv_room (Nat.le_of_ble_eq_true rfl)) dX9_addAccount_24 ⟨by show _ ≤ 8; omega, by show _ ≤ 129; omega⟩) (fun v8 μ9 H locs hw hI => ?_)
  refine W.eq (g2 := F0 m 27 ls [.int v8]) rfl ?_
  exact vx_ret (j_iretz hx hb hr hlocks hI hw (by omega) (by omega) dX9_addAccount_27)
set_option maxHeartbeats 4000000 in
set_option maxRecDepth 100000 in
theorem kX9_addAccount (l : Launch) (hfl : l.stackTraces = false) (D : jD) (z : Nat × Nat) (b : Nat) (x1 : Int32) (x2 : Int32) (μ : jM) (sz : Nat) (Q : Int32 → jM → Prop) (X : String → jM → Prop) : vx_Met l yX9_addAccount wsX9_addAccount rmX9_addAccount (jPre2z D z μ sz [.ref b, .int x1, .int x2] (wX9_addAccount z b x1 x2 μ Q X)) (jRz jfI Q D z (jA z μ sz)) (jXCz X D z (jA z μ sz)) 8 129 (jA z μ sz) := by
  refine vx_ofW (cc := cX9_addAccount) (maxL := 5) (ret := (some .int)) (by decide) rfl ?_
  intro p e s m args below meth c s₁ B hml hno hv
  obtain ⟨rfl, hsz, hH, hz0, hK, hG, hw⟩ := hv
  subst hsz
  have hX : jX2 D z (jA z μ s.heap.size) p l s m _ meth c yX9_addAccount cX9_addAccount 5 wsX9_addAccount (some .int) := ⟨B.exec, B.bytes, hml, findClass_of_methodNamed B.named, atoms_spec (ws := wsX9_addAccount) B.pre, B.returns, B.notSynchronized, (name_of_methodNamed B.named B.method).1, hK, hG, hfl⟩
  obtain ⟨ls, hg, hl⟩ : ∃ ls : Array Slot, entryFrame m ([.ref b, .int x1, .int x2] : List Value).toArray 5 = F0 m 0 ls [] ∧ lv_has ls 5 [(0, va_rf (some b)), (1, .int x1), (2, .int x2)] := by
    exact ⟨_, lg_entry_eq .., lv_entry _ (n := 5) (Nat.le_of_ble_eq_true rfl)⟩
  rw [hg]
  exact kX9_addAccount_0 hX hno hw (jIz.start hH hz0) (lv_sub hl [0, 1, 2] rfl) (by decide) (by decide)
set_option maxHeartbeats 4000000 in
set_option maxRecDepth 100000 in
theorem kL_addAccount_0 (hX : jX2 D z A p l s m args meth c yL_addAccount cL_addAccount 5 wsL_addAccount (some .int)) (htab : c.exceptionTable.toList = ([⟨0, 10, 13, 21⟩, ⟨0, 10, 17, 13⟩, ⟨0, 10, 21, 15⟩] : List ExceptionTableEntry)) {Q : Int32 → jM → Prop}  {x0 : Option Nat} {x1 : Int32} {x2 : Int32} {x3 : Option Nat} {μ : jM} {H : Heap} {locs : List Loc} {ls : Array Slot} {cells slots : Nat} (hw : wL_addAccount_0 z Q x0 x1 x2 x3 μ) (hI : jIz D z A s.heap μ H locs) (hl : lv_has ls 5 [(0, va_rf x0), (1, .int x1), (2, .int x2), (3, va_rf x3)]) (hcn : cells + 8 ≤ 8) (hsn : slots + 129 ≤ 129) : W p l e rmL_addAccount s m args below meth c H locs cells slots (vx_MQ below (jRz jfI Q D z A) (jXCz (fun _ _ => False) D z A) args s 8 129 A) (F0 m 0 ls []) := by
  unfold wL_addAccount_0 at hw
  obtain ⟨hx, hb, hml, hown, hts, hr, hlocks, hnm, hK, hG, hfl⟩ := id hX
  have hown : s.vm.findClass RL = some m.cls := hown
  refine j_aload_n (r := x3) hx hb dL_addAccount_0 rfl (lv_at hl 3 rfl) ?_
  refine lv_iconst (v := (0)) hx hb dL_addAccount_1 (by decide) ?_
  refine j_aload_n (r := x0) hx hb dL_addAccount_2 rfl (lv_at hl 0 rfl) ?_
  refine lv_iload_n hx hb dL_addAccount_3 rfl (lv_at hl 1 rfl) ?_
  refine lv_iload_n hx hb dL_addAccount_4 rfl (lv_at hl 2 rfl) ?_
  obtain ⟨b3, ⟨hrb3, hfs⟩, hw⟩ := hw
  refine j_goXz hI (vx_runV (As := [.int x1, .int x2]) (rest := [.int (0 : Int32), va_rf x3]) ⟨hx, hb, hml, hown, hts⟩ (kX9_addAccount l hfl D z b3 x1 x2 μ H.size _ _) (cwV 2 hts gL_addAccount_X9_addAccount rfl rfl rfl (by decide +kernel) ⟨Nat.le_of_ble_eq_true rfl, Nat.le_of_ble_eq_true rfl⟩) (j_prV2z hK hG hI hw (ci := 11) rfl hfs) rfl rfl hl.1 (by rw [hrb3]; rfl) (lv_room (by simp only [List.map, List.sum_cons, List.sum_nil, jrc, jci, jcl, jcr, jcn]; exact Nat.le_of_ble_eq_true rfl)) dL_addAccount_5 ⟨by show _ ≤ 8; omega, by show _ ≤ 129; omega⟩) (fun E ce q9 μX H locs hw hI hce hcv hcl => ?_) (fun v1 μ2 H locs hw hI => ?_)
  · rcases hw.2.2.2 with rfl | rfl | rfl
    · have hw := hw.1 rfl
      refine vx_catch hown [] ⟨0, 10, 13, 21⟩ [⟨0, 10, 17, 13⟩, ⟨0, 10, 21, 15⟩] (name := "java/lang/IndexOutOfBoundsException") htab (fun z hz => absurd hz List.not_mem_nil) (by decide) (by decide) (hts (.classLink RL 21 "java/lang/IndexOutOfBoundsException") (List.mem_of_getElem? (i := 1) (by decide +kernel))) (va_Nw.use rfl (hG.2.2.2.2.2.2.2.2.1 _ (by decide +kernel))) hce hcv hcl ?_
      refine W.eq (g2 := F0 m 13 ls [va_rf (some q9)]) rfl ?_
      refine j_astoreA (r := x3) (r0 := (some q9)) (F := fun w => [(0, va_rf x0), (1, .int x1), (2, .int x2), (3, w)]) (F2 := fun w => [(4, va_rf (some q9)), (0, va_rf x0), (1, .int x1), (2, .int x2), (3, w)]) hx hb dL_addAccount_13 hl (by decide) (fun w hw => by rcases hw with rfl | ⟨_, rfl⟩ <;> rfl) (fun ls hl => ?_)
      refine lv_iconst (v := (1)) hx hb dL_addAccount_15 (by decide) ?_
      exact vx_ret (j_iretz hx hb hr hlocks hI hw (by omega) (by omega) dL_addAccount_16)
    · have hw := hw.2.1 rfl
      refine vx_catch hown [⟨0, 10, 13, 21⟩] ⟨0, 10, 17, 13⟩ [⟨0, 10, 21, 15⟩] (name := "java/lang/IllegalArgumentException") htab (List.forall_mem_cons.mpr ⟨Or.inr ⟨by decide, "java/lang/IndexOutOfBoundsException", (hts (.classLink RL 21 "java/lang/IndexOutOfBoundsException") (List.mem_of_getElem? (i := 1) (by decide +kernel))), hG.2.2.2.2.2.2.2.2.2.1 _ (by decide +kernel) _ (by decide +kernel) (by decide +kernel)⟩, (fun z hz => absurd hz List.not_mem_nil)⟩) (by decide) (by decide) (hts (.classLink RL 13 "java/lang/IllegalArgumentException") (List.mem_of_getElem? (i := 2) (by decide +kernel))) (va_Nw.use rfl (hG.2.2.2.2.2.2.2.2.1 _ (by decide +kernel))) hce hcv hcl ?_
      refine W.eq (g2 := F0 m 17 ls [va_rf (some q9)]) rfl ?_
      refine j_astoreA (r := x3) (r0 := (some q9)) (F := fun w => [(0, va_rf x0), (1, .int x1), (2, .int x2), (3, w)]) (F2 := fun w => [(4, va_rf (some q9)), (0, va_rf x0), (1, .int x1), (2, .int x2), (3, w)]) hx hb dL_addAccount_17 hl (by decide) (fun w hw => by rcases hw with rfl | ⟨_, rfl⟩ <;> rfl) (fun ls hl => ?_)
      refine lv_iconst (v := (2)) hx hb dL_addAccount_19 (by decide) ?_
      exact vx_ret (j_iretz hx hb hr hlocks hI hw (by omega) (by omega) dL_addAccount_20)
    · have hw := hw.2.2.1 rfl
      refine vx_catch hown [⟨0, 10, 13, 21⟩, ⟨0, 10, 17, 13⟩] ⟨0, 10, 21, 15⟩ [] (name := "java/lang/IllegalStateException") htab (List.forall_mem_cons.mpr ⟨Or.inr ⟨by decide, "java/lang/IndexOutOfBoundsException", (hts (.classLink RL 21 "java/lang/IndexOutOfBoundsException") (List.mem_of_getElem? (i := 1) (by decide +kernel))), hG.2.2.2.2.2.2.2.2.2.1 _ (by decide +kernel) _ (by decide +kernel) (by decide +kernel)⟩, (List.forall_mem_cons.mpr ⟨Or.inr ⟨by decide, "java/lang/IllegalArgumentException", (hts (.classLink RL 13 "java/lang/IllegalArgumentException") (List.mem_of_getElem? (i := 2) (by decide +kernel))), hG.2.2.2.2.2.2.2.2.2.1 _ (by decide +kernel) _ (by decide +kernel) (by decide +kernel)⟩, (fun z hz => absurd hz List.not_mem_nil)⟩)⟩) (by decide) (by decide) (hts (.classLink RL 15 "java/lang/IllegalStateException") (List.mem_of_getElem? (i := 3) (by decide +kernel))) (va_Nw.use rfl (hG.2.2.2.2.2.2.2.2.1 _ (by decide +kernel))) hce hcv hcl ?_
      refine W.eq (g2 := F0 m 21 ls [va_rf (some q9)]) rfl ?_
      refine j_astoreA (r := x3) (r0 := (some q9)) (F := fun w => [(0, va_rf x0), (1, .int x1), (2, .int x2), (3, w)]) (F2 := fun w => [(4, va_rf (some q9)), (0, va_rf x0), (1, .int x1), (2, .int x2), (3, w)]) hx hb dL_addAccount_21 hl (by decide) (fun w hw => by rcases hw with rfl | ⟨_, rfl⟩ <;> rfl) (fun ls hl => ?_)
      refine lv_iconst (v := (3)) hx hb dL_addAccount_23 (by decide) ?_
      exact vx_ret (j_iretz hx hb hr hlocks hI hw (by omega) (by omega) dL_addAccount_24)
  refine W.eq (g2 := F0 m 8 ls [.int v1, .int (0 : Int32), va_rf x3]) rfl ?_
  refine lv_i2l hx hb dL_addAccount_8 rfl ?_
  obtain ⟨μ4, hμ4, hw⟩ := hw
  refine j_lastz (r := x3) hx hb hK hI hμ4 dL_addAccount_9 (fun H locs hI => ?_)
  refine lv_goto (tgt := 25) hx hb dL_addAccount_10 (by decide) ?_
  refine lv_iconst (v := (0)) hx hb dL_addAccount_25 (by decide) ?_
  exact vx_ret (j_iretz hx hb hr hlocks hI hw (by omega) (by omega) dL_addAccount_26)
set_option maxHeartbeats 4000000 in
set_option maxRecDepth 100000 in
theorem kL_addAccount (l : Launch) (hfl : l.stackTraces = false) (D : jD) (z : Nat × Nat) (x0 : Option Nat) (x1 : Int32) (x2 : Int32) (x3 : Option Nat) (μ : jM) (sz : Nat) (Q : Int32 → jM → Prop) : vx_Met l yL_addAccount wsL_addAccount rmL_addAccount (jPre2z D z μ sz [va_rf x0, .int x1, .int x2, va_rf x3] (wL_addAccount z x0 x1 x2 x3 μ Q)) (jRz jfI Q D z (jA z μ sz)) (jXCz (fun _ _ => False) D z (jA z μ sz)) 8 129 (jA z μ sz) := by
  refine vx_ofWH (cc := cL_addAccount) (maxL := 5) (ret := (some .int)) (by decide) rfl ?_
  intro p e s m args below meth c s₁ B hml hv
  obtain ⟨rfl, hsz, hH, hz0, hK, hG, hw⟩ := hv
  subst hsz
  have hX : jX2 D z (jA z μ s.heap.size) p l s m _ meth c yL_addAccount cL_addAccount 5 wsL_addAccount (some .int) := ⟨B.exec, B.bytes, hml, findClass_of_methodNamed B.named, atoms_spec (ws := wsL_addAccount) B.pre, B.returns, B.notSynchronized, (name_of_methodNamed B.named B.method).1, hK, hG, hfl⟩
  obtain ⟨ls, hg, hl⟩ : ∃ ls : Array Slot, entryFrame m ([va_rf x0, .int x1, .int x2, va_rf x3] : List Value).toArray 5 = F0 m 0 ls [] ∧ lv_has ls 5 [(0, va_rf x0), (1, .int x1), (2, .int x2), (3, va_rf x3)] := by
    cases x0 <;> cases x3 <;> exact ⟨_, lg_entry_eq .., lv_entry _ (n := 5) (Nat.le_of_ble_eq_true rfl)⟩
  rw [hg]
  exact kL_addAccount_0 hX ((vx_table (x := yL_addAccount) B (atoms_spec (ws := wsL_addAccount) B.pre _ (List.mem_of_getElem? (i := 0) rfl))).trans rfl) hw (jIz.start hH hz0) (lv_sub hl [0, 1, 2, 3] rfl) (by decide) (by decide)
set_option maxHeartbeats 4000000 in
set_option maxRecDepth 100000 in
theorem kX9_setRule_0 {b : Nat} (hX : jX2 D z A p l s m args meth c yX9_setRule cX9_setRule 6 wsX9_setRule (some .int)) (hno : ∀ x ∈ c.exceptionTable.toList, False) {Q : Int32 → jM → Prop} {X : String → jM → Prop}  {x1 : Int32} {x2 : Int32} {x3 : Int32} {μ : jM} {H : Heap} {locs : List Loc} {ls : Array Slot} {cells slots : Nat} (hw : wX9_setRule_0 z b Q X x1 x2 x3 μ) (hI : jIz D z A s.heap μ H locs) (hl : lv_has ls 6 [(0, va_rf (some b)), (1, .int x1), (2, .int x2), (3, .int x3)]) (hcn : cells + 4 ≤ 4) (hsn : slots + 24 ≤ 24) : W p l e rmX9_setRule s m args below meth c H locs cells slots (vx_MQ below (jRz jfI Q D z A) (jXCz X D z A) args s 4 24 A) (F0 m 0 ls []) := by
  unfold wX9_setRule_0 at hw
  obtain ⟨hx, hb, hml, hown, hts, hr, hlocks, hnm, hK, hG, hfl⟩ := id hX
  have hown : s.vm.findClass RX9 = some m.cls := hown
  have hfX0 : ∀ w ∈ wsX00, w.before args s = true := fun w h => hts w (List.mem_cons_of_mem _ (List.mem_append_left _ (List.mem_append_left _ (List.mem_append_left _ (List.mem_append_left _ (List.mem_append_left _ (List.mem_append_left _ (List.mem_append_right _ h))))))))
  refine j_aload_n (r := (some b)) hx hb dX9_setRule_0 rfl (lv_at hl 0 rfl) ?_
  refine lv_iload_n hx hb dX9_setRule_1 rfl (lv_at hl 1 rfl) ?_
  obtain ⟨hfs, hw⟩ := hw
  refine j_goXz hI (vx_runV (As := [.int x1]) (rest := []) ⟨hx, hb, hml, hown, hts⟩ (kX9_accountAt l hfl D z b x1 μ H.size _ _) (cwV 1 hts gX9_setRule_X9_accountAt rfl rfl rfl (by decide +kernel) ⟨Nat.le_of_ble_eq_true rfl, Nat.le_of_ble_eq_true rfl⟩) (j_prV2z hK hG hI hw (ci := 11) rfl hfs) rfl rfl hl.1 rfl (lv_room (Nat.le_of_ble_eq_true rfl)) dX9_setRule_2 ⟨by show _ ≤ 4; omega, by show _ ≤ 24; omega⟩) (fun E ce q9 μX H locs hw hI hce hcv hcl => ?_) (fun v1 μ2 H locs hw hI => ?_)
  · exact j_outz hno hlocks hI hce hcv hcl hw (by omega) (by omega)
  refine W.eq (g2 := F0 m 5 ls [va_rf v1]) rfl ?_
  refine j_astore (r := v1) (lv' := [(4, va_rf v1), (0, va_rf (some b)), (1, .int x1), (2, .int x2), (3, .int x3)]) hx hb dX9_setRule_5 hl (by decide) rfl (fun ls hl => ?_)
  refine lv_iload_n hx hb dX9_setRule_7 rfl (lv_at hl 3 rfl) ?_
  refine lv_iconst (v := (0)) hx hb dX9_setRule_8 (by decide) ?_
  refine lv_iconst (v := (3)) hx hb dX9_setRule_9 (by decide) ?_
  refine j_goXz hI (vx_runS (As := [.int x2, .int (0 : Int32), .int (3 : Int32)]) (rest := []) ⟨hx, hb, hml, hown, hts⟩ (kX9_requireWithin l hfl D z x2 (0 : Int32) (3 : Int32) μ2 H.size _ _) (va_cwS 3 hts gX9_setRule_X9_requireWithin rfl rfl rfl (by decide +kernel) ⟨Nat.le_of_ble_eq_true rfl, Nat.le_of_ble_eq_true rfl⟩) (j_prS2z hK hG hI hw) rfl rfl hl.1 rfl (lv_room (Nat.le_of_ble_eq_true rfl)) dX9_setRule_10 ⟨by show _ ≤ 4; omega, by show _ ≤ 24; omega⟩) (fun E ce q9 μX H locs hw hI hce hcv hcl => ?_) (fun u3 μ4 H locs hw hI => ?_)
  · exact j_outz hno hlocks hI hce hcv hcl hw (by omega) (by omega)
  refine W.eq (g2 := F0 m 13 ls []) rfl ?_
  refine lv_iload_n hx hb dX9_setRule_13 rfl (lv_at hl 4 rfl) ?_
  refine lv_ldc (v := (-1000000)) hx hb hown (hts (.constant RX9 39 (-1000000)) (List.mem_of_getElem? (i := 3) (by decide +kernel))) dX9_setRule_14 ?_
  refine lv_ldc (v := (1000000)) hx hb hown (hts (.constant RX9 40 (1000000)) (List.mem_of_getElem? (i := 4) (by decide +kernel))) dX9_setRule_16 ?_
  refine j_goXz hI (vx_runS (As := [.int x3, .int (-1000000 : Int32), .int (1000000 : Int32)]) (rest := []) ⟨hx, hb, hml, hown, hts⟩ (kX9_requireWithin l hfl D z x3 (-1000000 : Int32) (1000000 : Int32) μ4 H.size _ _) (va_cwS 3 hts gX9_setRule_X9_requireWithin rfl rfl rfl (by decide +kernel) ⟨Nat.le_of_ble_eq_true rfl, Nat.le_of_ble_eq_true rfl⟩) (j_prS2z hK hG hI hw) rfl rfl hl.1 rfl (lv_room (Nat.le_of_ble_eq_true rfl)) dX9_setRule_18 ⟨by show _ ≤ 4; omega, by show _ ≤ 24; omega⟩) (fun E ce q9 μX H locs hw hI hce hcv hcl => ?_) (fun u5 μ6 H locs hw hI => ?_)
  · exact j_outz hno hlocks hI hce hcv hcl hw (by omega) (by omega)
  refine W.eq (g2 := F0 m 21 ls []) rfl ?_
  refine j_aload (r := v1) hx hb dX9_setRule_21 (lv_at hl 0 rfl) ?_
  obtain ⟨v7, hv7, hw⟩ := hw
  refine j_getz (C := RX0) (T := TX0) (N := 12) (ci := 3) (r := v1) (v := va_rf v7) hx hb hfX0 hown hK hI rfl 1 (by decide) (hts (.fieldLink RX9 41 "CashPools$Account" "parent" "LCashPools$Account;") (List.mem_of_getElem? (i := 5) (by decide +kernel))) (fun _ h => h) hv7 dX9_setRule_23 ?_
  refine j_ifnonnull (r := v7) (tgt := 39) hx hb dX9_setRule_26 (by decide) (fun hc => ?_) (fun hc => ?_)
  · have hw := hw.1 hc
    refine j_aload (r := v1) hx hb dX9_setRule_39 (lv_at hl 0 rfl) ?_
    obtain ⟨v8, hv8, hw⟩ := hw
    refine j_getz (C := RX0) (T := TX0) (N := 12) (ci := 3) (r := v1) (v := .int v8) hx hb hfX0 hown hK hI rfl 5 (by decide) (hts (.fieldLink RX9 54 "CashPools$Account" "rule" "I") (List.mem_of_getElem? (i := 6) (by decide +kernel))) (fun _ h => h) hv8 dX9_setRule_41 ?_
    refine j_istoreA (r := v1) (F := fun w => [(4, w), (0, va_rf (some b)), (1, .int x1), (2, .int x2), (3, .int x3)]) (F2 := fun w => [(5, .int v8), (4, w), (0, va_rf (some b)), (1, .int x1), (2, .int x2), (3, .int x3)]) hx hb dX9_setRule_44 hl (by decide) (fun w hw => by rcases hw with rfl | ⟨_, rfl⟩ <;> rfl) (fun ls hl => ?_)
    refine j_aload (r := v1) hx hb dX9_setRule_46 (lv_at hl 1 rfl) ?_
    refine lv_iload_n hx hb dX9_setRule_48 rfl (lv_at hl 4 rfl) ?_
    obtain ⟨μ9, hμ9, hw⟩ := hw
    refine j_putz (C := RX0) (T := TX0) (N := 12) (ci := 3) (r := v1) (v := .int x2) hx hb hfX0 tyX0 tyX0_ok nmX0 hown hK hI rfl 5 (by decide) (hts (.fieldLink RX9 54 "CashPools$Account" "rule" "I") (List.mem_of_getElem? (i := 6) (by decide +kernel))) (fun _ h => h) rfl (tyX0_ok 5 (by decide)) rfl rfl hμ9 dX9_setRule_49 (fun H locs hI => ?_)
    refine j_aload (r := v1) hx hb dX9_setRule_52 (lv_at hl 1 rfl) ?_
    refine lv_iload_n hx hb dX9_setRule_54 rfl (lv_at hl 5 rfl) ?_
    obtain ⟨μ10, hμ10, hw⟩ := hw
    refine j_putz (C := RX0) (T := TX0) (N := 12) (ci := 3) (r := v1) (v := .int x3) hx hb hfX0 tyX0 tyX0_ok nmX0 hown hK hI rfl 6 (by decide) (hts (.fieldLink RX9 58 "CashPools$Account" "target" "I") (List.mem_of_getElem? (i := 7) (by decide +kernel))) (fun _ h => h) rfl (tyX0_ok 6 (by decide)) rfl rfl hμ10 dX9_setRule_55 (fun H locs hI => ?_)
    refine lv_iload hx hb dX9_setRule_58 (lv_at hl 0 rfl) ?_
    exact vx_ret (j_iretz hx hb hr hlocks hI hw (by omega) (by omega) dX9_setRule_60)
  · have hw := hw.2 hc
    exact j_throw2z (names := ["java/lang/RuntimeException", "java/lang/Exception"]) (cls := "java/lang/IllegalStateException") (text := "a top account has no rule") (ik := 47) (is := 49) (ic := 51) hx hb hno hfl hml hl.1 hown (by decide +kernel) (by decide +kernel) (hts (.classLink RX9 47 "java/lang/IllegalStateException") (List.mem_of_getElem? (i := 1) (by decide +kernel))) (hts (.initialized "java/lang/IllegalStateException") (List.mem_of_getElem? (i := 2) (by decide +kernel))) hG (by decide +kernel) (fun w h => hts w (List.mem_cons_of_mem _ (List.mem_append_left _ (List.mem_append_left _ (List.mem_append_right _ h))))) (by decide +kernel) (by decide +kernel) (by decide +kernel) dX9_setRule_29 dX9_setRule_32 dX9_setRule_33 dX9_setRule_35 dX9_setRule_38 (Nat.le_of_ble_eq_true rfl) (Nat.le_of_ble_eq_true rfl) (by show _ ≤ 4; omega) (by show _ ≤ 24; omega) hlocks hI hw (by omega) (by omega)
set_option maxHeartbeats 4000000 in
set_option maxRecDepth 100000 in
theorem kX9_setRule (l : Launch) (hfl : l.stackTraces = false) (D : jD) (z : Nat × Nat) (b : Nat) (x1 : Int32) (x2 : Int32) (x3 : Int32) (μ : jM) (sz : Nat) (Q : Int32 → jM → Prop) (X : String → jM → Prop) : vx_Met l yX9_setRule wsX9_setRule rmX9_setRule (jPre2z D z μ sz [.ref b, .int x1, .int x2, .int x3] (wX9_setRule z b x1 x2 x3 μ Q X)) (jRz jfI Q D z (jA z μ sz)) (jXCz X D z (jA z μ sz)) 4 24 (jA z μ sz) := by
  refine vx_ofW (cc := cX9_setRule) (maxL := 6) (ret := (some .int)) (by decide) rfl ?_
  intro p e s m args below meth c s₁ B hml hno hv
  obtain ⟨rfl, hsz, hH, hz0, hK, hG, hw⟩ := hv
  subst hsz
  have hX : jX2 D z (jA z μ s.heap.size) p l s m _ meth c yX9_setRule cX9_setRule 6 wsX9_setRule (some .int) := ⟨B.exec, B.bytes, hml, findClass_of_methodNamed B.named, atoms_spec (ws := wsX9_setRule) B.pre, B.returns, B.notSynchronized, (name_of_methodNamed B.named B.method).1, hK, hG, hfl⟩
  obtain ⟨ls, hg, hl⟩ : ∃ ls : Array Slot, entryFrame m ([.ref b, .int x1, .int x2, .int x3] : List Value).toArray 6 = F0 m 0 ls [] ∧ lv_has ls 6 [(0, va_rf (some b)), (1, .int x1), (2, .int x2), (3, .int x3)] := by
    exact ⟨_, lg_entry_eq .., lv_entry _ (n := 6) (Nat.le_of_ble_eq_true rfl)⟩
  rw [hg]
  exact kX9_setRule_0 hX hno hw (jIz.start hH hz0) (lv_sub hl [0, 1, 2, 3] rfl) (by decide) (by decide)
set_option maxHeartbeats 4000000 in
set_option maxRecDepth 100000 in
theorem kL_setRule_0 (hX : jX2 D z A p l s m args meth c yL_setRule cL_setRule 6 wsL_setRule (some .int)) (htab : c.exceptionTable.toList = ([⟨0, 12, 15, 21⟩, ⟨0, 12, 19, 13⟩, ⟨0, 12, 23, 15⟩] : List ExceptionTableEntry)) {Q : Int32 → jM → Prop}  {x0 : Option Nat} {x1 : Int32} {x2 : Int32} {x3 : Int32} {x4 : Option Nat} {μ : jM} {H : Heap} {locs : List Loc} {ls : Array Slot} {cells slots : Nat} (hw : wL_setRule_0 z Q x0 x1 x2 x3 x4 μ) (hI : jIz D z A s.heap μ H locs) (hl : lv_has ls 6 [(0, va_rf x0), (1, .int x1), (2, .int x2), (3, .int x3), (4, va_rf x4)]) (hcn : cells + 4 ≤ 4) (hsn : slots + 24 ≤ 24) : W p l e rmL_setRule s m args below meth c H locs cells slots (vx_MQ below (jRz jfI Q D z A) (jXCz (fun _ _ => False) D z A) args s 4 24 A) (F0 m 0 ls []) := by
  unfold wL_setRule_0 at hw
  obtain ⟨hx, hb, hml, hown, hts, hr, hlocks, hnm, hK, hG, hfl⟩ := id hX
  have hown : s.vm.findClass RL = some m.cls := hown
  refine j_aload (r := x4) hx hb dL_setRule_0 (lv_at hl 4 rfl) ?_
  refine lv_iconst (v := (0)) hx hb dL_setRule_2 (by decide) ?_
  refine j_aload_n (r := x0) hx hb dL_setRule_3 rfl (lv_at hl 0 rfl) ?_
  refine lv_iload_n hx hb dL_setRule_4 rfl (lv_at hl 1 rfl) ?_
  refine lv_iload_n hx hb dL_setRule_5 rfl (lv_at hl 2 rfl) ?_
  refine lv_iload_n hx hb dL_setRule_6 rfl (lv_at hl 3 rfl) ?_
  obtain ⟨b3, ⟨hrb3, hfs⟩, hw⟩ := hw
  refine j_goXz hI (vx_runV (As := [.int x1, .int x2, .int x3]) (rest := [.int (0 : Int32), va_rf x4]) ⟨hx, hb, hml, hown, hts⟩ (kX9_setRule l hfl D z b3 x1 x2 x3 μ H.size _ _) (cwV 3 hts gL_setRule_X9_setRule rfl rfl rfl (by decide +kernel) ⟨Nat.le_of_ble_eq_true rfl, Nat.le_of_ble_eq_true rfl⟩) (j_prV2z hK hG hI hw (ci := 11) rfl hfs) rfl rfl hl.1 (by rw [hrb3]; rfl) (lv_room (by simp only [List.map, List.sum_cons, List.sum_nil, jrc, jci, jcl, jcr, jcn]; exact Nat.le_of_ble_eq_true rfl)) dL_setRule_7 ⟨by show _ ≤ 4; omega, by show _ ≤ 24; omega⟩) (fun E ce q9 μX H locs hw hI hce hcv hcl => ?_) (fun v1 μ2 H locs hw hI => ?_)
  · rcases hw.2.2.2 with rfl | rfl | rfl
    · have hw := hw.1 rfl
      refine vx_catch hown [] ⟨0, 12, 15, 21⟩ [⟨0, 12, 19, 13⟩, ⟨0, 12, 23, 15⟩] (name := "java/lang/IndexOutOfBoundsException") htab (fun z hz => absurd hz List.not_mem_nil) (by decide) (by decide) (hts (.classLink RL 21 "java/lang/IndexOutOfBoundsException") (List.mem_of_getElem? (i := 1) (by decide +kernel))) (va_Nw.use rfl (hG.2.2.2.2.2.2.2.2.1 _ (by decide +kernel))) hce hcv hcl ?_
      refine W.eq (g2 := F0 m 15 ls [va_rf (some q9)]) rfl ?_
      refine j_astoreA (r := x4) (r0 := (some q9)) (F := fun w => [(0, va_rf x0), (1, .int x1), (2, .int x2), (3, .int x3), (4, w)]) (F2 := fun w => [(5, va_rf (some q9)), (0, va_rf x0), (1, .int x1), (2, .int x2), (3, .int x3), (4, w)]) hx hb dL_setRule_15 hl (by decide) (fun w hw => by rcases hw with rfl | ⟨_, rfl⟩ <;> rfl) (fun ls hl => ?_)
      refine lv_iconst (v := (1)) hx hb dL_setRule_17 (by decide) ?_
      exact vx_ret (j_iretz hx hb hr hlocks hI hw (by omega) (by omega) dL_setRule_18)
    · have hw := hw.2.1 rfl
      refine vx_catch hown [⟨0, 12, 15, 21⟩] ⟨0, 12, 19, 13⟩ [⟨0, 12, 23, 15⟩] (name := "java/lang/IllegalArgumentException") htab (List.forall_mem_cons.mpr ⟨Or.inr ⟨by decide, "java/lang/IndexOutOfBoundsException", (hts (.classLink RL 21 "java/lang/IndexOutOfBoundsException") (List.mem_of_getElem? (i := 1) (by decide +kernel))), hG.2.2.2.2.2.2.2.2.2.1 _ (by decide +kernel) _ (by decide +kernel) (by decide +kernel)⟩, (fun z hz => absurd hz List.not_mem_nil)⟩) (by decide) (by decide) (hts (.classLink RL 13 "java/lang/IllegalArgumentException") (List.mem_of_getElem? (i := 2) (by decide +kernel))) (va_Nw.use rfl (hG.2.2.2.2.2.2.2.2.1 _ (by decide +kernel))) hce hcv hcl ?_
      refine W.eq (g2 := F0 m 19 ls [va_rf (some q9)]) rfl ?_
      refine j_astoreA (r := x4) (r0 := (some q9)) (F := fun w => [(0, va_rf x0), (1, .int x1), (2, .int x2), (3, .int x3), (4, w)]) (F2 := fun w => [(5, va_rf (some q9)), (0, va_rf x0), (1, .int x1), (2, .int x2), (3, .int x3), (4, w)]) hx hb dL_setRule_19 hl (by decide) (fun w hw => by rcases hw with rfl | ⟨_, rfl⟩ <;> rfl) (fun ls hl => ?_)
      refine lv_iconst (v := (2)) hx hb dL_setRule_21 (by decide) ?_
      exact vx_ret (j_iretz hx hb hr hlocks hI hw (by omega) (by omega) dL_setRule_22)
    · have hw := hw.2.2.1 rfl
      refine vx_catch hown [⟨0, 12, 15, 21⟩, ⟨0, 12, 19, 13⟩] ⟨0, 12, 23, 15⟩ [] (name := "java/lang/IllegalStateException") htab (List.forall_mem_cons.mpr ⟨Or.inr ⟨by decide, "java/lang/IndexOutOfBoundsException", (hts (.classLink RL 21 "java/lang/IndexOutOfBoundsException") (List.mem_of_getElem? (i := 1) (by decide +kernel))), hG.2.2.2.2.2.2.2.2.2.1 _ (by decide +kernel) _ (by decide +kernel) (by decide +kernel)⟩, (List.forall_mem_cons.mpr ⟨Or.inr ⟨by decide, "java/lang/IllegalArgumentException", (hts (.classLink RL 13 "java/lang/IllegalArgumentException") (List.mem_of_getElem? (i := 2) (by decide +kernel))), hG.2.2.2.2.2.2.2.2.2.1 _ (by decide +kernel) _ (by decide +kernel) (by decide +kernel)⟩, (fun z hz => absurd hz List.not_mem_nil)⟩)⟩) (by decide) (by decide) (hts (.classLink RL 15 "java/lang/IllegalStateException") (List.mem_of_getElem? (i := 3) (by decide +kernel))) (va_Nw.use rfl (hG.2.2.2.2.2.2.2.2.1 _ (by decide +kernel))) hce hcv hcl ?_
      refine W.eq (g2 := F0 m 23 ls [va_rf (some q9)]) rfl ?_
      refine j_astoreA (r := x4) (r0 := (some q9)) (F := fun w => [(0, va_rf x0), (1, .int x1), (2, .int x2), (3, .int x3), (4, w)]) (F2 := fun w => [(5, va_rf (some q9)), (0, va_rf x0), (1, .int x1), (2, .int x2), (3, .int x3), (4, w)]) hx hb dL_setRule_23 hl (by decide) (fun w hw => by rcases hw with rfl | ⟨_, rfl⟩ <;> rfl) (fun ls hl => ?_)
      refine lv_iconst (v := (3)) hx hb dL_setRule_25 (by decide) ?_
      exact vx_ret (j_iretz hx hb hr hlocks hI hw (by omega) (by omega) dL_setRule_26)
  refine W.eq (g2 := F0 m 10 ls [.int v1, .int (0 : Int32), va_rf x4]) rfl ?_
  refine lv_i2l hx hb dL_setRule_10 rfl ?_
  obtain ⟨μ4, hμ4, hw⟩ := hw
  refine j_lastz (r := x4) hx hb hK hI hμ4 dL_setRule_11 (fun H locs hI => ?_)
  refine lv_goto (tgt := 27) hx hb dL_setRule_12 (by decide) ?_
  refine lv_iconst (v := (0)) hx hb dL_setRule_27 (by decide) ?_
  exact vx_ret (j_iretz hx hb hr hlocks hI hw (by omega) (by omega) dL_setRule_28)
set_option maxHeartbeats 4000000 in
set_option maxRecDepth 100000 in
theorem kL_setRule (l : Launch) (hfl : l.stackTraces = false) (D : jD) (z : Nat × Nat) (x0 : Option Nat) (x1 : Int32) (x2 : Int32) (x3 : Int32) (x4 : Option Nat) (μ : jM) (sz : Nat) (Q : Int32 → jM → Prop) : vx_Met l yL_setRule wsL_setRule rmL_setRule (jPre2z D z μ sz [va_rf x0, .int x1, .int x2, .int x3, va_rf x4] (wL_setRule z x0 x1 x2 x3 x4 μ Q)) (jRz jfI Q D z (jA z μ sz)) (jXCz (fun _ _ => False) D z (jA z μ sz)) 4 24 (jA z μ sz) := by
  refine vx_ofWH (cc := cL_setRule) (maxL := 6) (ret := (some .int)) (by decide) rfl ?_
  intro p e s m args below meth c s₁ B hml hv
  obtain ⟨rfl, hsz, hH, hz0, hK, hG, hw⟩ := hv
  subst hsz
  have hX : jX2 D z (jA z μ s.heap.size) p l s m _ meth c yL_setRule cL_setRule 6 wsL_setRule (some .int) := ⟨B.exec, B.bytes, hml, findClass_of_methodNamed B.named, atoms_spec (ws := wsL_setRule) B.pre, B.returns, B.notSynchronized, (name_of_methodNamed B.named B.method).1, hK, hG, hfl⟩
  obtain ⟨ls, hg, hl⟩ : ∃ ls : Array Slot, entryFrame m ([va_rf x0, .int x1, .int x2, .int x3, va_rf x4] : List Value).toArray 6 = F0 m 0 ls [] ∧ lv_has ls 6 [(0, va_rf x0), (1, .int x1), (2, .int x2), (3, .int x3), (4, va_rf x4)] := by
    cases x0 <;> cases x4 <;> exact ⟨_, lg_entry_eq .., lv_entry _ (n := 6) (Nat.le_of_ble_eq_true rfl)⟩
  rw [hg]
  exact kL_setRule_0 hX ((vx_table (x := yL_setRule) B (atoms_spec (ws := wsL_setRule) B.pre _ (List.mem_of_getElem? (i := 0) rfl))).trans rfl) hw (jIz.start hH hz0) (lv_sub hl [0, 1, 2, 3, 4] rfl) (by decide) (by decide)
set_option maxHeartbeats 4000000 in
set_option maxRecDepth 100000 in
theorem kX9_setFloor_0 {b : Nat} (hX : jX2 D z A p l s m args meth c yX9_setFloor cX9_setFloor 5 wsX9_setFloor (some .int)) (hno : ∀ x ∈ c.exceptionTable.toList, False) {Q : Int32 → jM → Prop} {X : String → jM → Prop}  {x1 : Int32} {x2 : Int32} {μ : jM} {H : Heap} {locs : List Loc} {ls : Array Slot} {cells slots : Nat} (hw : wX9_setFloor_0 z b Q X x1 x2 μ) (hI : jIz D z A s.heap μ H locs) (hl : lv_has ls 5 [(0, va_rf (some b)), (1, .int x1), (2, .int x2)]) (hcn : cells + 2 ≤ 2) (hsn : slots + 12 ≤ 12) : W p l e rmX9_setFloor s m args below meth c H locs cells slots (vx_MQ below (jRz jfI Q D z A) (jXCz X D z A) args s 2 12 A) (F0 m 0 ls []) := by
  unfold wX9_setFloor_0 at hw
  obtain ⟨hx, hb, hml, hown, hts, hr, hlocks, hnm, hK, hG, hfl⟩ := id hX
  have hown : s.vm.findClass RX9 = some m.cls := hown
  have hfX0 : ∀ w ∈ wsX00, w.before args s = true := fun w h => hts w (List.mem_cons_of_mem _ (List.mem_append_left _ (List.mem_append_left _ (List.mem_append_left _ (List.mem_append_left _ (List.mem_append_left _ (List.mem_append_right _ h)))))))
  refine j_aload_n (r := (some b)) hx hb dX9_setFloor_0 rfl (lv_at hl 0 rfl) ?_
  refine lv_iload_n hx hb dX9_setFloor_1 rfl (lv_at hl 1 rfl) ?_
  obtain ⟨hfs, hw⟩ := hw
  refine j_goXz hI (vx_runV (As := [.int x1]) (rest := []) ⟨hx, hb, hml, hown, hts⟩ (kX9_accountAt l hfl D z b x1 μ H.size _ _) (cwV 1 hts gX9_setFloor_X9_accountAt rfl rfl rfl (by decide +kernel) ⟨Nat.le_of_ble_eq_true rfl, Nat.le_of_ble_eq_true rfl⟩) (j_prV2z hK hG hI hw (ci := 11) rfl hfs) rfl rfl hl.1 rfl (lv_room (Nat.le_of_ble_eq_true rfl)) dX9_setFloor_2 ⟨by show _ ≤ 2; omega, by show _ ≤ 12; omega⟩) (fun E ce q9 μX H locs hw hI hce hcv hcl => ?_) (fun v1 μ2 H locs hw hI => ?_)
  · exact j_outz hno hlocks hI hce hcv hcl hw (by omega) (by omega)
  refine W.eq (g2 := F0 m 5 ls [va_rf v1]) rfl ?_
  refine j_astore_n (r := v1) (lv' := [(3, va_rf v1), (0, va_rf (some b)), (1, .int x1), (2, .int x2)]) hx hb dX9_setFloor_5 rfl hl (by decide) rfl (fun ls hl => ?_)
  refine lv_iload_n hx hb dX9_setFloor_6 rfl (lv_at hl 3 rfl) ?_
  refine lv_ldc (v := (-1000000)) hx hb hown (hts (.constant RX9 39 (-1000000)) (List.mem_of_getElem? (i := 1) (by decide +kernel))) dX9_setFloor_7 ?_
  refine lv_ldc (v := (1000000)) hx hb hown (hts (.constant RX9 40 (1000000)) (List.mem_of_getElem? (i := 2) (by decide +kernel))) dX9_setFloor_9 ?_
  refine j_goXz hI (vx_runS (As := [.int x2, .int (-1000000 : Int32), .int (1000000 : Int32)]) (rest := []) ⟨hx, hb, hml, hown, hts⟩ (kX9_requireWithin l hfl D z x2 (-1000000 : Int32) (1000000 : Int32) μ2 H.size _ _) (va_cwS 3 hts gX9_setFloor_X9_requireWithin rfl rfl rfl (by decide +kernel) ⟨Nat.le_of_ble_eq_true rfl, Nat.le_of_ble_eq_true rfl⟩) (j_prS2z hK hG hI hw) rfl rfl hl.1 rfl (lv_room (Nat.le_of_ble_eq_true rfl)) dX9_setFloor_11 ⟨by show _ ≤ 2; omega, by show _ ≤ 12; omega⟩) (fun E ce q9 μX H locs hw hI hce hcv hcl => ?_) (fun u3 μ4 H locs hw hI => ?_)
  · exact j_outz hno hlocks hI hce hcv hcl hw (by omega) (by omega)
  refine W.eq (g2 := F0 m 14 ls []) rfl ?_
  refine j_aload_n (r := v1) hx hb dX9_setFloor_14 rfl (lv_at hl 0 rfl) ?_
  obtain ⟨v5, hv5, hw⟩ := hw
  refine j_getz (C := RX0) (T := TX0) (N := 12) (ci := 3) (r := v1) (v := .int v5) hx hb hfX0 hown hK hI rfl 7 (by decide) (hts (.fieldLink RX9 61 "CashPools$Account" "floor" "I") (List.mem_of_getElem? (i := 3) (by decide +kernel))) (fun _ h => h) hv5 dX9_setFloor_15 ?_
  refine j_istoreA (r := v1) (F := fun w => [(3, w), (0, va_rf (some b)), (1, .int x1), (2, .int x2)]) (F2 := fun w => [(4, .int v5), (3, w), (0, va_rf (some b)), (1, .int x1), (2, .int x2)]) hx hb dX9_setFloor_18 hl (by decide) (fun w hw => by rcases hw with rfl | ⟨_, rfl⟩ <;> rfl) (fun ls hl => ?_)
  refine j_aload_n (r := v1) hx hb dX9_setFloor_20 rfl (lv_at hl 1 rfl) ?_
  refine lv_iload_n hx hb dX9_setFloor_21 rfl (lv_at hl 4 rfl) ?_
  obtain ⟨μ6, hμ6, hw⟩ := hw
  refine j_putz (C := RX0) (T := TX0) (N := 12) (ci := 3) (r := v1) (v := .int x2) hx hb hfX0 tyX0 tyX0_ok nmX0 hown hK hI rfl 7 (by decide) (hts (.fieldLink RX9 61 "CashPools$Account" "floor" "I") (List.mem_of_getElem? (i := 3) (by decide +kernel))) (fun _ h => h) rfl (tyX0_ok 7 (by decide)) rfl rfl hμ6 dX9_setFloor_22 (fun H locs hI => ?_)
  refine lv_iload hx hb dX9_setFloor_25 (lv_at hl 0 rfl) ?_
  exact vx_ret (j_iretz hx hb hr hlocks hI hw (by omega) (by omega) dX9_setFloor_27)
set_option maxHeartbeats 4000000 in
set_option maxRecDepth 100000 in
theorem kX9_setFloor (l : Launch) (hfl : l.stackTraces = false) (D : jD) (z : Nat × Nat) (b : Nat) (x1 : Int32) (x2 : Int32) (μ : jM) (sz : Nat) (Q : Int32 → jM → Prop) (X : String → jM → Prop) : vx_Met l yX9_setFloor wsX9_setFloor rmX9_setFloor (jPre2z D z μ sz [.ref b, .int x1, .int x2] (wX9_setFloor z b x1 x2 μ Q X)) (jRz jfI Q D z (jA z μ sz)) (jXCz X D z (jA z μ sz)) 2 12 (jA z μ sz) := by
  refine vx_ofW (cc := cX9_setFloor) (maxL := 5) (ret := (some .int)) (by decide) rfl ?_
  intro p e s m args below meth c s₁ B hml hno hv
  obtain ⟨rfl, hsz, hH, hz0, hK, hG, hw⟩ := hv
  subst hsz
  have hX : jX2 D z (jA z μ s.heap.size) p l s m _ meth c yX9_setFloor cX9_setFloor 5 wsX9_setFloor (some .int) := ⟨B.exec, B.bytes, hml, findClass_of_methodNamed B.named, atoms_spec (ws := wsX9_setFloor) B.pre, B.returns, B.notSynchronized, (name_of_methodNamed B.named B.method).1, hK, hG, hfl⟩
  obtain ⟨ls, hg, hl⟩ : ∃ ls : Array Slot, entryFrame m ([.ref b, .int x1, .int x2] : List Value).toArray 5 = F0 m 0 ls [] ∧ lv_has ls 5 [(0, va_rf (some b)), (1, .int x1), (2, .int x2)] := by
    exact ⟨_, lg_entry_eq .., lv_entry _ (n := 5) (Nat.le_of_ble_eq_true rfl)⟩
  rw [hg]
  exact kX9_setFloor_0 hX hno hw (jIz.start hH hz0) (lv_sub hl [0, 1, 2] rfl) (by decide) (by decide)
set_option maxHeartbeats 4000000 in
set_option maxRecDepth 100000 in
theorem kL_setFloor_0 (hX : jX2 D z A p l s m args meth c yL_setFloor cL_setFloor 5 wsL_setFloor (some .int)) (htab : c.exceptionTable.toList = ([⟨0, 10, 13, 21⟩, ⟨0, 10, 17, 13⟩] : List ExceptionTableEntry)) {Q : Int32 → jM → Prop}  {x0 : Option Nat} {x1 : Int32} {x2 : Int32} {x3 : Option Nat} {μ : jM} {H : Heap} {locs : List Loc} {ls : Array Slot} {cells slots : Nat} (hw : wL_setFloor_0 z Q x0 x1 x2 x3 μ) (hI : jIz D z A s.heap μ H locs) (hl : lv_has ls 5 [(0, va_rf x0), (1, .int x1), (2, .int x2), (3, va_rf x3)]) (hcn : cells + 2 ≤ 2) (hsn : slots + 12 ≤ 12) : W p l e rmL_setFloor s m args below meth c H locs cells slots (vx_MQ below (jRz jfI Q D z A) (jXCz (fun _ _ => False) D z A) args s 2 12 A) (F0 m 0 ls []) := by
  unfold wL_setFloor_0 at hw
  obtain ⟨hx, hb, hml, hown, hts, hr, hlocks, hnm, hK, hG, hfl⟩ := id hX
  have hown : s.vm.findClass RL = some m.cls := hown
  refine j_aload_n (r := x3) hx hb dL_setFloor_0 rfl (lv_at hl 3 rfl) ?_
  refine lv_iconst (v := (0)) hx hb dL_setFloor_1 (by decide) ?_
  refine j_aload_n (r := x0) hx hb dL_setFloor_2 rfl (lv_at hl 0 rfl) ?_
  refine lv_iload_n hx hb dL_setFloor_3 rfl (lv_at hl 1 rfl) ?_
  refine lv_iload_n hx hb dL_setFloor_4 rfl (lv_at hl 2 rfl) ?_
  obtain ⟨b3, ⟨hrb3, hfs⟩, hw⟩ := hw
  refine j_goXz hI (vx_runV (As := [.int x1, .int x2]) (rest := [.int (0 : Int32), va_rf x3]) ⟨hx, hb, hml, hown, hts⟩ (kX9_setFloor l hfl D z b3 x1 x2 μ H.size _ _) (cwV 2 hts gL_setFloor_X9_setFloor rfl rfl rfl (by decide +kernel) ⟨Nat.le_of_ble_eq_true rfl, Nat.le_of_ble_eq_true rfl⟩) (j_prV2z hK hG hI hw (ci := 11) rfl hfs) rfl rfl hl.1 (by rw [hrb3]; rfl) (lv_room (by simp only [List.map, List.sum_cons, List.sum_nil, jrc, jci, jcl, jcr, jcn]; exact Nat.le_of_ble_eq_true rfl)) dL_setFloor_5 ⟨by show _ ≤ 2; omega, by show _ ≤ 12; omega⟩) (fun E ce q9 μX H locs hw hI hce hcv hcl => ?_) (fun v1 μ2 H locs hw hI => ?_)
  · rcases hw.2.2 with rfl | rfl
    · have hw := hw.1 rfl
      refine vx_catch hown [] ⟨0, 10, 13, 21⟩ [⟨0, 10, 17, 13⟩] (name := "java/lang/IndexOutOfBoundsException") htab (fun z hz => absurd hz List.not_mem_nil) (by decide) (by decide) (hts (.classLink RL 21 "java/lang/IndexOutOfBoundsException") (List.mem_of_getElem? (i := 1) (by decide +kernel))) (va_Nw.use rfl (hG.2.2.2.2.2.2.2.2.1 _ (by decide +kernel))) hce hcv hcl ?_
      refine W.eq (g2 := F0 m 13 ls [va_rf (some q9)]) rfl ?_
      refine j_astoreA (r := x3) (r0 := (some q9)) (F := fun w => [(0, va_rf x0), (1, .int x1), (2, .int x2), (3, w)]) (F2 := fun w => [(4, va_rf (some q9)), (0, va_rf x0), (1, .int x1), (2, .int x2), (3, w)]) hx hb dL_setFloor_13 hl (by decide) (fun w hw => by rcases hw with rfl | ⟨_, rfl⟩ <;> rfl) (fun ls hl => ?_)
      refine lv_iconst (v := (1)) hx hb dL_setFloor_15 (by decide) ?_
      exact vx_ret (j_iretz hx hb hr hlocks hI hw (by omega) (by omega) dL_setFloor_16)
    · have hw := hw.2.1 rfl
      refine vx_catch hown [⟨0, 10, 13, 21⟩] ⟨0, 10, 17, 13⟩ [] (name := "java/lang/IllegalArgumentException") htab (List.forall_mem_cons.mpr ⟨Or.inr ⟨by decide, "java/lang/IndexOutOfBoundsException", (hts (.classLink RL 21 "java/lang/IndexOutOfBoundsException") (List.mem_of_getElem? (i := 1) (by decide +kernel))), hG.2.2.2.2.2.2.2.2.2.1 _ (by decide +kernel) _ (by decide +kernel) (by decide +kernel)⟩, (fun z hz => absurd hz List.not_mem_nil)⟩) (by decide) (by decide) (hts (.classLink RL 13 "java/lang/IllegalArgumentException") (List.mem_of_getElem? (i := 2) (by decide +kernel))) (va_Nw.use rfl (hG.2.2.2.2.2.2.2.2.1 _ (by decide +kernel))) hce hcv hcl ?_
      refine W.eq (g2 := F0 m 17 ls [va_rf (some q9)]) rfl ?_
      refine j_astoreA (r := x3) (r0 := (some q9)) (F := fun w => [(0, va_rf x0), (1, .int x1), (2, .int x2), (3, w)]) (F2 := fun w => [(4, va_rf (some q9)), (0, va_rf x0), (1, .int x1), (2, .int x2), (3, w)]) hx hb dL_setFloor_17 hl (by decide) (fun w hw => by rcases hw with rfl | ⟨_, rfl⟩ <;> rfl) (fun ls hl => ?_)
      refine lv_iconst (v := (2)) hx hb dL_setFloor_19 (by decide) ?_
      exact vx_ret (j_iretz hx hb hr hlocks hI hw (by omega) (by omega) dL_setFloor_20)
  refine W.eq (g2 := F0 m 8 ls [.int v1, .int (0 : Int32), va_rf x3]) rfl ?_
  refine lv_i2l hx hb dL_setFloor_8 rfl ?_
  obtain ⟨μ4, hμ4, hw⟩ := hw
  refine j_lastz (r := x3) hx hb hK hI hμ4 dL_setFloor_9 (fun H locs hI => ?_)
  refine lv_goto (tgt := 21) hx hb dL_setFloor_10 (by decide) ?_
  refine lv_iconst (v := (0)) hx hb dL_setFloor_21 (by decide) ?_
  exact vx_ret (j_iretz hx hb hr hlocks hI hw (by omega) (by omega) dL_setFloor_22)
set_option maxHeartbeats 4000000 in
set_option maxRecDepth 100000 in
theorem kL_setFloor (l : Launch) (hfl : l.stackTraces = false) (D : jD) (z : Nat × Nat) (x0 : Option Nat) (x1 : Int32) (x2 : Int32) (x3 : Option Nat) (μ : jM) (sz : Nat) (Q : Int32 → jM → Prop) : vx_Met l yL_setFloor wsL_setFloor rmL_setFloor (jPre2z D z μ sz [va_rf x0, .int x1, .int x2, va_rf x3] (wL_setFloor z x0 x1 x2 x3 μ Q)) (jRz jfI Q D z (jA z μ sz)) (jXCz (fun _ _ => False) D z (jA z μ sz)) 2 12 (jA z μ sz) := by
  refine vx_ofWH (cc := cL_setFloor) (maxL := 5) (ret := (some .int)) (by decide) rfl ?_
  intro p e s m args below meth c s₁ B hml hv
  obtain ⟨rfl, hsz, hH, hz0, hK, hG, hw⟩ := hv
  subst hsz
  have hX : jX2 D z (jA z μ s.heap.size) p l s m _ meth c yL_setFloor cL_setFloor 5 wsL_setFloor (some .int) := ⟨B.exec, B.bytes, hml, findClass_of_methodNamed B.named, atoms_spec (ws := wsL_setFloor) B.pre, B.returns, B.notSynchronized, (name_of_methodNamed B.named B.method).1, hK, hG, hfl⟩
  obtain ⟨ls, hg, hl⟩ : ∃ ls : Array Slot, entryFrame m ([va_rf x0, .int x1, .int x2, va_rf x3] : List Value).toArray 5 = F0 m 0 ls [] ∧ lv_has ls 5 [(0, va_rf x0), (1, .int x1), (2, .int x2), (3, va_rf x3)] := by
    cases x0 <;> cases x3 <;> exact ⟨_, lg_entry_eq .., lv_entry _ (n := 5) (Nat.le_of_ble_eq_true rfl)⟩
  rw [hg]
  exact kL_setFloor_0 hX ((vx_table (x := yL_setFloor) B (atoms_spec (ws := wsL_setFloor) B.pre _ (List.mem_of_getElem? (i := 0) rfl))).trans rfl) hw (jIz.start hH hz0) (lv_sub hl [0, 1, 2, 3] rfl) (by decide) (by decide)
set_option maxHeartbeats 4000000 in
set_option maxRecDepth 100000 in
theorem kX9_requireTop_0 (hX : jX2 D z A p l s m args meth c yX9_requireTop cX9_requireTop 1 wsX9_requireTop none) (hno : ∀ x ∈ c.exceptionTable.toList, False) {Q : Unit → jM → Prop} {X : String → jM → Prop}  {x0 : Option Nat} {μ : jM} {H : Heap} {locs : List Loc} {ls : Array Slot} {cells slots : Nat} (hw : wX9_requireTop_0 z Q X x0 μ) (hI : jIz D z A s.heap μ H locs) (hl : lv_has ls 1 [(0, va_rf x0)]) (hcn : cells + 1 ≤ 1) (hsn : slots + 6 ≤ 6) : W p l e rmX9_requireTop s m args below meth c H locs cells slots (vx_MQ below (jRz jfV Q D z A) (jXCz X D z A) args s 1 6 A) (F0 m 0 ls []) := by
  unfold wX9_requireTop_0 at hw
  obtain ⟨hx, hb, hml, hown, hts, hr, hlocks, hnm, hK, hG, hfl⟩ := id hX
  have hown : s.vm.findClass RX9 = some m.cls := hown
  have hfX0 : ∀ w ∈ wsX00, w.before args s = true := fun w h => hts w (List.mem_cons_of_mem _ (List.mem_append_left _ (List.mem_append_right _ h)))
  refine j_aload_n (r := x0) hx hb dX9_requireTop_0 rfl (lv_at hl 0 rfl) ?_
  obtain ⟨v1, hv1, hw⟩ := hw
  refine j_getz (C := RX0) (T := TX0) (N := 12) (ci := 3) (r := x0) (v := va_rf v1) hx hb hfX0 hown hK hI rfl 1 (by decide) (hts (.fieldLink RX9 41 "CashPools$Account" "parent" "LCashPools$Account;") (List.mem_of_getElem? (i := 3) (by decide +kernel))) (fun _ h => h) hv1 dX9_requireTop_1 ?_
  refine j_ifnull (r := v1) (tgt := 17) hx hb dX9_requireTop_4 (by decide) (fun hc => ?_) (fun hc => ?_)
  · have hw := hw.1 hc
    exact vx_ret (j_vretz hx hb hr hlocks hI hw (by omega) (by omega) dX9_requireTop_17)
  · have hw := hw.2 hc
    exact j_throw2z (names := ["java/lang/RuntimeException", "java/lang/Exception"]) (cls := "java/lang/IllegalStateException") (text := "this is no top account") (ik := 47) (is := 219) (ic := 51) hx hb hno hfl hml hl.1 hown (by decide +kernel) (by decide +kernel) (hts (.classLink RX9 47 "java/lang/IllegalStateException") (List.mem_of_getElem? (i := 1) (by decide +kernel))) (hts (.initialized "java/lang/IllegalStateException") (List.mem_of_getElem? (i := 2) (by decide +kernel))) hG (by decide +kernel) (fun w h => hts w (List.mem_cons_of_mem _ (List.mem_append_right _ h))) (by decide +kernel) (by decide +kernel) (by decide +kernel) dX9_requireTop_7 dX9_requireTop_10 dX9_requireTop_11 dX9_requireTop_13 dX9_requireTop_16 (Nat.le_of_ble_eq_true rfl) (Nat.le_of_ble_eq_true rfl) (by show _ ≤ 1; omega) (by show _ ≤ 6; omega) hlocks hI hw (by omega) (by omega)
set_option maxHeartbeats 4000000 in
set_option maxRecDepth 100000 in
theorem kX9_requireTop (l : Launch) (hfl : l.stackTraces = false) (D : jD) (z : Nat × Nat) (x0 : Option Nat) (μ : jM) (sz : Nat) (Q : Unit → jM → Prop) (X : String → jM → Prop) : vx_Met l yX9_requireTop wsX9_requireTop rmX9_requireTop (jPre2z D z μ sz [va_rf x0] (wX9_requireTop z x0 μ Q X)) (jRz jfV Q D z (jA z μ sz)) (jXCz X D z (jA z μ sz)) 1 6 (jA z μ sz) := by
  refine vx_ofW (cc := cX9_requireTop) (maxL := 1) (ret := none) (by decide) rfl ?_
  intro p e s m args below meth c s₁ B hml hno hv
  obtain ⟨rfl, hsz, hH, hz0, hK, hG, hw⟩ := hv
  subst hsz
  have hX : jX2 D z (jA z μ s.heap.size) p l s m _ meth c yX9_requireTop cX9_requireTop 1 wsX9_requireTop none := ⟨B.exec, B.bytes, hml, findClass_of_methodNamed B.named, atoms_spec (ws := wsX9_requireTop) B.pre, B.returns, B.notSynchronized, (name_of_methodNamed B.named B.method).1, hK, hG, hfl⟩
  obtain ⟨ls, hg, hl⟩ : ∃ ls : Array Slot, entryFrame m ([va_rf x0] : List Value).toArray 1 = F0 m 0 ls [] ∧ lv_has ls 1 [(0, va_rf x0)] := by
    cases x0 <;> exact ⟨_, lg_entry_eq .., lv_entry _ (n := 1) (Nat.le_of_ble_eq_true rfl)⟩
  rw [hg]
  exact kX9_requireTop_0 hX hno hw (jIz.start hH hz0) (lv_sub hl [0] rfl) (by decide) (by decide)
set_option maxHeartbeats 4000000 in
set_option maxRecDepth 100000 in
theorem kX5_init_0 {b : Nat} (hX : jX2 D z A p l s m args meth c yX5_init cX5_init 4 wsX5_init none) {Q : Unit → jM → Prop}  {x1 : Option Nat} {x2 : Int32} {x3 : Int32} {μ : jM} {H : Heap} {locs : List Loc} {ls : Array Slot} {cells slots : Nat} (hw : wX5_init_0 z b Q x1 x2 x3 μ) (hI : jIz D z A s.heap μ H locs) (hl : lv_has ls 4 [(0, va_rf (some b)), (1, va_rf x1), (2, .int x2), (3, .int x3)]) (hcn : cells + 0 ≤ 0) (hsn : slots + 0 ≤ 0) : W p l e rmX5_init s m args below meth c H locs cells slots (MQ below (jRz jfV Q D z A) args s 0 0 A) (F0 m 0 ls []) := by
  unfold wX5_init_0 at hw
  obtain ⟨hx, hb, hml, hown, hts, hr, hlocks, hnm, hK, hG, hfl⟩ := id hX
  have hown : s.vm.findClass RX5 = some m.cls := hown
  have hfX5 : ∀ w ∈ wsX50, w.before args s = true := fun w h => hts w (List.mem_cons_of_mem _ (List.mem_append_right _ h))
  refine j_aload_n (r := (some b)) hx hb dX5_init_0 rfl (lv_at hl 0 rfl) ?_
  refine W.objInit hx hb hown (hts (.methodLink RX5 3 objectInit) (List.mem_of_getElem? (i := 1) (by decide +kernel))) (hts (.instanceMethod objectInit) (List.mem_of_getElem? (i := 2) (by decide +kernel))) (hts (.code objectInit ⟨#[0xb1]⟩ 1 none) (List.mem_of_getElem? (i := 3) (by decide +kernel))) rfl (by rw [hml]; exact hl.1) rfl dX5_init_1 (Nat.le_of_ble_eq_true rfl) (Nat.le_of_ble_eq_true rfl) ?_
  refine W.eq (g2 := F0 m 4 ls []) rfl ?_
  refine j_aload_n (r := (some b)) hx hb dX5_init_4 rfl (lv_at hl 0 rfl) ?_
  refine j_aload_n (r := x1) hx hb dX5_init_5 rfl (lv_at hl 1 rfl) ?_
  obtain ⟨μ1, hμ1, hw⟩ := hw
  refine j_putFz (C := RX5) (T := TX5) (N := 9) (ci := 8) (r := (some b)) (v := va_rf x1) hx hb hfX5 tyX5 tyX5_ok nmX5 hown hK hI rfl 0 (by decide) (hts (.fieldLink RX5 9 "CashPools$Line" "top" "LCashPools$Account;") (List.mem_of_getElem? (i := 4) (by decide +kernel))) (fun _ h => h) rfl hnm rfl (tyX5_ok 0 (by decide)) (jnr _ x1) (jfr _ x1) hμ1 dX5_init_6 (fun H locs hI => ?_)
  refine j_aload_n (r := (some b)) hx hb dX5_init_9 rfl (lv_at hl 0 rfl) ?_
  refine lv_iload_n hx hb dX5_init_10 rfl (lv_at hl 2 rfl) ?_
  obtain ⟨μ2, hμ2, hw⟩ := hw
  refine j_putFz (C := RX5) (T := TX5) (N := 9) (ci := 8) (r := (some b)) (v := .int x2) hx hb hfX5 tyX5 tyX5_ok nmX5 hown hK hI rfl 1 (by decide) (hts (.fieldLink RX5 15 "CashPools$Line" "limit" "I") (List.mem_of_getElem? (i := 5) (by decide +kernel))) (fun _ h => h) rfl hnm rfl (tyX5_ok 1 (by decide)) rfl rfl hμ2 dX5_init_11 (fun H locs hI => ?_)
  refine j_aload_n (r := (some b)) hx hb dX5_init_14 rfl (lv_at hl 0 rfl) ?_
  refine lv_iload_n hx hb dX5_init_15 rfl (lv_at hl 3 rfl) ?_
  obtain ⟨μ3, hμ3, hw⟩ := hw
  refine j_putFz (C := RX5) (T := TX5) (N := 9) (ci := 8) (r := (some b)) (v := .int x3) hx hb hfX5 tyX5 tyX5_ok nmX5 hown hK hI rfl 2 (by decide) (hts (.fieldLink RX5 19 "CashPools$Line" "rate" "I") (List.mem_of_getElem? (i := 6) (by decide +kernel))) (fun _ h => h) rfl hnm rfl (tyX5_ok 2 (by decide)) rfl rfl hμ3 dX5_init_16 (fun H locs hI => ?_)
  exact j_vretz hx hb hr hlocks hI hw (by omega) (by omega) dX5_init_19
set_option maxHeartbeats 4000000 in
set_option maxRecDepth 100000 in
theorem kX5_init (l : Launch) (hfl : l.stackTraces = false) (D : jD) (z : Nat × Nat) (b : Nat) (x1 : Option Nat) (x2 : Int32) (x3 : Int32) (μ : jM) (sz : Nat) (Q : Unit → jM → Prop) : Met l yX5_init wsX5_init rmX5_init (jPre2z D z μ sz [.ref b, va_rf x1, .int x2, .int x3] (wX5_init z b x1 x2 x3 μ Q)) (jRz jfV Q D z (jA z μ sz)) 0 0 (jA z μ sz) := by
  refine Met.ofW (cc := cX5_init) (maxL := 4) (ret := none) (by decide) rfl ?_
  intro p e s m args below meth c s₁ B hml hv
  obtain ⟨rfl, hsz, hH, hz0, hK, hG, hw⟩ := hv
  subst hsz
  have hX : jX2 D z (jA z μ s.heap.size) p l s m _ meth c yX5_init cX5_init 4 wsX5_init none := ⟨B.exec, B.bytes, hml, findClass_of_methodNamed B.named, atoms_spec (ws := wsX5_init) B.pre, B.returns, B.notSynchronized, (name_of_methodNamed B.named B.method).1, hK, hG, hfl⟩
  obtain ⟨ls, hg, hl⟩ : ∃ ls : Array Slot, entryFrame m ([.ref b, va_rf x1, .int x2, .int x3] : List Value).toArray 4 = F0 m 0 ls [] ∧ lv_has ls 4 [(0, va_rf (some b)), (1, va_rf x1), (2, .int x2), (3, .int x3)] := by
    cases x1 <;> exact ⟨_, lg_entry_eq .., lv_entry _ (n := 4) (Nat.le_of_ble_eq_true rfl)⟩
  rw [hg]
  exact kX5_init_0 hX hw (jIz.start hH hz0) (lv_sub hl [0, 1, 2, 3] rfl) (by decide) (by decide)
set_option maxHeartbeats 4000000 in
set_option maxRecDepth 100000 in
theorem kJx4a65c_rangeCheckForAdd_d00df_0 {b : Nat} (hX : jX2 D z A p l s m args meth c yJx4a65c_rangeCheckForAdd_d00df cJx4a65c_rangeCheckForAdd_d00df 2 wsJx4a65c_rangeCheckForAdd_d00df none) {Q : Unit → jM → Prop}  {x1 : Int32} {μ : jM} {H : Heap} {locs : List Loc} {ls : Array Slot} {cells slots : Nat} (hw : wJx4a65c_rangeCheckForAdd_d00df_0 z b Q x1 μ) (hI : jIz D z A s.heap μ H locs) (hl : lv_has ls 2 [(0, va_rf (some b)), (1, .int x1)]) (hcn : cells + 0 ≤ 0) (hsn : slots + 0 ≤ 0) : W p l e rmJx4a65c_rangeCheckForAdd_d00df s m args below meth c H locs cells slots (MQ below (jRz jfV Q D z A) args s 0 0 A) (F0 m 0 ls []) := by
  unfold wJx4a65c_rangeCheckForAdd_d00df_0 at hw
  obtain ⟨hx, hb, hml, hown, hts, hr, hlocks, hnm, hK, hG, hfl⟩ := id hX
  have hown : s.vm.findClass RJx4a65c = some m.cls := hown
  have hfJx4a65c : ∀ w ∈ wsJx4a65c0, w.before args s = true := fun w h => hts w (List.mem_cons_of_mem _ (List.mem_append_right _ h))
  refine lv_iload_n hx hb dJx4a65c_rangeCheckForAdd_d00df_0 rfl (lv_at hl 1 rfl) ?_
  refine j_aload_n (r := (some b)) hx hb dJx4a65c_rangeCheckForAdd_d00df_1 rfl (lv_at hl 0 rfl) ?_
  obtain ⟨v1, hv1, hw⟩ := hw
  refine j_getz (C := RJx4a65c) (T := TJx4a65c) (N := 3) (ci := 2) (r := (some b)) (v := .int v1) hx hb hfJx4a65c hown hK hI rfl 2 (by decide) (hts (.fieldLink RJx4a65c 48 "java/util/ArrayList" "size" "I") (List.mem_of_getElem? (i := 1) (by decide +kernel))) (fun _ h => h) hv1 dJx4a65c_rangeCheckForAdd_d00df_2 ?_
  refine lv_icmp_gt (tgt := 12) hx hb dJx4a65c_rangeCheckForAdd_d00df_5 (by decide) (fun hc => ?_) (fun hc => ?_)
  · have hw := hw.1 hc
    exact (show False from hw).elim
  · have hw := hw.2 hc
    refine lv_iload_n hx hb dJx4a65c_rangeCheckForAdd_d00df_8 rfl (lv_at hl 1 rfl) ?_
    refine lv_if_ge (tgt := 25) hx hb dJx4a65c_rangeCheckForAdd_d00df_9 (by decide) (fun hc => ?_) (fun hc => ?_)
    · have hw := hw.1 hc
      exact j_vretz hx hb hr hlocks hI hw (by omega) (by omega) dJx4a65c_rangeCheckForAdd_d00df_25
    · have hw := hw.2 hc
      exact (show False from hw).elim
set_option maxHeartbeats 4000000 in
set_option maxRecDepth 100000 in
theorem kJx4a65c_rangeCheckForAdd_d00df (l : Launch) (hfl : l.stackTraces = false) (D : jD) (z : Nat × Nat) (b : Nat) (x1 : Int32) (μ : jM) (sz : Nat) (Q : Unit → jM → Prop) : Met l yJx4a65c_rangeCheckForAdd_d00df wsJx4a65c_rangeCheckForAdd_d00df rmJx4a65c_rangeCheckForAdd_d00df (jPre2z D z μ sz [.ref b, .int x1] (wJx4a65c_rangeCheckForAdd_d00df z b x1 μ Q)) (jRz jfV Q D z (jA z μ sz)) 0 0 (jA z μ sz) := by
  refine Met.ofW (cc := cJx4a65c_rangeCheckForAdd_d00df) (maxL := 2) (ret := none) (by decide) rfl ?_
  intro p e s m args below meth c s₁ B hml hv
  obtain ⟨rfl, hsz, hH, hz0, hK, hG, hw⟩ := hv
  subst hsz
  have hX : jX2 D z (jA z μ s.heap.size) p l s m _ meth c yJx4a65c_rangeCheckForAdd_d00df cJx4a65c_rangeCheckForAdd_d00df 2 wsJx4a65c_rangeCheckForAdd_d00df none := ⟨B.exec, B.bytes, hml, findClass_of_methodNamed B.named, atoms_spec (ws := wsJx4a65c_rangeCheckForAdd_d00df) B.pre, B.returns, B.notSynchronized, (name_of_methodNamed B.named B.method).1, hK, hG, hfl⟩
  obtain ⟨ls, hg, hl⟩ : ∃ ls : Array Slot, entryFrame m ([.ref b, .int x1] : List Value).toArray 2 = F0 m 0 ls [] ∧ lv_has ls 2 [(0, va_rf (some b)), (1, .int x1)] := by
    exact ⟨_, lg_entry_eq .., lv_entry _ (n := 2) (Nat.le_of_ble_eq_true rfl)⟩
  rw [hg]
  exact kJx4a65c_rangeCheckForAdd_d00df_0 hX hw (jIz.start hH hz0) (lv_sub hl [0, 1] rfl) (by decide) (by decide)
set_option maxHeartbeats 4000000 in
set_option maxRecDepth 100000 in
theorem kJx4a65c_add_7a177_38 {b : Nat} (hX : jX2 D z A p l s m args meth c yJx4a65c_add_7a177 cJx4a65c_add_7a177 5 wsJx4a65c_add_7a177 none) {Q : Unit → jM → Prop}  {x1 : Int32} {x2 : Option Nat} {x3 : Int32} {x4 : Option Nat} {μ : jM} {H : Heap} {locs : List Loc} {ls : Array Slot} {cells slots : Nat} (hw : wJx4a65c_add_7a177_38 z b Q x1 x2 x3 x4 μ) (hI : jIz D z A s.heap μ H locs) (hl : lv_has ls 5 [(0, va_rf (some b)), (1, .int x1), (2, va_rf x2), (3, .int x3), (4, va_rf x4)]) (hcn : cells + 0 ≤ 1) (hsn : slots + 0 ≤ 32) : W p l e rmJx4a65c_add_7a177 s m args below meth c H locs cells slots (MQ below (jRz jfV Q D z A) args s 1 32 A) (F0 m 38 ls []) := by
  unfold wJx4a65c_add_7a177_38 at hw
  obtain ⟨hx, hb, hml, hown, hts, hr, hlocks, hnm, hK, hG, hfl⟩ := id hX
  have hown : s.vm.findClass RJx4a65c = some m.cls := hown
  have hfJx4a65c : ∀ w ∈ wsJx4a65c0, w.before args s = true := fun w h => hts w (List.mem_cons_of_mem _ (List.mem_append_right _ h))
  refine j_aload (r := x4) hx hb dJx4a65c_add_7a177_38 (lv_at hl 4 rfl) ?_
  refine lv_iload_n hx hb dJx4a65c_add_7a177_40 rfl (lv_at hl 1 rfl) ?_
  refine j_aload (r := x4) hx hb dJx4a65c_add_7a177_41 (lv_at hl 4 rfl) ?_
  refine lv_iload_n hx hb dJx4a65c_add_7a177_43 rfl (lv_at hl 1 rfl) ?_
  refine lv_iconst (v := (1)) hx hb dJx4a65c_add_7a177_44 (by decide) ?_
  refine lv_iadd hx hb dJx4a65c_add_7a177_45 ?_
  refine lv_iload_n hx hb dJx4a65c_add_7a177_46 rfl (lv_at hl 3 rfl) ?_
  refine lv_iload_n hx hb dJx4a65c_add_7a177_47 rfl (lv_at hl 1 rfl) ?_
  refine lv_isub hx hb dJx4a65c_add_7a177_48 ?_
  obtain ⟨μ1, hμ1, hw⟩ := hw
  refine j_copyqz (r0 := x4) (r1 := x4) hx hb (by rw [hml]; exact hl.1.symm) hown (hts (.methodLink RJx4a65c 112 arraycopyName) (List.mem_of_getElem? (i := 5) (by decide +kernel))) (hts (.native arraycopyName) (List.mem_of_getElem? (i := 6) (by decide +kernel))) (hts (.static arraycopyName) (List.mem_of_getElem? (i := 7) (by decide +kernel))) (hts (.initialized "java/lang/System") (List.mem_of_getElem? (i := 8) (by decide +kernel))) hG.2.2.2.2.2.2.1 hK hI hμ1 (Nat.le_of_ble_eq_true rfl) (by simp only [List.map, List.sum_cons, List.sum_nil, jrc, jci, jcl, jcr, jcn]; exact Nat.le_of_ble_eq_true rfl) dJx4a65c_add_7a177_49 (fun H locs hI => ?_)
  refine j_aload (r := x4) hx hb dJx4a65c_add_7a177_52 (lv_at hl 4 rfl) ?_
  refine lv_iload_n hx hb dJx4a65c_add_7a177_54 rfl (lv_at hl 1 rfl) ?_
  refine j_aload_n (r := x2) hx hb dJx4a65c_add_7a177_55 rfl (lv_at hl 2 rfl) ?_
  obtain ⟨hμ2o, μ2, hμ2, hw⟩ := hw
  refine j_aastz (r := x4) (x := x2) hx hb hK hI hG.2.2.2.2.2.2.1 hμ2 hμ2o dJx4a65c_add_7a177_56 (fun H locs hI => ?_)
  refine j_aload_n (r := (some b)) hx hb dJx4a65c_add_7a177_57 rfl (lv_at hl 0 rfl) ?_
  refine lv_iload_n hx hb dJx4a65c_add_7a177_58 rfl (lv_at hl 3 rfl) ?_
  refine lv_iconst (v := (1)) hx hb dJx4a65c_add_7a177_59 (by decide) ?_
  refine lv_iadd hx hb dJx4a65c_add_7a177_60 ?_
  obtain ⟨μ3, hμ3, hw⟩ := hw
  refine j_putz (C := RJx4a65c) (T := TJx4a65c) (N := 3) (ci := 2) (r := (some b)) (v := .int (x3 + (1 : Int32))) hx hb hfJx4a65c tyJx4a65c tyJx4a65c_ok nmJx4a65c hown hK hI rfl 2 (by decide) (hts (.fieldLink RJx4a65c 48 "java/util/ArrayList" "size" "I") (List.mem_of_getElem? (i := 3) (by decide +kernel))) (fun _ h => h) rfl (tyJx4a65c_ok 2 (by decide)) rfl rfl hμ3 dJx4a65c_add_7a177_61 (fun H locs hI => ?_)
  exact j_vretz hx hb hr hlocks hI hw (by omega) (by omega) dJx4a65c_add_7a177_64
set_option maxHeartbeats 4000000 in
set_option maxRecDepth 100000 in
theorem kJx4a65c_add_7a177_0 {b : Nat} (hX : jX2 D z A p l s m args meth c yJx4a65c_add_7a177 cJx4a65c_add_7a177 5 wsJx4a65c_add_7a177 none) {Q : Unit → jM → Prop}  {x1 : Int32} {x2 : Option Nat} {μ : jM} {H : Heap} {locs : List Loc} {ls : Array Slot} {cells slots : Nat} (hw : wJx4a65c_add_7a177_0 z b Q x1 x2 μ) (hI : jIz D z A s.heap μ H locs) (hl : lv_has ls 5 [(0, va_rf (some b)), (1, .int x1), (2, va_rf x2)]) (hcn : cells + 1 ≤ 1) (hsn : slots + 32 ≤ 32) : W p l e rmJx4a65c_add_7a177 s m args below meth c H locs cells slots (MQ below (jRz jfV Q D z A) args s 1 32 A) (F0 m 0 ls []) := by
  unfold wJx4a65c_add_7a177_0 at hw
  obtain ⟨hx, hb, hml, hown, hts, hr, hlocks, hnm, hK, hG, hfl⟩ := id hX
  have hown : s.vm.findClass RJx4a65c = some m.cls := hown
  have hfJx4a65c : ∀ w ∈ wsJx4a65c0, w.before args s = true := fun w h => hts w (List.mem_cons_of_mem _ (List.mem_append_right _ h))
  refine j_aload_n (r := (some b)) hx hb dJx4a65c_add_7a177_0 rfl (lv_at hl 0 rfl) ?_
  refine lv_iload_n hx hb dJx4a65c_add_7a177_1 rfl (lv_at hl 1 rfl) ?_
  obtain ⟨hfs, hw⟩ := hw
  refine j_goz hI (va_runV (As := [.int x1]) (rest := []) ⟨hx, hb, hml, hown, hts⟩ (kJx4a65c_rangeCheckForAdd_d00df l hfl D z b x1 μ H.size _) (cwV 1 hts gJx4a65c_add_7a177_Jx4a65c_rangeCheckForAdd_d00df rfl rfl rfl (by decide +kernel) ⟨Nat.le_of_ble_eq_true rfl, Nat.le_of_ble_eq_true rfl⟩) (j_prV2z hK hG hI hw (ci := 2) rfl hfs) rfl rfl hl.1 rfl (lv_room (Nat.le_of_ble_eq_true rfl)) dJx4a65c_add_7a177_2 ⟨by show _ ≤ 1; omega, by show _ ≤ 32; omega⟩) (fun u1 μ2 H locs hw hI => ?_)
  refine W.eq (g2 := F0 m 5 ls []) rfl ?_
  refine j_aload_n (r := (some b)) hx hb dJx4a65c_add_7a177_5 rfl (lv_at hl 0 rfl) ?_
  refine lv_dup hx hb dJx4a65c_add_7a177_6 rfl ?_
  obtain ⟨v3, hv3, hw⟩ := hw
  refine j_getz (C := RJx4a65c) (T := TJx4a65c) (N := 3) (ci := 2) (r := (some b)) (v := .int v3) hx hb hfJx4a65c hown hK hI rfl 0 (by decide) (hts (.fieldLink RJx4a65c 63 "java/util/ArrayList" "modCount" "I") (List.mem_of_getElem? (i := 1) (by decide +kernel))) (fun x h => u_same (hts (.sameField "java/util/ArrayList" "java/util/AbstractList" "modCount" "I") (List.mem_of_getElem? (i := 2) (by decide +kernel))) x h) hv3 dJx4a65c_add_7a177_7 ?_
  refine lv_iconst (v := (1)) hx hb dJx4a65c_add_7a177_10 (by decide) ?_
  refine lv_iadd hx hb dJx4a65c_add_7a177_11 ?_
  obtain ⟨μ4, hμ4, hw⟩ := hw
  refine j_putz (C := RJx4a65c) (T := TJx4a65c) (N := 3) (ci := 2) (r := (some b)) (v := .int (v3 + (1 : Int32))) hx hb hfJx4a65c tyJx4a65c tyJx4a65c_ok nmJx4a65c hown hK hI rfl 0 (by decide) (hts (.fieldLink RJx4a65c 63 "java/util/ArrayList" "modCount" "I") (List.mem_of_getElem? (i := 1) (by decide +kernel))) (fun x h => u_same (hts (.sameField "java/util/ArrayList" "java/util/AbstractList" "modCount" "I") (List.mem_of_getElem? (i := 2) (by decide +kernel))) x h) rfl (tyJx4a65c_ok 0 (by decide)) rfl rfl hμ4 dJx4a65c_add_7a177_12 (fun H locs hI => ?_)
  refine j_aload_n (r := (some b)) hx hb dJx4a65c_add_7a177_15 rfl (lv_at hl 0 rfl) ?_
  obtain ⟨v5, hv5, hw⟩ := hw
  refine j_getz (C := RJx4a65c) (T := TJx4a65c) (N := 3) (ci := 2) (r := (some b)) (v := .int v5) hx hb hfJx4a65c hown hK hI rfl 2 (by decide) (hts (.fieldLink RJx4a65c 48 "java/util/ArrayList" "size" "I") (List.mem_of_getElem? (i := 3) (by decide +kernel))) (fun _ h => h) hv5 dJx4a65c_add_7a177_16 ?_
  refine lv_dup hx hb dJx4a65c_add_7a177_19 rfl ?_
  refine j_istore_nA (r := x2) (F := fun w => [(0, va_rf (some b)), (1, .int x1), (2, w)]) (F2 := fun w => [(3, .int v5), (0, va_rf (some b)), (1, .int x1), (2, w)]) hx hb dJx4a65c_add_7a177_20 rfl hl (by decide) (fun w hw => by rcases hw with rfl | ⟨_, rfl⟩ <;> rfl) (fun ls hl => ?_)
  refine j_aload_n (r := (some b)) hx hb dJx4a65c_add_7a177_21 rfl (lv_at hl 1 rfl) ?_
  obtain ⟨v6, hv6, hw⟩ := hw
  refine j_getz (C := RJx4a65c) (T := TJx4a65c) (N := 3) (ci := 2) (r := (some b)) (v := va_rf v6) hx hb hfJx4a65c hown hK hI rfl 1 (by decide) (hts (.fieldLink RJx4a65c 9 "java/util/ArrayList" "elementData" "[Ljava/lang/Object;") (List.mem_of_getElem? (i := 4) (by decide +kernel))) (fun _ h => h) hv6 dJx4a65c_add_7a177_22 ?_
  refine lv_dup hx hb dJx4a65c_add_7a177_25 (jrc v6) ?_
  refine j_astore (r := v6) (lv' := [(4, va_rf v6), (3, .int v5), (0, va_rf (some b)), (1, .int x1), (2, va_rf x2)]) hx hb dJx4a65c_add_7a177_26 hl (by decide) rfl (fun ls hl => ?_)
  obtain ⟨v7, hv7, hw⟩ := hw
  refine j_alenz (r := v6) hx hb hK hI hv7 dJx4a65c_add_7a177_28 ?_
  refine lv_icmp_ne (tgt := 38) hx hb dJx4a65c_add_7a177_29 (by decide) (fun hc => ?_) (fun hc => ?_)
  · have hw := hw.1 hc
    exact kJx4a65c_add_7a177_38 hX  hw hI (lv_sub hl [2, 3, 4, 1, 0] rfl) (by omega) (by omega)
  · have hw := hw.2 hc
    refine j_aload_n (r := (some b)) hx hb dJx4a65c_add_7a177_32 rfl (lv_at hl 2 rfl) ?_
    obtain ⟨hfs, hw⟩ := hw
    refine j_goz hI (va_runV (As := []) (rest := []) ⟨hx, hb, hml, hown, hts⟩ (kJx4a65c_grow_d5877 l hfl D z b  μ4 H.size _) (cwV 0 hts gJx4a65c_add_7a177_Jx4a65c_grow_d5877 rfl rfl rfl (by decide +kernel) ⟨Nat.le_of_ble_eq_true rfl, Nat.le_of_ble_eq_true rfl⟩) (j_prV2z hK hG hI hw (ci := 2) rfl hfs) rfl rfl hl.1 rfl (lv_room (Nat.le_of_ble_eq_true rfl)) dJx4a65c_add_7a177_33 ⟨by show _ ≤ 1; omega, by show _ ≤ 32; omega⟩) (fun v8 μ9 H locs hw hI => ?_)
    refine W.eq (g2 := F0 m 36 ls [va_rf v8]) rfl ?_
    refine j_astore (r := v8) (lv' := [(4, va_rf v8), (3, .int v5), (0, va_rf (some b)), (1, .int x1), (2, va_rf x2)]) hx hb dJx4a65c_add_7a177_36 hl (by decide) rfl (fun ls hl => ?_)
    exact kJx4a65c_add_7a177_38 hX  hw hI (lv_sub hl [2, 3, 4, 1, 0] rfl) (by omega) (by omega)
set_option maxHeartbeats 4000000 in
set_option maxRecDepth 100000 in
theorem kJx4a65c_add_7a177 (l : Launch) (hfl : l.stackTraces = false) (D : jD) (z : Nat × Nat) (b : Nat) (x1 : Int32) (x2 : Option Nat) (μ : jM) (sz : Nat) (Q : Unit → jM → Prop) : Met l yJx4a65c_add_7a177 wsJx4a65c_add_7a177 rmJx4a65c_add_7a177 (jPre2z D z μ sz [.ref b, .int x1, va_rf x2] (wJx4a65c_add_7a177 z b x1 x2 μ Q)) (jRz jfV Q D z (jA z μ sz)) 1 32 (jA z μ sz) := by
  refine Met.ofW (cc := cJx4a65c_add_7a177) (maxL := 5) (ret := none) (by decide) rfl ?_
  intro p e s m args below meth c s₁ B hml hv
  obtain ⟨rfl, hsz, hH, hz0, hK, hG, hw⟩ := hv
  subst hsz
  have hX : jX2 D z (jA z μ s.heap.size) p l s m _ meth c yJx4a65c_add_7a177 cJx4a65c_add_7a177 5 wsJx4a65c_add_7a177 none := ⟨B.exec, B.bytes, hml, findClass_of_methodNamed B.named, atoms_spec (ws := wsJx4a65c_add_7a177) B.pre, B.returns, B.notSynchronized, (name_of_methodNamed B.named B.method).1, hK, hG, hfl⟩
  obtain ⟨ls, hg, hl⟩ : ∃ ls : Array Slot, entryFrame m ([.ref b, .int x1, va_rf x2] : List Value).toArray 5 = F0 m 0 ls [] ∧ lv_has ls 5 [(0, va_rf (some b)), (1, .int x1), (2, va_rf x2)] := by
    cases x2 <;> exact ⟨_, lg_entry_eq .., lv_entry _ (n := 5) (Nat.le_of_ble_eq_true rfl)⟩
  rw [hg]
  exact kJx4a65c_add_7a177_0 hX hw (jIz.start hH hz0) (lv_sub hl [0, 1, 2] rfl) (by decide) (by decide)
set_option maxHeartbeats 4000000 in
set_option maxRecDepth 100000 in
theorem kX6_rank_40 {b : Nat} (hX : jX2 D z A p l s m args meth c yX6_rank cX6_rank 3 wsX6_rank none) {Q : Unit → jM → Prop}  {x1 : Option Nat} {x2 : Int32} {μ : jM} {H : Heap} {locs : List Loc} {ls : Array Slot} {cells slots : Nat} (hw : wX6_rank_40 z b Q x1 x2 μ) (hI : jIz D z A s.heap μ H locs) (hl : lv_has ls 3 [(0, va_rf (some b)), (1, va_rf x1), (2, .int x2)]) (hcn : cells + 1 ≤ 1) (hsn : slots + 32 ≤ 32) : W p l e rmX6_rank s m args below meth c H locs cells slots (MQ below (jRz jfV Q D z A) args s 1 32 A) (F0 m 40 ls []) := by
  unfold wX6_rank_40 at hw
  obtain ⟨hx, hb, hml, hown, hts, hr, hlocks, hnm, hK, hG, hfl⟩ := id hX
  have hown : s.vm.findClass RX6 = some m.cls := hown
  have hfX6 : ∀ w ∈ wsX60, w.before args s = true := fun w h => hts w (List.mem_cons_of_mem _ (List.mem_append_left _ (List.mem_append_left _ (List.mem_append_right _ h))))
  refine j_aload_n (r := (some b)) hx hb dX6_rank_40 rfl (lv_at hl 0 rfl) ?_
  obtain ⟨v1, hv1, hw⟩ := hw
  refine j_getz (C := RX6) (T := TX6) (N := 5) (ci := 9) (r := (some b)) (v := va_rf v1) hx hb hfX6 hown hK hI rfl 4 (by decide) (hts (.fieldLink RX6 16 "CashPools$Pool" "ranked" "Ljava/util/ArrayList;") (List.mem_of_getElem? (i := 1) (by decide +kernel))) (fun _ h => h) hv1 dX6_rank_41 ?_
  refine lv_iload_n hx hb dX6_rank_44 rfl (lv_at hl 2 rfl) ?_
  refine j_aload_n (r := x1) hx hb dX6_rank_45 rfl (lv_at hl 1 rfl) ?_
  obtain ⟨b4, ⟨hrb4, hfs⟩, hw⟩ := hw
  refine j_goz hI (va_runV (As := [.int x2, va_rf x1]) (rest := []) ⟨hx, hb, hml, hown, hts⟩ (kJx4a65c_add_7a177 l hfl D z b4 x2 x1 μ H.size _) (cwV 2 hts gX6_rank_Jx4a65c_add_7a177 rfl rfl rfl (by decide +kernel) ⟨Nat.le_of_ble_eq_true rfl, Nat.le_of_ble_eq_true rfl⟩) (j_prV2z hK hG hI hw (ci := 2) rfl hfs) rfl rfl hl.1 (by rw [hrb4]; rfl) (lv_room (Nat.le_of_ble_eq_true rfl)) dX6_rank_46 ⟨by show _ ≤ 1; omega, by show _ ≤ 32; omega⟩) (fun u2 μ3 H locs hw hI => ?_)
  refine W.eq (g2 := F0 m 49 ls []) rfl ?_
  exact j_vretz hx hb hr hlocks hI hw (by omega) (by omega) dX6_rank_49
set_option maxHeartbeats 4000000 in
set_option maxRecDepth 100000 in
theorem kX6_rank_2 {b : Nat} (hX : jX2 D z A p l s m args meth c yX6_rank cX6_rank 3 wsX6_rank none) {Q : Unit → jM → Prop}  (n : Nat) : ∀ {x1 : Option Nat} {x2 : Int32} {μ : jM} {H : Heap} {locs : List Loc} {ls : Array Slot} {cells slots : Nat}, wX6_rank_2 z b Q n x1 x2 μ → jIz D z A s.heap μ H locs → lv_has ls 3 [(0, va_rf (some b)), (1, va_rf x1), (2, .int x2)] → cells + 1 ≤ 1 → slots + 32 ≤ 32 → W p l e rmX6_rank s m args below meth c H locs cells slots (MQ below (jRz jfV Q D z A) args s 1 32 A) (F0 m 2 ls []) := by
  induction n with
  | zero =>
    intros
    rename_i hw _ _ _ _
    exact (show False from hw).elim
  | succ n ih =>
    intro x1 x2 μ H locs ls cells slots hw hI hl hcn hsn
    have hw : wX6_rank_2_b z b Q (wX6_rank_2 z b Q n) x1 x2 μ := hw
    unfold wX6_rank_2_b at hw
    obtain ⟨hx, hb, hml, hown, hts, hr, hlocks, hnm, hK, hG, hfl⟩ := id hX
    have hown : s.vm.findClass RX6 = some m.cls := hown
    have hfX5 : ∀ w ∈ wsX50, w.before args s = true := fun w h => hts w (List.mem_cons_of_mem _ (List.mem_append_left _ (List.mem_append_right _ h)))
    have hfX6 : ∀ w ∈ wsX60, w.before args s = true := fun w h => hts w (List.mem_cons_of_mem _ (List.mem_append_left _ (List.mem_append_left _ (List.mem_append_right _ h))))
    refine lv_iload_n hx hb dX6_rank_2 rfl (lv_at hl 2 rfl) ?_
    refine j_aload_n (r := (some b)) hx hb dX6_rank_3 rfl (lv_at hl 0 rfl) ?_
    obtain ⟨v1, hv1, hw⟩ := hw
    refine j_getz (C := RX6) (T := TX6) (N := 5) (ci := 9) (r := (some b)) (v := va_rf v1) hx hb hfX6 hown hK hI rfl 4 (by decide) (hts (.fieldLink RX6 16 "CashPools$Pool" "ranked" "Ljava/util/ArrayList;") (List.mem_of_getElem? (i := 1) (by decide +kernel))) (fun _ h => h) hv1 dX6_rank_4 ?_
    obtain ⟨b4, ⟨hrb4, hfs⟩, hw⟩ := hw
    refine j_goz hI (va_runV (As := []) (rest := [.int x2]) ⟨hx, hb, hml, hown, hts⟩ (kJx4a65c_size_8abf5 l hfl D z b4  μ H.size _) (cwV 0 hts gX6_rank_Jx4a65c_size_8abf5 rfl rfl rfl (by decide +kernel) ⟨Nat.le_of_ble_eq_true rfl, Nat.le_of_ble_eq_true rfl⟩) (j_prV2z hK hG hI hw (ci := 2) rfl hfs) rfl rfl hl.1 (by rw [hrb4]; rfl) (lv_room (Nat.le_of_ble_eq_true rfl)) dX6_rank_7 ⟨by show _ ≤ 1; omega, by show _ ≤ 32; omega⟩) (fun v2 μ3 H locs hw hI => ?_)
    refine W.eq (g2 := F0 m 10 ls [.int v2, .int x2]) rfl ?_
    refine lv_icmp_ge (tgt := 40) hx hb dX6_rank_10 (by decide) (fun hc => ?_) (fun hc => ?_)
    · have hw := hw.1 hc
      exact kX6_rank_40 hX  hw hI (lv_sub hl [0, 1, 2] rfl) (by omega) (by omega)
    · have hw := hw.2 hc
      refine j_aload_n (r := (some b)) hx hb dX6_rank_13 rfl (lv_at hl 0 rfl) ?_
      obtain ⟨v5, hv5, hw⟩ := hw
      refine j_getz (C := RX6) (T := TX6) (N := 5) (ci := 9) (r := (some b)) (v := va_rf v5) hx hb hfX6 hown hK hI rfl 4 (by decide) (hts (.fieldLink RX6 16 "CashPools$Pool" "ranked" "Ljava/util/ArrayList;") (List.mem_of_getElem? (i := 1) (by decide +kernel))) (fun _ h => h) hv5 dX6_rank_14 ?_
      refine lv_iload_n hx hb dX6_rank_17 rfl (lv_at hl 2 rfl) ?_
      obtain ⟨b8, ⟨hrb8, hfs⟩, hw⟩ := hw
      refine j_goz hI (va_runV (As := [.int x2]) (rest := []) ⟨hx, hb, hml, hown, hts⟩ (kJx4a65c_get_915e3 l hfl D z b8 x2 μ3 H.size _) (cwV 1 hts gX6_rank_Jx4a65c_get_915e3 rfl rfl rfl (by decide +kernel) ⟨Nat.le_of_ble_eq_true rfl, Nat.le_of_ble_eq_true rfl⟩) (j_prV2z hK hG hI hw (ci := 2) rfl hfs) rfl rfl hl.1 (by rw [hrb8]; rfl) (lv_room (Nat.le_of_ble_eq_true rfl)) dX6_rank_18 ⟨by show _ ≤ 1; omega, by show _ ≤ 32; omega⟩) (fun v6 μ7 H locs hw hI => ?_)
      refine W.eq (g2 := F0 m 21 ls [va_rf v6]) rfl ?_
      obtain ⟨h9, hw⟩ := hw
      refine j_castz (C := RX5) (T := TX5) (N := 9) (ci := 8) (r := v6) hx hb hown (hts (.classLink RX6 43 "CashPools$Line") (List.mem_of_getElem? (i := 2) (by decide +kernel))) hK hI rfl h9 dX6_rank_21 ?_
      obtain ⟨v10, hv10, hw⟩ := hw
      refine j_getz (C := RX5) (T := TX5) (N := 9) (ci := 8) (r := v6) (v := .int v10) hx hb hfX5 hown hK hI rfl 2 (by decide) (hts (.fieldLink RX6 45 "CashPools$Line" "rate" "I") (List.mem_of_getElem? (i := 3) (by decide +kernel))) (fun _ h => h) hv10 dX6_rank_24 ?_
      refine j_aload_n (r := x1) hx hb dX6_rank_27 rfl (lv_at hl 1 rfl) ?_
      obtain ⟨v11, hv11, hw⟩ := hw
      refine j_getz (C := RX5) (T := TX5) (N := 9) (ci := 8) (r := x1) (v := .int v11) hx hb hfX5 hown hK hI rfl 2 (by decide) (hts (.fieldLink RX6 45 "CashPools$Line" "rate" "I") (List.mem_of_getElem? (i := 3) (by decide +kernel))) (fun _ h => h) hv11 dX6_rank_28 ?_
      refine lv_icmp_gt (tgt := 40) hx hb dX6_rank_31 (by decide) (fun hc => ?_) (fun hc => ?_)
      · have hw := hw.1 hc
        exact kX6_rank_40 hX  hw hI (lv_sub hl [0, 1, 2] rfl) (by omega) (by omega)
      · have hw := hw.2 hc
        obtain ⟨v12, ev12⟩ : ∃ y : Int32, y = x2 + (1 : Int32) := ⟨_, rfl⟩
        have hw := hw v12 ev12
        refine j_iincA (r := x1) (F := fun w => [(0, va_rf (some b)), (1, w), (2, .int x2)]) (F2 := fun w => [(2, .int v12), (0, va_rf (some b)), (1, w)]) (v := v12) hx hb dX6_rank_34 hl (k := 2) (fun _ => rfl) (by rw [ev12]; rfl) (by decide) (fun w hw => by rcases hw with rfl | ⟨_, rfl⟩ <;> rfl) (fun ls hl => ?_)
        refine lv_goto (tgt := 2) hx hb dX6_rank_37 (by decide) ?_
        exact ih hw hI (lv_sub hl [1, 2, 0] rfl) (by omega) (by omega)
set_option maxHeartbeats 4000000 in
set_option maxRecDepth 100000 in
theorem kX6_rank_0 {b : Nat} (hX : jX2 D z A p l s m args meth c yX6_rank cX6_rank 3 wsX6_rank none) {Q : Unit → jM → Prop}  {x1 : Option Nat} {μ : jM} {H : Heap} {locs : List Loc} {ls : Array Slot} {cells slots : Nat} (hw : wX6_rank_0 z b Q x1 μ) (hI : jIz D z A s.heap μ H locs) (hl : lv_has ls 3 [(0, va_rf (some b)), (1, va_rf x1)]) (hcn : cells + 1 ≤ 1) (hsn : slots + 32 ≤ 32) : W p l e rmX6_rank s m args below meth c H locs cells slots (MQ below (jRz jfV Q D z A) args s 1 32 A) (F0 m 0 ls []) := by
  unfold wX6_rank_0 at hw
  obtain ⟨hx, hb, hml, hown, hts, hr, hlocks, hnm, hK, hG, hfl⟩ := id hX
  have hown : s.vm.findClass RX6 = some m.cls := hown
  refine lv_iconst (v := (0)) hx hb dX6_rank_0 (by decide) ?_
  refine lv_topi (fun v1 ev1 => ?_)
  have hw := hw v1 ev1
  refine j_istore_nA (r := x1) (F := fun w => [(0, va_rf (some b)), (1, w)]) (F2 := fun w => [(2, .int v1), (0, va_rf (some b)), (1, w)]) hx hb dX6_rank_1 rfl hl (by decide) (fun w hw => by rcases hw with rfl | ⟨_, rfl⟩ <;> rfl) (fun ls hl => ?_)
  obtain ⟨n2, hw⟩ := hw
  exact kX6_rank_2 hX  n2 hw hI (lv_sub hl [1, 2, 0] rfl) (by omega) (by omega)
set_option maxHeartbeats 4000000 in
set_option maxRecDepth 100000 in
theorem kX6_rank (l : Launch) (hfl : l.stackTraces = false) (D : jD) (z : Nat × Nat) (b : Nat) (x1 : Option Nat) (μ : jM) (sz : Nat) (Q : Unit → jM → Prop) : Met l yX6_rank wsX6_rank rmX6_rank (jPre2z D z μ sz [.ref b, va_rf x1] (wX6_rank z b x1 μ Q)) (jRz jfV Q D z (jA z μ sz)) 1 32 (jA z μ sz) := by
  refine Met.ofW (cc := cX6_rank) (maxL := 3) (ret := none) (by decide) rfl ?_
  intro p e s m args below meth c s₁ B hml hv
  obtain ⟨rfl, hsz, hH, hz0, hK, hG, hw⟩ := hv
  subst hsz
  have hX : jX2 D z (jA z μ s.heap.size) p l s m _ meth c yX6_rank cX6_rank 3 wsX6_rank none := ⟨B.exec, B.bytes, hml, findClass_of_methodNamed B.named, atoms_spec (ws := wsX6_rank) B.pre, B.returns, B.notSynchronized, (name_of_methodNamed B.named B.method).1, hK, hG, hfl⟩
  obtain ⟨ls, hg, hl⟩ : ∃ ls : Array Slot, entryFrame m ([.ref b, va_rf x1] : List Value).toArray 3 = F0 m 0 ls [] ∧ lv_has ls 3 [(0, va_rf (some b)), (1, va_rf x1)] := by
    cases x1 <;> exact ⟨_, lg_entry_eq .., lv_entry _ (n := 3) (Nat.le_of_ble_eq_true rfl)⟩
  rw [hg]
  exact kX6_rank_0 hX hw (jIz.start hH hz0) (lv_sub hl [0, 1] rfl) (by decide) (by decide)
end
