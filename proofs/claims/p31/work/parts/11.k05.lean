section
variable {p : Program} {l : Launch} {e : Env} {s : State} {m : MethodId} {args : Array Value} {below : List Frame} {meth : Method} {c : Code} {D : jD} {z : Nat × Nat} {A : Nat → Prop}
set_option maxHeartbeats 4000000 in
set_option maxRecDepth 100000 in
theorem kX1_excess_0 {b : Nat} (hX : jX2 D z A p l s m args meth c yX1_excess cX1_excess 1 wsX1_excess (some .long)) {Q : Int64 → jM → Prop}   {μ : jM} {H : Heap} {locs : List Loc} {ls : Array Slot} {cells slots : Nat} (hw : wX1_excess_0 z b Q  μ) (hI : jIz D z A s.heap μ H locs) (hl : lv_has ls 1 [(0, va_rf (some b))]) (hcn : cells + 0 ≤ 0) (hsn : slots + 0 ≤ 0) : W p l e rmX1_excess s m args below meth c H locs cells slots (MQ below (jRz jfJ Q D z A) args s 0 0 A) (F0 m 0 ls []) := by
  unfold wX1_excess_0 at hw
  obtain ⟨hx, hb, hml, hown, hts, hr, hlocks, hnm, hK, hG, hfl⟩ := id hX
  have hown : s.vm.findClass RX1 = some m.cls := hown
  have hfX1 : ∀ w ∈ wsX10, w.before args s = true := fun w h => hts w (List.mem_cons_of_mem _ (List.mem_append_right _ h))
  refine j_aload_n (r := (some b)) hx hb dX1_excess_0 rfl (lv_at hl 0 rfl) ?_
  obtain ⟨v1, hv1, hw⟩ := hw
  refine j_getz (C := RX1) (T := TX1) (N := 3) (ci := 4) (r := (some b)) (v := .int v1) hx hb hfX1 hown hK hI rfl 1 (by decide) (hts (.fieldLink RX1 9 "CashPools$Bank" "limit" "I") (List.mem_of_getElem? (i := 1) (by decide +kernel))) (fun _ h => h) hv1 dX1_excess_1 ?_
  refine lv_iconst (v := (-1)) hx hb dX1_excess_4 (by decide) ?_
  refine lv_icmp_ne (tgt := 12) hx hb dX1_excess_5 (by decide) (fun hc => ?_) (fun hc => ?_)
  · have hw := hw.1 hc
    refine j_aload_n (r := (some b)) hx hb dX1_excess_12 rfl (lv_at hl 0 rfl) ?_
    obtain ⟨v2, hv2, hw⟩ := hw
    refine j_getz (C := RX1) (T := TX1) (N := 3) (ci := 4) (r := (some b)) (v := .long v2) hx hb hfX1 hown hK hI rfl 2 (by decide) (hts (.fieldLink RX1 18 "CashPools$Bank" "exposed" "J") (List.mem_of_getElem? (i := 2) (by decide +kernel))) (fun _ h => h) hv2 dX1_excess_13 ?_
    refine j_aload_n (r := (some b)) hx hb dX1_excess_16 rfl (lv_at hl 0 rfl) ?_
    obtain ⟨v3, hv3, hw⟩ := hw
    refine j_getz (C := RX1) (T := TX1) (N := 3) (ci := 4) (r := (some b)) (v := .int v3) hx hb hfX1 hown hK hI rfl 1 (by decide) (hts (.fieldLink RX1 9 "CashPools$Bank" "limit" "I") (List.mem_of_getElem? (i := 1) (by decide +kernel))) (fun _ h => h) hv3 dX1_excess_17 ?_
    refine lv_i2l hx hb dX1_excess_20 rfl ?_
    refine lv_lsub hx hb dX1_excess_21 ?_
    refine lv_lconst (v := (0)) hx hb dX1_excess_22 (by decide) ?_
    refine va_mmax_long hx hb (by rw [hml]; exact hl.1.symm) hown (hts (.methodLink RX1 22 Lib.MathLoose.max_long.x) (List.mem_of_getElem? (i := 3) (by decide +kernel))) (hts (.static Lib.MathLoose.max_long.x) (List.mem_of_getElem? (i := 4) (by decide +kernel))) (hts (.initialized "java/lang/Math") (List.mem_of_getElem? (i := 5) (by decide +kernel))) (hts (.code Lib.MathLoose.max_long.x Lib.MathLoose.max_long.code 4 (some .long)) (List.mem_of_getElem? (i := 6) (by decide +kernel))) (Nat.le_of_ble_eq_true rfl) (Nat.le_of_ble_eq_true rfl) (by show _ ≤ 0; omega) (by show _ ≤ 0; omega) dX1_excess_23 ?_
    exact j_lretz hx hb hr hlocks hI hw (by omega) (by omega) dX1_excess_26
  · have hw := hw.2 hc
    refine lv_lconst (v := (0)) hx hb dX1_excess_8 (by decide) ?_
    refine lv_goto (tgt := 26) hx hb dX1_excess_9 (by decide) ?_
    exact j_lretz hx hb hr hlocks hI hw (by omega) (by omega) dX1_excess_26
set_option maxHeartbeats 4000000 in
set_option maxRecDepth 100000 in
theorem kX1_excess (l : Launch) (hfl : l.stackTraces = false) (D : jD) (z : Nat × Nat) (b : Nat)  (μ : jM) (sz : Nat) (Q : Int64 → jM → Prop) : Met l yX1_excess wsX1_excess rmX1_excess (jPre2z D z μ sz [.ref b] (wX1_excess z b  μ Q)) (jRz jfJ Q D z (jA z μ sz)) 0 0 (jA z μ sz) := by
  refine Met.ofW (cc := cX1_excess) (maxL := 1) (ret := (some .long)) (by decide) rfl ?_
  intro p e s m args below meth c s₁ B hml hv
  obtain ⟨rfl, hsz, hH, hz0, hK, hG, hw⟩ := hv
  subst hsz
  have hX : jX2 D z (jA z μ s.heap.size) p l s m _ meth c yX1_excess cX1_excess 1 wsX1_excess (some .long) := ⟨B.exec, B.bytes, hml, findClass_of_methodNamed B.named, atoms_spec (ws := wsX1_excess) B.pre, B.returns, B.notSynchronized, (name_of_methodNamed B.named B.method).1, hK, hG, hfl⟩
  obtain ⟨ls, hg, hl⟩ : ∃ ls : Array Slot, entryFrame m ([.ref b] : List Value).toArray 1 = F0 m 0 ls [] ∧ lv_has ls 1 [(0, va_rf (some b))] := by
    exact ⟨_, lg_entry_eq .., lv_entry _ (n := 1) (Nat.le_of_ble_eq_true rfl)⟩
  rw [hg]
  exact kX1_excess_0 hX hw (jIz.start hH hz0) (lv_sub hl [0] rfl) (by decide) (by decide)
set_option maxHeartbeats 4000000 in
set_option maxRecDepth 100000 in
theorem kX1_room_0 {b : Nat} (hX : jX2 D z A p l s m args meth c yX1_room cX1_room 1 wsX1_room (some .long)) {Q : Int64 → jM → Prop}   {μ : jM} {H : Heap} {locs : List Loc} {ls : Array Slot} {cells slots : Nat} (hw : wX1_room_0 z b Q  μ) (hI : jIz D z A s.heap μ H locs) (hl : lv_has ls 1 [(0, va_rf (some b))]) (hcn : cells + 0 ≤ 0) (hsn : slots + 0 ≤ 0) : W p l e rmX1_room s m args below meth c H locs cells slots (MQ below (jRz jfJ Q D z A) args s 0 0 A) (F0 m 0 ls []) := by
  unfold wX1_room_0 at hw
  obtain ⟨hx, hb, hml, hown, hts, hr, hlocks, hnm, hK, hG, hfl⟩ := id hX
  have hown : s.vm.findClass RX1 = some m.cls := hown
  have hfX1 : ∀ w ∈ wsX10, w.before args s = true := fun w h => hts w (List.mem_cons_of_mem _ (List.mem_append_right _ h))
  refine j_aload_n (r := (some b)) hx hb dX1_room_0 rfl (lv_at hl 0 rfl) ?_
  obtain ⟨v1, hv1, hw⟩ := hw
  refine j_getz (C := RX1) (T := TX1) (N := 3) (ci := 4) (r := (some b)) (v := .int v1) hx hb hfX1 hown hK hI rfl 1 (by decide) (hts (.fieldLink RX1 9 "CashPools$Bank" "limit" "I") (List.mem_of_getElem? (i := 1) (by decide +kernel))) (fun _ h => h) hv1 dX1_room_1 ?_
  refine lv_iconst (v := (-1)) hx hb dX1_room_4 (by decide) ?_
  refine lv_icmp_ne (tgt := 14) hx hb dX1_room_5 (by decide) (fun hc => ?_) (fun hc => ?_)
  · have hw := hw.1 hc
    refine j_aload_n (r := (some b)) hx hb dX1_room_14 rfl (lv_at hl 0 rfl) ?_
    obtain ⟨v2, hv2, hw⟩ := hw
    refine j_getz (C := RX1) (T := TX1) (N := 3) (ci := 4) (r := (some b)) (v := .int v2) hx hb hfX1 hown hK hI rfl 1 (by decide) (hts (.fieldLink RX1 9 "CashPools$Bank" "limit" "I") (List.mem_of_getElem? (i := 1) (by decide +kernel))) (fun _ h => h) hv2 dX1_room_15 ?_
    refine lv_i2l hx hb dX1_room_18 rfl ?_
    refine j_aload_n (r := (some b)) hx hb dX1_room_19 rfl (lv_at hl 0 rfl) ?_
    obtain ⟨v3, hv3, hw⟩ := hw
    refine j_getz (C := RX1) (T := TX1) (N := 3) (ci := 4) (r := (some b)) (v := .long v3) hx hb hfX1 hown hK hI rfl 2 (by decide) (hts (.fieldLink RX1 18 "CashPools$Bank" "exposed" "J") (List.mem_of_getElem? (i := 3) (by decide +kernel))) (fun _ h => h) hv3 dX1_room_20 ?_
    refine lv_lsub hx hb dX1_room_23 ?_
    refine lv_lconst (v := (0)) hx hb dX1_room_24 (by decide) ?_
    refine va_mmax_long hx hb (by rw [hml]; exact hl.1.symm) hown (hts (.methodLink RX1 22 Lib.MathLoose.max_long.x) (List.mem_of_getElem? (i := 4) (by decide +kernel))) (hts (.static Lib.MathLoose.max_long.x) (List.mem_of_getElem? (i := 5) (by decide +kernel))) (hts (.initialized "java/lang/Math") (List.mem_of_getElem? (i := 6) (by decide +kernel))) (hts (.code Lib.MathLoose.max_long.x Lib.MathLoose.max_long.code 4 (some .long)) (List.mem_of_getElem? (i := 7) (by decide +kernel))) (Nat.le_of_ble_eq_true rfl) (Nat.le_of_ble_eq_true rfl) (by show _ ≤ 0; omega) (by show _ ≤ 0; omega) dX1_room_25 ?_
    exact j_lretz hx hb hr hlocks hI hw (by omega) (by omega) dX1_room_28
  · have hw := hw.2 hc
    refine lv_ldc2 (v := (4611686018427387904)) hx hb hown (hts (.constantLong RX1 28 (4611686018427387904)) (List.mem_of_getElem? (i := 2) (by decide +kernel))) dX1_room_8 ?_
    refine lv_goto (tgt := 28) hx hb dX1_room_11 (by decide) ?_
    exact j_lretz hx hb hr hlocks hI hw (by omega) (by omega) dX1_room_28
set_option maxHeartbeats 4000000 in
set_option maxRecDepth 100000 in
theorem kX1_room (l : Launch) (hfl : l.stackTraces = false) (D : jD) (z : Nat × Nat) (b : Nat)  (μ : jM) (sz : Nat) (Q : Int64 → jM → Prop) : Met l yX1_room wsX1_room rmX1_room (jPre2z D z μ sz [.ref b] (wX1_room z b  μ Q)) (jRz jfJ Q D z (jA z μ sz)) 0 0 (jA z μ sz) := by
  refine Met.ofW (cc := cX1_room) (maxL := 1) (ret := (some .long)) (by decide) rfl ?_
  intro p e s m args below meth c s₁ B hml hv
  obtain ⟨rfl, hsz, hH, hz0, hK, hG, hw⟩ := hv
  subst hsz
  have hX : jX2 D z (jA z μ s.heap.size) p l s m _ meth c yX1_room cX1_room 1 wsX1_room (some .long) := ⟨B.exec, B.bytes, hml, findClass_of_methodNamed B.named, atoms_spec (ws := wsX1_room) B.pre, B.returns, B.notSynchronized, (name_of_methodNamed B.named B.method).1, hK, hG, hfl⟩
  obtain ⟨ls, hg, hl⟩ : ∃ ls : Array Slot, entryFrame m ([.ref b] : List Value).toArray 1 = F0 m 0 ls [] ∧ lv_has ls 1 [(0, va_rf (some b))] := by
    exact ⟨_, lg_entry_eq .., lv_entry _ (n := 1) (Nat.le_of_ble_eq_true rfl)⟩
  rw [hg]
  exact kX1_room_0 hX hw (jIz.start hH hz0) (lv_sub hl [0] rfl) (by decide) (by decide)
set_option maxHeartbeats 4000000 in
set_option maxRecDepth 100000 in
theorem kX3_findGetter_53 (hX : jX2 D z A p l s m args meth c yX3_findGetter cX3_findGetter 5 wsX3_findGetter (some (.object "CashPools$Account"))) {Q : Option Nat → jM → Prop} {K4 : Option Nat → Option Nat → Int32 → jM → Prop} (hK4 : ∀ {x0 : Option Nat} {x1 : Option Nat} {x2 : Int32} {μ : jM} {H : Heap} {locs : List Loc} {ls : Array Slot} {cells slots : Nat}, K4 x0 x1 x2 μ → jIz D z A s.heap μ H locs → lv_has ls 5 [(0, va_rf x0), (1, va_rf x1), (2, .int x2)] → cells + 0 ≤ 0 → slots + 0 ≤ 0 → W p l e rmX3_findGetter s m args below meth c H locs cells slots (MQ below (jRz jfR Q D z A) args s 0 0 A) (F0 m 4 ls [])) {x0 : Option Nat} {x1 : Option Nat} {x2 : Int32} {x3 : Option Nat} {t0 : Int32} {μ : jM} {H : Heap} {locs : List Loc} {ls : Array Slot} {cells slots : Nat} (hw : wX3_findGetter_53 z K4 Q x0 x1 x2 x3 t0 μ) (hI : jIz D z A s.heap μ H locs) (hl : lv_has ls 5 [(0, va_rf x0), (1, va_rf x1), (2, .int x2), (3, va_rf x3)]) (hcn : cells + 0 ≤ 0) (hsn : slots + 0 ≤ 0) : W p l e rmX3_findGetter s m args below meth c H locs cells slots (MQ below (jRz jfR Q D z A) args s 0 0 A) (F0 m 53 ls [.int t0]) := by
  unfold wX3_findGetter_53 at hw
  obtain ⟨hx, hb, hml, hown, hts, hr, hlocks, hnm, hK, hG, hfl⟩ := id hX
  have hown : s.vm.findClass RX3 = some m.cls := hown
  have hfX0 : ∀ w ∈ wsX00, w.before args s = true := fun w h => hts w (List.mem_cons_of_mem _ (List.mem_append_left _ (List.mem_append_left _ (List.mem_append_right _ h))))
  refine j_istoreA (r := x3) (F := fun w => [(0, va_rf x0), (1, va_rf x1), (2, .int x2), (3, w)]) (F2 := fun w => [(4, .int t0), (0, va_rf x0), (1, va_rf x1), (2, .int x2), (3, w)]) hx hb dX3_findGetter_53 hl (by decide) (fun w hw => by rcases hw with rfl | ⟨_, rfl⟩ <;> rfl) (fun ls hl => ?_)
  refine lv_iload hx hb dX3_findGetter_55 (lv_at hl 0 rfl) ?_
  refine lv_if_eq (tgt := 84) hx hb dX3_findGetter_57 (by decide) (fun hc => ?_) (fun hc => ?_)
  · have hw := hw.1 hc
    obtain ⟨v1, ev1⟩ : ∃ y : Int32, y = x2 + (1 : Int32) := ⟨_, rfl⟩
    have hw := hw v1 ev1
    refine j_iincA (r := x1) (F := fun w => [(4, .int t0), (0, va_rf x0), (1, w), (2, .int x2), (3, va_rf x3)]) (F2 := fun w => [(2, .int v1), (4, .int t0), (0, va_rf x0), (1, w), (3, va_rf x3)]) (v := v1) hx hb dX3_findGetter_84 hl (k := 3) (fun _ => rfl) (by rw [ev1]; rfl) (by decide) (fun w hw => by rcases hw with rfl | ⟨_, rfl⟩ <;> rfl) (fun ls hl => ?_)
    refine lv_goto (tgt := 4) hx hb dX3_findGetter_87 (by decide) ?_
    exact hK4 hw hI (lv_sub hl [2, 3, 0] rfl) (by omega) (by omega)
  · have hw := hw.2 hc
    refine j_aload_n (r := x1) hx hb dX3_findGetter_60 rfl (lv_at hl 2 rfl) ?_
    refine j_ifnull (r := x1) (tgt := 82) hx hb dX3_findGetter_61 (by decide) (fun hc => ?_) (fun hc => ?_)
    · have hw := hw.1 hc
      refine j_aload_n (r := x3) hx hb dX3_findGetter_82 rfl (lv_at hl 4 rfl) ?_
      refine j_astore_nA (r := x0) (r0 := x3) (F := fun w => [(4, .int t0), (0, w), (1, va_rf x1), (2, .int x2), (3, va_rf x3)]) (F2 := fun w => [(1, va_rf x3), (4, .int t0), (0, w), (2, .int x2), (3, va_rf x3)]) hx hb dX3_findGetter_83 rfl hl (by decide) (fun w hw => by rcases hw with rfl | ⟨_, rfl⟩ <;> rfl) (fun ls hl => ?_)
      obtain ⟨v2, ev2⟩ : ∃ y : Int32, y = x2 + (1 : Int32) := ⟨_, rfl⟩
      have hw := hw v2 ev2
      refine j_iincA (r := x3) (F := fun w => [(1, w), (4, .int t0), (0, va_rf x0), (2, .int x2), (3, va_rf x3)]) (F2 := fun w => [(2, .int v2), (1, w), (4, .int t0), (0, va_rf x0), (3, va_rf x3)]) (v := v2) hx hb dX3_findGetter_84 hl (k := 3) (fun _ => rfl) (by rw [ev2]; rfl) (by decide) (fun w hw => by rcases hw with rfl | ⟨_, rfl⟩ <;> rfl) (fun ls hl => ?_)
      refine lv_goto (tgt := 4) hx hb dX3_findGetter_87 (by decide) ?_
      exact hK4 hw hI (lv_sub hl [3, 1, 0] rfl) (by omega) (by omega)
    · have hw := hw.2 hc
      refine j_aload_n (r := x3) hx hb dX3_findGetter_64 rfl (lv_at hl 4 rfl) ?_
      obtain ⟨v3, hv3, hw⟩ := hw
      refine j_getz (C := RX0) (T := TX0) (N := 12) (ci := 3) (r := x3) (v := va_rf v3) hx hb hfX0 hown hK hI rfl 3 (by decide) (hts (.fieldLink RX3 145 "CashPools$Account" "bank" "LCashPools$Bank;") (List.mem_of_getElem? (i := 4) (by decide +kernel))) (fun _ h => h) hv3 dX3_findGetter_65 ?_
      obtain ⟨b6, ⟨hrb6, hfs⟩, hw⟩ := hw
      refine j_goz hI (va_runV (As := []) (rest := []) ⟨hx, hb, hml, hown, hts⟩ (kX1_room l hfl D z b6  μ H.size _) (cwV 0 hts gX3_findGetter_X1_room rfl rfl rfl (by decide +kernel) ⟨Nat.le_of_ble_eq_true rfl, Nat.le_of_ble_eq_true rfl⟩) (j_prV2z hK hG hI hw (ci := 4) rfl hfs) rfl rfl hl.1 (by rw [hrb6]; rfl) (lv_room (Nat.le_of_ble_eq_true rfl)) dX3_findGetter_68 ⟨by show _ ≤ 0; omega, by show _ ≤ 0; omega⟩) (fun v4 μ5 H locs hw hI => ?_)
      refine W.eq (g2 := F0 m 71 ls [.long v4]) rfl ?_
      refine j_aload_n (r := x1) hx hb dX3_findGetter_71 rfl (lv_at hl 2 rfl) ?_
      obtain ⟨v7, hv7, hw⟩ := hw
      refine j_getz (C := RX0) (T := TX0) (N := 12) (ci := 3) (r := x1) (v := va_rf v7) hx hb hfX0 hown hK hI rfl 3 (by decide) (hts (.fieldLink RX3 145 "CashPools$Account" "bank" "LCashPools$Bank;") (List.mem_of_getElem? (i := 4) (by decide +kernel))) (fun _ h => h) hv7 dX3_findGetter_72 ?_
      obtain ⟨b10, ⟨hrb10, hfs⟩, hw⟩ := hw
      refine j_goz hI (va_runV (As := []) (rest := [.long v4]) ⟨hx, hb, hml, hown, hts⟩ (kX1_room l hfl D z b10  μ5 H.size _) (cwV 0 hts gX3_findGetter_X1_room rfl rfl rfl (by decide +kernel) ⟨Nat.le_of_ble_eq_true rfl, Nat.le_of_ble_eq_true rfl⟩) (j_prV2z hK hG hI hw (ci := 4) rfl hfs) rfl rfl hl.1 (by rw [hrb10]; rfl) (lv_room (Nat.le_of_ble_eq_true rfl)) dX3_findGetter_75 ⟨by show _ ≤ 0; omega, by show _ ≤ 0; omega⟩) (fun v8 μ9 H locs hw hI => ?_)
      refine W.eq (g2 := F0 m 78 ls [.long v8, .long v4]) rfl ?_
      refine j_lcmp_le (tgt := 84) hx hb dX3_findGetter_78 dX3_findGetter_79 (by decide) (fun hc => ?_) (fun hc => ?_)
      · have hw := hw.1 hc
        obtain ⟨v11, ev11⟩ : ∃ y : Int32, y = x2 + (1 : Int32) := ⟨_, rfl⟩
        have hw := hw v11 ev11
        refine j_iincA (r := x1) (F := fun w => [(4, .int t0), (0, va_rf x0), (1, w), (2, .int x2), (3, va_rf x3)]) (F2 := fun w => [(2, .int v11), (4, .int t0), (0, va_rf x0), (1, w), (3, va_rf x3)]) (v := v11) hx hb dX3_findGetter_84 hl (k := 3) (fun _ => rfl) (by rw [ev11]; rfl) (by decide) (fun w hw => by rcases hw with rfl | ⟨_, rfl⟩ <;> rfl) (fun ls hl => ?_)
        refine lv_goto (tgt := 4) hx hb dX3_findGetter_87 (by decide) ?_
        exact hK4 hw hI (lv_sub hl [2, 3, 0] rfl) (by omega) (by omega)
      · have hw := hw.2 hc
        refine j_aload_n (r := x3) hx hb dX3_findGetter_82 rfl (lv_at hl 4 rfl) ?_
        refine j_astore_nA (r := x0) (r0 := x3) (F := fun w => [(4, .int t0), (0, w), (1, va_rf x1), (2, .int x2), (3, va_rf x3)]) (F2 := fun w => [(1, va_rf x3), (4, .int t0), (0, w), (2, .int x2), (3, va_rf x3)]) hx hb dX3_findGetter_83 rfl hl (by decide) (fun w hw => by rcases hw with rfl | ⟨_, rfl⟩ <;> rfl) (fun ls hl => ?_)
        obtain ⟨v12, ev12⟩ : ∃ y : Int32, y = x2 + (1 : Int32) := ⟨_, rfl⟩
        have hw := hw v12 ev12
        refine j_iincA (r := x3) (F := fun w => [(1, w), (4, .int t0), (0, va_rf x0), (2, .int x2), (3, va_rf x3)]) (F2 := fun w => [(2, .int v12), (1, w), (4, .int t0), (0, va_rf x0), (3, va_rf x3)]) (v := v12) hx hb dX3_findGetter_84 hl (k := 3) (fun _ => rfl) (by rw [ev12]; rfl) (by decide) (fun w hw => by rcases hw with rfl | ⟨_, rfl⟩ <;> rfl) (fun ls hl => ?_)
        refine lv_goto (tgt := 4) hx hb dX3_findGetter_87 (by decide) ?_
        exact hK4 hw hI (lv_sub hl [3, 1, 0] rfl) (by omega) (by omega)
set_option maxHeartbeats 4000000 in
set_option maxRecDepth 100000 in
theorem kX3_findGetter_52 (hX : jX2 D z A p l s m args meth c yX3_findGetter cX3_findGetter 5 wsX3_findGetter (some (.object "CashPools$Account"))) {Q : Option Nat → jM → Prop} {K4 : Option Nat → Option Nat → Int32 → jM → Prop} (hK4 : ∀ {x0 : Option Nat} {x1 : Option Nat} {x2 : Int32} {μ : jM} {H : Heap} {locs : List Loc} {ls : Array Slot} {cells slots : Nat}, K4 x0 x1 x2 μ → jIz D z A s.heap μ H locs → lv_has ls 5 [(0, va_rf x0), (1, va_rf x1), (2, .int x2)] → cells + 0 ≤ 0 → slots + 0 ≤ 0 → W p l e rmX3_findGetter s m args below meth c H locs cells slots (MQ below (jRz jfR Q D z A) args s 0 0 A) (F0 m 4 ls [])) {x0 : Option Nat} {x1 : Option Nat} {x2 : Int32} {x3 : Option Nat} {μ : jM} {H : Heap} {locs : List Loc} {ls : Array Slot} {cells slots : Nat} (hw : wX3_findGetter_52 z K4 Q x0 x1 x2 x3 μ) (hI : jIz D z A s.heap μ H locs) (hl : lv_has ls 5 [(0, va_rf x0), (1, va_rf x1), (2, .int x2), (3, va_rf x3)]) (hcn : cells + 0 ≤ 0) (hsn : slots + 0 ≤ 0) : W p l e rmX3_findGetter s m args below meth c H locs cells slots (MQ below (jRz jfR Q D z A) args s 0 0 A) (F0 m 52 ls []) := by
  unfold wX3_findGetter_52 at hw
  obtain ⟨hx, hb, hml, hown, hts, hr, hlocks, hnm, hK, hG, hfl⟩ := id hX
  have hown : s.vm.findClass RX3 = some m.cls := hown
  refine lv_iconst (v := (0)) hx hb dX3_findGetter_52 (by decide) ?_
  exact kX3_findGetter_53 hX hK4 hw hI (lv_sub hl [0, 1, 2, 3] rfl) (by omega) (by omega)
set_option maxHeartbeats 4000000 in
set_option maxRecDepth 100000 in
theorem kX3_findGetter_4 (hX : jX2 D z A p l s m args meth c yX3_findGetter cX3_findGetter 5 wsX3_findGetter (some (.object "CashPools$Account"))) {Q : Option Nat → jM → Prop}  (n : Nat) : ∀ {x0 : Option Nat} {x1 : Option Nat} {x2 : Int32} {μ : jM} {H : Heap} {locs : List Loc} {ls : Array Slot} {cells slots : Nat}, wX3_findGetter_4 z Q n x0 x1 x2 μ → jIz D z A s.heap μ H locs → lv_has ls 5 [(0, va_rf x0), (1, va_rf x1), (2, .int x2)] → cells + 0 ≤ 0 → slots + 0 ≤ 0 → W p l e rmX3_findGetter s m args below meth c H locs cells slots (MQ below (jRz jfR Q D z A) args s 0 0 A) (F0 m 4 ls []) := by
  induction n with
  | zero =>
    intros
    rename_i hw _ _ _ _
    exact (show False from hw).elim
  | succ n ih =>
    intro x0 x1 x2 μ H locs ls cells slots hw hI hl hcn hsn
    have hw : wX3_findGetter_4_b z Q (wX3_findGetter_4 z Q n) x0 x1 x2 μ := hw
    unfold wX3_findGetter_4_b at hw
    obtain ⟨hx, hb, hml, hown, hts, hr, hlocks, hnm, hK, hG, hfl⟩ := id hX
    have hown : s.vm.findClass RX3 = some m.cls := hown
    have hfX0 : ∀ w ∈ wsX00, w.before args s = true := fun w h => hts w (List.mem_cons_of_mem _ (List.mem_append_left _ (List.mem_append_left _ (List.mem_append_right _ h))))
    have hfX6 : ∀ w ∈ wsX60, w.before args s = true := fun w h => hts w (List.mem_cons_of_mem _ (List.mem_append_left _ (List.mem_append_left _ (List.mem_append_left _ (List.mem_append_right _ h)))))
    refine lv_iload_n hx hb dX3_findGetter_4 rfl (lv_at hl 2 rfl) ?_
    refine j_aload_n (r := x0) hx hb dX3_findGetter_5 rfl (lv_at hl 0 rfl) ?_
    obtain ⟨v1, hv1, hw⟩ := hw
    refine j_getz (C := RX6) (T := TX6) (N := 5) (ci := 9) (r := x0) (v := va_rf v1) hx hb hfX6 hown hK hI rfl 3 (by decide) (hts (.fieldLink RX3 71 "CashPools$Pool" "members" "Ljava/util/ArrayList;") (List.mem_of_getElem? (i := 1) (by decide +kernel))) (fun _ h => h) hv1 dX3_findGetter_6 ?_
    obtain ⟨b4, ⟨hrb4, hfs⟩, hw⟩ := hw
    refine j_goz hI (va_runV (As := []) (rest := [.int x2]) ⟨hx, hb, hml, hown, hts⟩ (kJx4a65c_size_8abf5 l hfl D z b4  μ H.size _) (cwV 0 hts gX3_findGetter_Jx4a65c_size_8abf5 rfl rfl rfl (by decide +kernel) ⟨Nat.le_of_ble_eq_true rfl, Nat.le_of_ble_eq_true rfl⟩) (j_prV2z hK hG hI hw (ci := 2) rfl hfs) rfl rfl hl.1 (by rw [hrb4]; rfl) (lv_room (Nat.le_of_ble_eq_true rfl)) dX3_findGetter_9 ⟨by show _ ≤ 0; omega, by show _ ≤ 0; omega⟩) (fun v2 μ3 H locs hw hI => ?_)
    refine W.eq (g2 := F0 m 12 ls [.int v2, .int x2]) rfl ?_
    refine lv_icmp_ge (tgt := 90) hx hb dX3_findGetter_12 (by decide) (fun hc => ?_) (fun hc => ?_)
    · have hw := hw.1 hc
      refine j_aload_n (r := x1) hx hb dX3_findGetter_90 rfl (lv_at hl 1 rfl) ?_
      exact j_aretz (v := x1) hx hb hr (Or.inl ⟨_, rfl⟩) hlocks hI hw (by omega) (by omega) dX3_findGetter_91
    · have hw := hw.2 hc
      refine j_aload_n (r := x0) hx hb dX3_findGetter_15 rfl (lv_at hl 0 rfl) ?_
      obtain ⟨v5, hv5, hw⟩ := hw
      refine j_getz (C := RX6) (T := TX6) (N := 5) (ci := 9) (r := x0) (v := va_rf v5) hx hb hfX6 hown hK hI rfl 3 (by decide) (hts (.fieldLink RX3 71 "CashPools$Pool" "members" "Ljava/util/ArrayList;") (List.mem_of_getElem? (i := 1) (by decide +kernel))) (fun _ h => h) hv5 dX3_findGetter_16 ?_
      refine lv_iload_n hx hb dX3_findGetter_19 rfl (lv_at hl 2 rfl) ?_
      obtain ⟨b8, ⟨hrb8, hfs⟩, hw⟩ := hw
      refine j_goz hI (va_runV (As := [.int x2]) (rest := []) ⟨hx, hb, hml, hown, hts⟩ (kJx4a65c_get_915e3 l hfl D z b8 x2 μ3 H.size _) (cwV 1 hts gX3_findGetter_Jx4a65c_get_915e3 rfl rfl rfl (by decide +kernel) ⟨Nat.le_of_ble_eq_true rfl, Nat.le_of_ble_eq_true rfl⟩) (j_prV2z hK hG hI hw (ci := 2) rfl hfs) rfl rfl hl.1 (by rw [hrb8]; rfl) (lv_room (Nat.le_of_ble_eq_true rfl)) dX3_findGetter_20 ⟨by show _ ≤ 0; omega, by show _ ≤ 0; omega⟩) (fun v6 μ7 H locs hw hI => ?_)
      refine W.eq (g2 := F0 m 23 ls [va_rf v6]) rfl ?_
      obtain ⟨h9, hw⟩ := hw
      refine j_castz (C := RX0) (T := TX0) (N := 12) (ci := 3) (r := v6) hx hb hown (hts (.classLink RX3 55 "CashPools$Account") (List.mem_of_getElem? (i := 2) (by decide +kernel))) hK hI rfl h9 dX3_findGetter_23 ?_
      refine j_astore_n (r := v6) (lv' := [(3, va_rf v6), (0, va_rf x0), (1, va_rf x1), (2, .int x2)]) hx hb dX3_findGetter_26 rfl hl (by decide) rfl (fun ls hl => ?_)
      refine j_aload_n (r := v6) hx hb dX3_findGetter_27 rfl (lv_at hl 0 rfl) ?_
      obtain ⟨v10, hv10, hw⟩ := hw
      refine j_getz (C := RX0) (T := TX0) (N := 12) (ci := 3) (r := v6) (v := .long v10) hx hb hfX0 hown hK hI rfl 8 (by decide) (hts (.fieldLink RX3 149 "CashPools$Account" "cash" "J") (List.mem_of_getElem? (i := 3) (by decide +kernel))) (fun _ h => h) hv10 dX3_findGetter_28 ?_
      refine lv_lconst (v := (0)) hx hb dX3_findGetter_31 (by decide) ?_
      refine j_lcmp_lt (tgt := 52) hx hb dX3_findGetter_32 dX3_findGetter_33 (by decide) (fun hc => ?_) (fun hc => ?_)
      · have hw := hw.1 hc
        exact kX3_findGetter_52 hX ih hw hI (lv_sub hl [1, 2, 3, 0] rfl) (by omega) (by omega)
      · have hw := hw.2 hc
        refine j_aload_n (r := v6) hx hb dX3_findGetter_36 rfl (lv_at hl 0 rfl) ?_
        obtain ⟨v11, hv11, hw⟩ := hw
        refine j_getz (C := RX0) (T := TX0) (N := 12) (ci := 3) (r := v6) (v := va_rf v11) hx hb hfX0 hown hK hI rfl 3 (by decide) (hts (.fieldLink RX3 145 "CashPools$Account" "bank" "LCashPools$Bank;") (List.mem_of_getElem? (i := 4) (by decide +kernel))) (fun _ h => h) hv11 dX3_findGetter_37 ?_
        obtain ⟨b14, ⟨hrb14, hfs⟩, hw⟩ := hw
        refine j_goz hI (va_runV (As := []) (rest := []) ⟨hx, hb, hml, hown, hts⟩ (kX1_room l hfl D z b14  μ7 H.size _) (cwV 0 hts gX3_findGetter_X1_room rfl rfl rfl (by decide +kernel) ⟨Nat.le_of_ble_eq_true rfl, Nat.le_of_ble_eq_true rfl⟩) (j_prV2z hK hG hI hw (ci := 4) rfl hfs) rfl rfl hl.1 (by rw [hrb14]; rfl) (lv_room (Nat.le_of_ble_eq_true rfl)) dX3_findGetter_40 ⟨by show _ ≤ 0; omega, by show _ ≤ 0; omega⟩) (fun v12 μ13 H locs hw hI => ?_)
        refine W.eq (g2 := F0 m 43 ls [.long v12]) rfl ?_
        refine lv_lconst (v := (0)) hx hb dX3_findGetter_43 (by decide) ?_
        refine j_lcmp_le (tgt := 52) hx hb dX3_findGetter_44 dX3_findGetter_45 (by decide) (fun hc => ?_) (fun hc => ?_)
        · have hw := hw.1 hc
          exact kX3_findGetter_52 hX ih hw hI (lv_sub hl [1, 2, 3, 0] rfl) (by omega) (by omega)
        · have hw := hw.2 hc
          refine lv_iconst (v := (1)) hx hb dX3_findGetter_48 (by decide) ?_
          refine lv_goto (tgt := 53) hx hb dX3_findGetter_49 (by decide) ?_
          exact kX3_findGetter_53 hX ih hw hI (lv_sub hl [1, 2, 3, 0] rfl) (by omega) (by omega)
set_option maxHeartbeats 4000000 in
set_option maxRecDepth 100000 in
theorem kX3_findGetter_0 (hX : jX2 D z A p l s m args meth c yX3_findGetter cX3_findGetter 5 wsX3_findGetter (some (.object "CashPools$Account"))) {Q : Option Nat → jM → Prop}  {x0 : Option Nat} {μ : jM} {H : Heap} {locs : List Loc} {ls : Array Slot} {cells slots : Nat} (hw : wX3_findGetter_0 z Q x0 μ) (hI : jIz D z A s.heap μ H locs) (hl : lv_has ls 5 [(0, va_rf x0)]) (hcn : cells + 0 ≤ 0) (hsn : slots + 0 ≤ 0) : W p l e rmX3_findGetter s m args below meth c H locs cells slots (MQ below (jRz jfR Q D z A) args s 0 0 A) (F0 m 0 ls []) := by
  unfold wX3_findGetter_0 at hw
  obtain ⟨hx, hb, hml, hown, hts, hr, hlocks, hnm, hK, hG, hfl⟩ := id hX
  have hown : s.vm.findClass RX3 = some m.cls := hown
  refine j_null hx hb dX3_findGetter_0 ?_
  refine j_astore_nA (r := x0) (r0 := none) (F := fun w => [(0, w)]) (F2 := fun w => [(1, va_rf none), (0, w)]) hx hb dX3_findGetter_1 rfl hl (by decide) (fun w hw => by rcases hw with rfl | ⟨_, rfl⟩ <;> rfl) (fun ls hl => ?_)
  refine lv_iconst (v := (0)) hx hb dX3_findGetter_2 (by decide) ?_
  refine lv_topi (fun v1 ev1 => ?_)
  have hw := hw v1 ev1
  refine j_istore_nA (r := none) (F := fun w => [(1, w), (0, va_rf x0)]) (F2 := fun w => [(2, .int v1), (1, w), (0, va_rf x0)]) hx hb dX3_findGetter_3 rfl hl (by decide) (fun w hw => by rcases hw with rfl | ⟨_, rfl⟩ <;> rfl) (fun ls hl => ?_)
  obtain ⟨n2, hw⟩ := hw
  exact kX3_findGetter_4 hX  n2 hw hI (lv_sub hl [2, 1, 0] rfl) (by omega) (by omega)
set_option maxHeartbeats 4000000 in
set_option maxRecDepth 100000 in
theorem kX3_findGetter (l : Launch) (hfl : l.stackTraces = false) (D : jD) (z : Nat × Nat) (x0 : Option Nat) (μ : jM) (sz : Nat) (Q : Option Nat → jM → Prop) : Met l yX3_findGetter wsX3_findGetter rmX3_findGetter (jPre2z D z μ sz [va_rf x0] (wX3_findGetter z x0 μ Q)) (jRz jfR Q D z (jA z μ sz)) 0 0 (jA z μ sz) := by
  refine Met.ofW (cc := cX3_findGetter) (maxL := 5) (ret := (some (.object "CashPools$Account"))) (by decide) rfl ?_
  intro p e s m args below meth c s₁ B hml hv
  obtain ⟨rfl, hsz, hH, hz0, hK, hG, hw⟩ := hv
  subst hsz
  have hX : jX2 D z (jA z μ s.heap.size) p l s m _ meth c yX3_findGetter cX3_findGetter 5 wsX3_findGetter (some (.object "CashPools$Account")) := ⟨B.exec, B.bytes, hml, findClass_of_methodNamed B.named, atoms_spec (ws := wsX3_findGetter) B.pre, B.returns, B.notSynchronized, (name_of_methodNamed B.named B.method).1, hK, hG, hfl⟩
  obtain ⟨ls, hg, hl⟩ : ∃ ls : Array Slot, entryFrame m ([va_rf x0] : List Value).toArray 5 = F0 m 0 ls [] ∧ lv_has ls 5 [(0, va_rf x0)] := by
    cases x0 <;> exact ⟨_, lg_entry_eq .., lv_entry _ (n := 5) (Nat.le_of_ble_eq_true rfl)⟩
  rw [hg]
  exact kX3_findGetter_0 hX hw (jIz.start hH hz0) (lv_sub hl [0] rfl) (by decide) (by decide)
set_option maxHeartbeats 4000000 in
set_option maxRecDepth 100000 in
theorem kX3_givesBefore_0 (hX : jX2 D z A p l s m args meth c yX3_givesBefore cX3_givesBefore 2 wsX3_givesBefore (some .boolean)) {Q : Int32 → jM → Prop}  {x0 : Option Nat} {x1 : Option Nat} {μ : jM} {H : Heap} {locs : List Loc} {ls : Array Slot} {cells slots : Nat} (hw : wX3_givesBefore_0 z Q x0 x1 μ) (hI : jIz D z A s.heap μ H locs) (hl : lv_has ls 2 [(0, va_rf x0), (1, va_rf x1)]) (hcn : cells + 0 ≤ 0) (hsn : slots + 0 ≤ 0) : W p l e rmX3_givesBefore s m args below meth c H locs cells slots (MQ below (jRz jfI Q D z A) args s 0 0 A) (F0 m 0 ls []) := by
  unfold wX3_givesBefore_0 at hw
  obtain ⟨hx, hb, hml, hown, hts, hr, hlocks, hnm, hK, hG, hfl⟩ := id hX
  have hown : s.vm.findClass RX3 = some m.cls := hown
  have hfX0 : ∀ w ∈ wsX00, w.before args s = true := fun w h => hts w (List.mem_cons_of_mem _ (List.mem_append_left _ (List.mem_append_right _ h)))
  have hfX1 : ∀ w ∈ wsX10, w.before args s = true := fun w h => hts w (List.mem_cons_of_mem _ (List.mem_append_right _ h))
  refine j_aload_n (r := x0) hx hb dX3_givesBefore_0 rfl (lv_at hl 0 rfl) ?_
  obtain ⟨v1, hv1, hw⟩ := hw
  refine j_getz (C := RX0) (T := TX0) (N := 12) (ci := 3) (r := x0) (v := va_rf v1) hx hb hfX0 hown hK hI rfl 3 (by decide) (hts (.fieldLink RX3 145 "CashPools$Account" "bank" "LCashPools$Bank;") (List.mem_of_getElem? (i := 1) (by decide +kernel))) (fun _ h => h) hv1 dX3_givesBefore_1 ?_
  obtain ⟨v2, hv2, hw⟩ := hw
  refine j_getz (C := RX1) (T := TX1) (N := 3) (ci := 4) (r := v1) (v := .int v2) hx hb hfX1 hown hK hI rfl 0 (by decide) (hts (.fieldLink RX3 170 "CashPools$Bank" "number" "I") (List.mem_of_getElem? (i := 2) (by decide +kernel))) (fun _ h => h) hv2 dX3_givesBefore_4 ?_
  refine j_aload_n (r := x1) hx hb dX3_givesBefore_7 rfl (lv_at hl 1 rfl) ?_
  obtain ⟨v3, hv3, hw⟩ := hw
  refine j_getz (C := RX0) (T := TX0) (N := 12) (ci := 3) (r := x1) (v := va_rf v3) hx hb hfX0 hown hK hI rfl 3 (by decide) (hts (.fieldLink RX3 145 "CashPools$Account" "bank" "LCashPools$Bank;") (List.mem_of_getElem? (i := 1) (by decide +kernel))) (fun _ h => h) hv3 dX3_givesBefore_8 ?_
  obtain ⟨v4, hv4, hw⟩ := hw
  refine j_getz (C := RX1) (T := TX1) (N := 3) (ci := 4) (r := v3) (v := .int v4) hx hb hfX1 hown hK hI rfl 0 (by decide) (hts (.fieldLink RX3 170 "CashPools$Bank" "number" "I") (List.mem_of_getElem? (i := 2) (by decide +kernel))) (fun _ h => h) hv4 dX3_givesBefore_11 ?_
  refine lv_icmp_ne (tgt := 35) hx hb dX3_givesBefore_14 (by decide) (fun hc => ?_) (fun hc => ?_)
  · have hw := hw.1 hc
    refine j_aload_n (r := x0) hx hb dX3_givesBefore_35 rfl (lv_at hl 0 rfl) ?_
    obtain ⟨v5, hv5, hw⟩ := hw
    refine j_getz (C := RX0) (T := TX0) (N := 12) (ci := 3) (r := x0) (v := va_rf v5) hx hb hfX0 hown hK hI rfl 3 (by decide) (hts (.fieldLink RX3 145 "CashPools$Account" "bank" "LCashPools$Bank;") (List.mem_of_getElem? (i := 1) (by decide +kernel))) (fun _ h => h) hv5 dX3_givesBefore_36 ?_
    obtain ⟨b8, ⟨hrb8, hfs⟩, hw⟩ := hw
    refine j_goz hI (va_runV (As := []) (rest := []) ⟨hx, hb, hml, hown, hts⟩ (kX1_excess l hfl D z b8  μ H.size _) (cwV 0 hts gX3_givesBefore_X1_excess rfl rfl rfl (by decide +kernel) ⟨Nat.le_of_ble_eq_true rfl, Nat.le_of_ble_eq_true rfl⟩) (j_prV2z hK hG hI hw (ci := 4) rfl hfs) rfl rfl hl.1 (by rw [hrb8]; rfl) (lv_room (Nat.le_of_ble_eq_true rfl)) dX3_givesBefore_39 ⟨by show _ ≤ 0; omega, by show _ ≤ 0; omega⟩) (fun v6 μ7 H locs hw hI => ?_)
    refine W.eq (g2 := F0 m 42 ls [.long v6]) rfl ?_
    refine j_aload_n (r := x1) hx hb dX3_givesBefore_42 rfl (lv_at hl 1 rfl) ?_
    obtain ⟨v9, hv9, hw⟩ := hw
    refine j_getz (C := RX0) (T := TX0) (N := 12) (ci := 3) (r := x1) (v := va_rf v9) hx hb hfX0 hown hK hI rfl 3 (by decide) (hts (.fieldLink RX3 145 "CashPools$Account" "bank" "LCashPools$Bank;") (List.mem_of_getElem? (i := 1) (by decide +kernel))) (fun _ h => h) hv9 dX3_givesBefore_43 ?_
    obtain ⟨b12, ⟨hrb12, hfs⟩, hw⟩ := hw
    refine j_goz hI (va_runV (As := []) (rest := [.long v6]) ⟨hx, hb, hml, hown, hts⟩ (kX1_excess l hfl D z b12  μ7 H.size _) (cwV 0 hts gX3_givesBefore_X1_excess rfl rfl rfl (by decide +kernel) ⟨Nat.le_of_ble_eq_true rfl, Nat.le_of_ble_eq_true rfl⟩) (j_prV2z hK hG hI hw (ci := 4) rfl hfs) rfl rfl hl.1 (by rw [hrb12]; rfl) (lv_room (Nat.le_of_ble_eq_true rfl)) dX3_givesBefore_46 ⟨by show _ ≤ 0; omega, by show _ ≤ 0; omega⟩) (fun v10 μ11 H locs hw hI => ?_)
    refine W.eq (g2 := F0 m 49 ls [.long v10, .long v6]) rfl ?_
    refine j_lcmp_eq (tgt := 77) hx hb dX3_givesBefore_49 dX3_givesBefore_50 (by decide) (fun hc => ?_) (fun hc => ?_)
    · have hw := hw.1 hc
      refine j_aload_n (r := x0) hx hb dX3_givesBefore_77 rfl (lv_at hl 0 rfl) ?_
      obtain ⟨v13, hv13, hw⟩ := hw
      refine j_getz (C := RX0) (T := TX0) (N := 12) (ci := 3) (r := x0) (v := va_rf v13) hx hb hfX0 hown hK hI rfl 3 (by decide) (hts (.fieldLink RX3 145 "CashPools$Account" "bank" "LCashPools$Bank;") (List.mem_of_getElem? (i := 1) (by decide +kernel))) (fun _ h => h) hv13 dX3_givesBefore_78 ?_
      obtain ⟨v14, hv14, hw⟩ := hw
      refine j_getz (C := RX1) (T := TX1) (N := 3) (ci := 4) (r := v13) (v := .int v14) hx hb hfX1 hown hK hI rfl 0 (by decide) (hts (.fieldLink RX3 170 "CashPools$Bank" "number" "I") (List.mem_of_getElem? (i := 2) (by decide +kernel))) (fun _ h => h) hv14 dX3_givesBefore_81 ?_
      refine j_aload_n (r := x1) hx hb dX3_givesBefore_84 rfl (lv_at hl 1 rfl) ?_
      obtain ⟨v15, hv15, hw⟩ := hw
      refine j_getz (C := RX0) (T := TX0) (N := 12) (ci := 3) (r := x1) (v := va_rf v15) hx hb hfX0 hown hK hI rfl 3 (by decide) (hts (.fieldLink RX3 145 "CashPools$Account" "bank" "LCashPools$Bank;") (List.mem_of_getElem? (i := 1) (by decide +kernel))) (fun _ h => h) hv15 dX3_givesBefore_85 ?_
      obtain ⟨v16, hv16, hw⟩ := hw
      refine j_getz (C := RX1) (T := TX1) (N := 3) (ci := 4) (r := v15) (v := .int v16) hx hb hfX1 hown hK hI rfl 0 (by decide) (hts (.fieldLink RX3 170 "CashPools$Bank" "number" "I") (List.mem_of_getElem? (i := 2) (by decide +kernel))) (fun _ h => h) hv16 dX3_givesBefore_88 ?_
      refine lv_icmp_ge (tgt := 98) hx hb dX3_givesBefore_91 (by decide) (fun hc => ?_) (fun hc => ?_)
      · have hw := hw.1 hc
        refine lv_iconst (v := (0)) hx hb dX3_givesBefore_98 (by decide) ?_
        exact j_zretz hx hb hr rfl hlocks hI hw (by omega) (by omega) dX3_givesBefore_99
      · have hw := hw.2 hc
        refine lv_iconst (v := (1)) hx hb dX3_givesBefore_94 (by decide) ?_
        refine lv_goto (tgt := 99) hx hb dX3_givesBefore_95 (by decide) ?_
        exact j_zretz hx hb hr rfl hlocks hI hw (by omega) (by omega) dX3_givesBefore_99
    · have hw := hw.2 hc
      refine j_aload_n (r := x0) hx hb dX3_givesBefore_53 rfl (lv_at hl 0 rfl) ?_
      obtain ⟨v17, hv17, hw⟩ := hw
      refine j_getz (C := RX0) (T := TX0) (N := 12) (ci := 3) (r := x0) (v := va_rf v17) hx hb hfX0 hown hK hI rfl 3 (by decide) (hts (.fieldLink RX3 145 "CashPools$Account" "bank" "LCashPools$Bank;") (List.mem_of_getElem? (i := 1) (by decide +kernel))) (fun _ h => h) hv17 dX3_givesBefore_54 ?_
      obtain ⟨b20, ⟨hrb20, hfs⟩, hw⟩ := hw
      refine j_goz hI (va_runV (As := []) (rest := []) ⟨hx, hb, hml, hown, hts⟩ (kX1_excess l hfl D z b20  μ11 H.size _) (cwV 0 hts gX3_givesBefore_X1_excess rfl rfl rfl (by decide +kernel) ⟨Nat.le_of_ble_eq_true rfl, Nat.le_of_ble_eq_true rfl⟩) (j_prV2z hK hG hI hw (ci := 4) rfl hfs) rfl rfl hl.1 (by rw [hrb20]; rfl) (lv_room (Nat.le_of_ble_eq_true rfl)) dX3_givesBefore_57 ⟨by show _ ≤ 0; omega, by show _ ≤ 0; omega⟩) (fun v18 μ19 H locs hw hI => ?_)
      refine W.eq (g2 := F0 m 60 ls [.long v18]) rfl ?_
      refine j_aload_n (r := x1) hx hb dX3_givesBefore_60 rfl (lv_at hl 1 rfl) ?_
      obtain ⟨v21, hv21, hw⟩ := hw
      refine j_getz (C := RX0) (T := TX0) (N := 12) (ci := 3) (r := x1) (v := va_rf v21) hx hb hfX0 hown hK hI rfl 3 (by decide) (hts (.fieldLink RX3 145 "CashPools$Account" "bank" "LCashPools$Bank;") (List.mem_of_getElem? (i := 1) (by decide +kernel))) (fun _ h => h) hv21 dX3_givesBefore_61 ?_
      obtain ⟨b24, ⟨hrb24, hfs⟩, hw⟩ := hw
      refine j_goz hI (va_runV (As := []) (rest := [.long v18]) ⟨hx, hb, hml, hown, hts⟩ (kX1_excess l hfl D z b24  μ19 H.size _) (cwV 0 hts gX3_givesBefore_X1_excess rfl rfl rfl (by decide +kernel) ⟨Nat.le_of_ble_eq_true rfl, Nat.le_of_ble_eq_true rfl⟩) (j_prV2z hK hG hI hw (ci := 4) rfl hfs) rfl rfl hl.1 (by rw [hrb24]; rfl) (lv_room (Nat.le_of_ble_eq_true rfl)) dX3_givesBefore_64 ⟨by show _ ≤ 0; omega, by show _ ≤ 0; omega⟩) (fun v22 μ23 H locs hw hI => ?_)
      refine W.eq (g2 := F0 m 67 ls [.long v22, .long v18]) rfl ?_
      refine j_lcmp_le (tgt := 75) hx hb dX3_givesBefore_67 dX3_givesBefore_68 (by decide) (fun hc => ?_) (fun hc => ?_)
      · have hw := hw.1 hc
        refine lv_iconst (v := (0)) hx hb dX3_givesBefore_75 (by decide) ?_
        exact j_zretz hx hb hr rfl hlocks hI hw (by omega) (by omega) dX3_givesBefore_76
      · have hw := hw.2 hc
        refine lv_iconst (v := (1)) hx hb dX3_givesBefore_71 (by decide) ?_
        refine lv_goto (tgt := 76) hx hb dX3_givesBefore_72 (by decide) ?_
        exact j_zretz hx hb hr rfl hlocks hI hw (by omega) (by omega) dX3_givesBefore_76
  · have hw := hw.2 hc
    refine j_aload_n (r := x0) hx hb dX3_givesBefore_17 rfl (lv_at hl 0 rfl) ?_
    obtain ⟨v25, hv25, hw⟩ := hw
    refine j_getz (C := RX0) (T := TX0) (N := 12) (ci := 3) (r := x0) (v := .long v25) hx hb hfX0 hown hK hI rfl 8 (by decide) (hts (.fieldLink RX3 149 "CashPools$Account" "cash" "J") (List.mem_of_getElem? (i := 3) (by decide +kernel))) (fun _ h => h) hv25 dX3_givesBefore_18 ?_
    refine j_aload_n (r := x1) hx hb dX3_givesBefore_21 rfl (lv_at hl 1 rfl) ?_
    obtain ⟨v26, hv26, hw⟩ := hw
    refine j_getz (C := RX0) (T := TX0) (N := 12) (ci := 3) (r := x1) (v := .long v26) hx hb hfX0 hown hK hI rfl 8 (by decide) (hts (.fieldLink RX3 149 "CashPools$Account" "cash" "J") (List.mem_of_getElem? (i := 3) (by decide +kernel))) (fun _ h => h) hv26 dX3_givesBefore_22 ?_
    refine j_lcmp_le (tgt := 33) hx hb dX3_givesBefore_25 dX3_givesBefore_26 (by decide) (fun hc => ?_) (fun hc => ?_)
    · have hw := hw.1 hc
      refine lv_iconst (v := (0)) hx hb dX3_givesBefore_33 (by decide) ?_
      exact j_zretz hx hb hr rfl hlocks hI hw (by omega) (by omega) dX3_givesBefore_34
    · have hw := hw.2 hc
      refine lv_iconst (v := (1)) hx hb dX3_givesBefore_29 (by decide) ?_
      refine lv_goto (tgt := 34) hx hb dX3_givesBefore_30 (by decide) ?_
      exact j_zretz hx hb hr rfl hlocks hI hw (by omega) (by omega) dX3_givesBefore_34
set_option maxHeartbeats 4000000 in
set_option maxRecDepth 100000 in
theorem kX3_givesBefore (l : Launch) (hfl : l.stackTraces = false) (D : jD) (z : Nat × Nat) (x0 : Option Nat) (x1 : Option Nat) (μ : jM) (sz : Nat) (Q : Int32 → jM → Prop) : Met l yX3_givesBefore wsX3_givesBefore rmX3_givesBefore (jPre2z D z μ sz [va_rf x0, va_rf x1] (wX3_givesBefore z x0 x1 μ Q)) (jRz jfI Q D z (jA z μ sz)) 0 0 (jA z μ sz) := by
  refine Met.ofW (cc := cX3_givesBefore) (maxL := 2) (ret := (some .boolean)) (by decide) rfl ?_
  intro p e s m args below meth c s₁ B hml hv
  obtain ⟨rfl, hsz, hH, hz0, hK, hG, hw⟩ := hv
  subst hsz
  have hX : jX2 D z (jA z μ s.heap.size) p l s m _ meth c yX3_givesBefore cX3_givesBefore 2 wsX3_givesBefore (some .boolean) := ⟨B.exec, B.bytes, hml, findClass_of_methodNamed B.named, atoms_spec (ws := wsX3_givesBefore) B.pre, B.returns, B.notSynchronized, (name_of_methodNamed B.named B.method).1, hK, hG, hfl⟩
  obtain ⟨ls, hg, hl⟩ : ∃ ls : Array Slot, entryFrame m ([va_rf x0, va_rf x1] : List Value).toArray 2 = F0 m 0 ls [] ∧ lv_has ls 2 [(0, va_rf x0), (1, va_rf x1)] := by
    cases x0 <;> cases x1 <;> exact ⟨_, lg_entry_eq .., lv_entry _ (n := 2) (Nat.le_of_ble_eq_true rfl)⟩
  rw [hg]
  exact kX3_givesBefore_0 hX hw (jIz.start hH hz0) (lv_sub hl [0, 1] rfl) (by decide) (by decide)
set_option maxHeartbeats 4000000 in
set_option maxRecDepth 100000 in
theorem kX3_findGiver_63 {b : Nat} (hX : jX2 D z A p l s m args meth c yX3_findGiver cX3_findGiver 5 wsX3_findGiver (some (.object "CashPools$Account"))) {Q : Option Nat → jM → Prop} {K4 : Option Nat → Int32 → jM → Prop} (hK4 : ∀ {x1 : Option Nat} {x2 : Int32} {μ : jM} {H : Heap} {locs : List Loc} {ls : Array Slot} {cells slots : Nat}, K4 x1 x2 μ → jIz D z A s.heap μ H locs → lv_has ls 5 [(0, va_rf (some b)), (1, va_rf x1), (2, .int x2)] → cells + 0 ≤ 0 → slots + 0 ≤ 0 → W p l e rmX3_findGiver s m args below meth c H locs cells slots (MQ below (jRz jfR Q D z A) args s 0 0 A) (F0 m 4 ls [])) {x1 : Option Nat} {x2 : Int32} {x3 : Option Nat} {t0 : Int32} {μ : jM} {H : Heap} {locs : List Loc} {ls : Array Slot} {cells slots : Nat} (hw : wX3_findGiver_63 z b K4 Q x1 x2 x3 t0 μ) (hI : jIz D z A s.heap μ H locs) (hl : lv_has ls 5 [(0, va_rf (some b)), (1, va_rf x1), (2, .int x2), (3, va_rf x3)]) (hcn : cells + 0 ≤ 0) (hsn : slots + 0 ≤ 0) : W p l e rmX3_findGiver s m args below meth c H locs cells slots (MQ below (jRz jfR Q D z A) args s 0 0 A) (F0 m 63 ls [.int t0]) := by
  unfold wX3_findGiver_63 at hw
  obtain ⟨hx, hb, hml, hown, hts, hr, hlocks, hnm, hK, hG, hfl⟩ := id hX
  have hown : s.vm.findClass RX3 = some m.cls := hown
  refine j_istoreA (r := x3) (F := fun w => [(0, va_rf (some b)), (1, va_rf x1), (2, .int x2), (3, w)]) (F2 := fun w => [(4, .int t0), (0, va_rf (some b)), (1, va_rf x1), (2, .int x2), (3, w)]) hx hb dX3_findGiver_63 hl (by decide) (fun w hw => by rcases hw with rfl | ⟨_, rfl⟩ <;> rfl) (fun ls hl => ?_)
  refine lv_iload hx hb dX3_findGiver_65 (lv_at hl 0 rfl) ?_
  refine lv_if_eq (tgt := 84) hx hb dX3_findGiver_67 (by decide) (fun hc => ?_) (fun hc => ?_)
  · have hw := hw.1 hc
    obtain ⟨v1, ev1⟩ : ∃ y : Int32, y = x2 + (1 : Int32) := ⟨_, rfl⟩
    have hw := hw v1 ev1
    refine j_iincA (r := x1) (F := fun w => [(4, .int t0), (0, va_rf (some b)), (1, w), (2, .int x2), (3, va_rf x3)]) (F2 := fun w => [(2, .int v1), (4, .int t0), (0, va_rf (some b)), (1, w), (3, va_rf x3)]) (v := v1) hx hb dX3_findGiver_84 hl (k := 3) (fun _ => rfl) (by rw [ev1]; rfl) (by decide) (fun w hw => by rcases hw with rfl | ⟨_, rfl⟩ <;> rfl) (fun ls hl => ?_)
    refine lv_goto (tgt := 4) hx hb dX3_findGiver_87 (by decide) ?_
    exact hK4 hw hI (lv_sub hl [2, 3, 0] rfl) (by omega) (by omega)
  · have hw := hw.2 hc
    refine j_aload_n (r := x1) hx hb dX3_findGiver_70 rfl (lv_at hl 2 rfl) ?_
    refine j_ifnull (r := x1) (tgt := 82) hx hb dX3_findGiver_71 (by decide) (fun hc => ?_) (fun hc => ?_)
    · have hw := hw.1 hc
      refine j_aload_n (r := x3) hx hb dX3_findGiver_82 rfl (lv_at hl 4 rfl) ?_
      refine j_astore_n (r := x3) (lv' := [(1, va_rf x3), (4, .int t0), (0, va_rf (some b)), (2, .int x2), (3, va_rf x3)]) hx hb dX3_findGiver_83 rfl hl (by decide) rfl (fun ls hl => ?_)
      obtain ⟨v2, ev2⟩ : ∃ y : Int32, y = x2 + (1 : Int32) := ⟨_, rfl⟩
      have hw := hw v2 ev2
      refine j_iincA (r := x3) (F := fun w => [(1, w), (4, .int t0), (0, va_rf (some b)), (2, .int x2), (3, va_rf x3)]) (F2 := fun w => [(2, .int v2), (1, w), (4, .int t0), (0, va_rf (some b)), (3, va_rf x3)]) (v := v2) hx hb dX3_findGiver_84 hl (k := 3) (fun _ => rfl) (by rw [ev2]; rfl) (by decide) (fun w hw => by rcases hw with rfl | ⟨_, rfl⟩ <;> rfl) (fun ls hl => ?_)
      refine lv_goto (tgt := 4) hx hb dX3_findGiver_87 (by decide) ?_
      exact hK4 hw hI (lv_sub hl [3, 1, 0] rfl) (by omega) (by omega)
    · have hw := hw.2 hc
      refine j_aload_n (r := x3) hx hb dX3_findGiver_74 rfl (lv_at hl 4 rfl) ?_
      refine j_aload_n (r := x1) hx hb dX3_findGiver_75 rfl (lv_at hl 2 rfl) ?_
      refine j_goz hI (va_runS (As := [va_rf x3, va_rf x1]) (rest := []) ⟨hx, hb, hml, hown, hts⟩ (kX3_givesBefore l hfl D z x3 x1 μ H.size _) (va_cwS 2 hts gX3_findGiver_X3_givesBefore rfl rfl rfl (by decide +kernel) ⟨Nat.le_of_ble_eq_true rfl, Nat.le_of_ble_eq_true rfl⟩) (j_prS2z hK hG hI hw) rfl rfl hl.1 rfl (lv_room (Nat.le_of_ble_eq_true rfl)) dX3_findGiver_76 ⟨by show _ ≤ 0; omega, by show _ ≤ 0; omega⟩) (fun v3 μ4 H locs hw hI => ?_)
      refine W.eq (g2 := F0 m 79 ls [.int v3]) rfl ?_
      refine lv_if_eq (tgt := 84) hx hb dX3_findGiver_79 (by decide) (fun hc => ?_) (fun hc => ?_)
      · have hw := hw.1 hc
        obtain ⟨v5, ev5⟩ : ∃ y : Int32, y = x2 + (1 : Int32) := ⟨_, rfl⟩
        have hw := hw v5 ev5
        refine j_iincA (r := x1) (F := fun w => [(4, .int t0), (0, va_rf (some b)), (1, w), (2, .int x2), (3, va_rf x3)]) (F2 := fun w => [(2, .int v5), (4, .int t0), (0, va_rf (some b)), (1, w), (3, va_rf x3)]) (v := v5) hx hb dX3_findGiver_84 hl (k := 3) (fun _ => rfl) (by rw [ev5]; rfl) (by decide) (fun w hw => by rcases hw with rfl | ⟨_, rfl⟩ <;> rfl) (fun ls hl => ?_)
        refine lv_goto (tgt := 4) hx hb dX3_findGiver_87 (by decide) ?_
        exact hK4 hw hI (lv_sub hl [2, 3, 0] rfl) (by omega) (by omega)
      · have hw := hw.2 hc
        refine j_aload_n (r := x3) hx hb dX3_findGiver_82 rfl (lv_at hl 4 rfl) ?_
        refine j_astore_n (r := x3) (lv' := [(1, va_rf x3), (4, .int t0), (0, va_rf (some b)), (2, .int x2), (3, va_rf x3)]) hx hb dX3_findGiver_83 rfl hl (by decide) rfl (fun ls hl => ?_)
        obtain ⟨v6, ev6⟩ : ∃ y : Int32, y = x2 + (1 : Int32) := ⟨_, rfl⟩
        have hw := hw v6 ev6
        refine j_iincA (r := x3) (F := fun w => [(1, w), (4, .int t0), (0, va_rf (some b)), (2, .int x2), (3, va_rf x3)]) (F2 := fun w => [(2, .int v6), (1, w), (4, .int t0), (0, va_rf (some b)), (3, va_rf x3)]) (v := v6) hx hb dX3_findGiver_84 hl (k := 3) (fun _ => rfl) (by rw [ev6]; rfl) (by decide) (fun w hw => by rcases hw with rfl | ⟨_, rfl⟩ <;> rfl) (fun ls hl => ?_)
        refine lv_goto (tgt := 4) hx hb dX3_findGiver_87 (by decide) ?_
        exact hK4 hw hI (lv_sub hl [3, 1, 0] rfl) (by omega) (by omega)
set_option maxHeartbeats 4000000 in
set_option maxRecDepth 100000 in
theorem kX3_findGiver_62 {b : Nat} (hX : jX2 D z A p l s m args meth c yX3_findGiver cX3_findGiver 5 wsX3_findGiver (some (.object "CashPools$Account"))) {Q : Option Nat → jM → Prop} {K4 : Option Nat → Int32 → jM → Prop} (hK4 : ∀ {x1 : Option Nat} {x2 : Int32} {μ : jM} {H : Heap} {locs : List Loc} {ls : Array Slot} {cells slots : Nat}, K4 x1 x2 μ → jIz D z A s.heap μ H locs → lv_has ls 5 [(0, va_rf (some b)), (1, va_rf x1), (2, .int x2)] → cells + 0 ≤ 0 → slots + 0 ≤ 0 → W p l e rmX3_findGiver s m args below meth c H locs cells slots (MQ below (jRz jfR Q D z A) args s 0 0 A) (F0 m 4 ls [])) {x1 : Option Nat} {x2 : Int32} {x3 : Option Nat} {μ : jM} {H : Heap} {locs : List Loc} {ls : Array Slot} {cells slots : Nat} (hw : wX3_findGiver_62 z b K4 Q x1 x2 x3 μ) (hI : jIz D z A s.heap μ H locs) (hl : lv_has ls 5 [(0, va_rf (some b)), (1, va_rf x1), (2, .int x2), (3, va_rf x3)]) (hcn : cells + 0 ≤ 0) (hsn : slots + 0 ≤ 0) : W p l e rmX3_findGiver s m args below meth c H locs cells slots (MQ below (jRz jfR Q D z A) args s 0 0 A) (F0 m 62 ls []) := by
  unfold wX3_findGiver_62 at hw
  obtain ⟨hx, hb, hml, hown, hts, hr, hlocks, hnm, hK, hG, hfl⟩ := id hX
  have hown : s.vm.findClass RX3 = some m.cls := hown
  refine lv_iconst (v := (0)) hx hb dX3_findGiver_62 (by decide) ?_
  exact kX3_findGiver_63 hX hK4 hw hI (lv_sub hl [0, 1, 2, 3] rfl) (by omega) (by omega)
set_option maxHeartbeats 4000000 in
set_option maxRecDepth 100000 in
theorem kX3_findGiver_4 {b : Nat} (hX : jX2 D z A p l s m args meth c yX3_findGiver cX3_findGiver 5 wsX3_findGiver (some (.object "CashPools$Account"))) {Q : Option Nat → jM → Prop}  (n : Nat) : ∀ {x1 : Option Nat} {x2 : Int32} {μ : jM} {H : Heap} {locs : List Loc} {ls : Array Slot} {cells slots : Nat}, wX3_findGiver_4 z b Q n x1 x2 μ → jIz D z A s.heap μ H locs → lv_has ls 5 [(0, va_rf (some b)), (1, va_rf x1), (2, .int x2)] → cells + 0 ≤ 0 → slots + 0 ≤ 0 → W p l e rmX3_findGiver s m args below meth c H locs cells slots (MQ below (jRz jfR Q D z A) args s 0 0 A) (F0 m 4 ls []) := by
  induction n with
  | zero =>
    intros
    rename_i hw _ _ _ _
    exact (show False from hw).elim
  | succ n ih =>
    intro x1 x2 μ H locs ls cells slots hw hI hl hcn hsn
    have hw : wX3_findGiver_4_b z b Q (wX3_findGiver_4 z b Q n) x1 x2 μ := hw
    unfold wX3_findGiver_4_b at hw
    obtain ⟨hx, hb, hml, hown, hts, hr, hlocks, hnm, hK, hG, hfl⟩ := id hX
    have hown : s.vm.findClass RX3 = some m.cls := hown
    have hfX0 : ∀ w ∈ wsX00, w.before args s = true := fun w h => hts w (List.mem_cons_of_mem _ (List.mem_append_left _ (List.mem_append_left _ (List.mem_append_left _ (List.mem_append_right _ h)))))
    have hfX3 : ∀ w ∈ wsX30, w.before args s = true := fun w h => hts w (List.mem_cons_of_mem _ (List.mem_append_left _ (List.mem_append_left _ (List.mem_append_left _ (List.mem_append_left _ (List.mem_append_right _ h))))))
    refine lv_iload_n hx hb dX3_findGiver_4 rfl (lv_at hl 2 rfl) ?_
    refine j_aload_n (r := (some b)) hx hb dX3_findGiver_5 rfl (lv_at hl 0 rfl) ?_
    obtain ⟨v1, hv1, hw⟩ := hw
    refine j_getz (C := RX3) (T := TX3) (N := 8) (ci := 6) (r := (some b)) (v := va_rf v1) hx hb hfX3 hown hK hI rfl 0 (by decide) (hts (.fieldLink RX3 12 "CashPools$Desk" "everyAccount" "Ljava/util/ArrayList;") (List.mem_of_getElem? (i := 1) (by decide +kernel))) (fun _ h => h) hv1 dX3_findGiver_6 ?_
    obtain ⟨b4, ⟨hrb4, hfs⟩, hw⟩ := hw
    refine j_goz hI (va_runV (As := []) (rest := [.int x2]) ⟨hx, hb, hml, hown, hts⟩ (kJx4a65c_size_8abf5 l hfl D z b4  μ H.size _) (cwV 0 hts gX3_findGiver_Jx4a65c_size_8abf5 rfl rfl rfl (by decide +kernel) ⟨Nat.le_of_ble_eq_true rfl, Nat.le_of_ble_eq_true rfl⟩) (j_prV2z hK hG hI hw (ci := 2) rfl hfs) rfl rfl hl.1 (by rw [hrb4]; rfl) (lv_room (Nat.le_of_ble_eq_true rfl)) dX3_findGiver_9 ⟨by show _ ≤ 0; omega, by show _ ≤ 0; omega⟩) (fun v2 μ3 H locs hw hI => ?_)
    refine W.eq (g2 := F0 m 12 ls [.int v2, .int x2]) rfl ?_
    refine lv_icmp_ge (tgt := 90) hx hb dX3_findGiver_12 (by decide) (fun hc => ?_) (fun hc => ?_)
    · have hw := hw.1 hc
      refine j_aload_n (r := x1) hx hb dX3_findGiver_90 rfl (lv_at hl 1 rfl) ?_
      exact j_aretz (v := x1) hx hb hr (Or.inl ⟨_, rfl⟩) hlocks hI hw (by omega) (by omega) dX3_findGiver_91
    · have hw := hw.2 hc
      refine j_aload_n (r := (some b)) hx hb dX3_findGiver_15 rfl (lv_at hl 0 rfl) ?_
      obtain ⟨v5, hv5, hw⟩ := hw
      refine j_getz (C := RX3) (T := TX3) (N := 8) (ci := 6) (r := (some b)) (v := va_rf v5) hx hb hfX3 hown hK hI rfl 0 (by decide) (hts (.fieldLink RX3 12 "CashPools$Desk" "everyAccount" "Ljava/util/ArrayList;") (List.mem_of_getElem? (i := 1) (by decide +kernel))) (fun _ h => h) hv5 dX3_findGiver_16 ?_
      refine lv_iload_n hx hb dX3_findGiver_19 rfl (lv_at hl 2 rfl) ?_
      obtain ⟨b8, ⟨hrb8, hfs⟩, hw⟩ := hw
      refine j_goz hI (va_runV (As := [.int x2]) (rest := []) ⟨hx, hb, hml, hown, hts⟩ (kJx4a65c_get_915e3 l hfl D z b8 x2 μ3 H.size _) (cwV 1 hts gX3_findGiver_Jx4a65c_get_915e3 rfl rfl rfl (by decide +kernel) ⟨Nat.le_of_ble_eq_true rfl, Nat.le_of_ble_eq_true rfl⟩) (j_prV2z hK hG hI hw (ci := 2) rfl hfs) rfl rfl hl.1 (by rw [hrb8]; rfl) (lv_room (Nat.le_of_ble_eq_true rfl)) dX3_findGiver_20 ⟨by show _ ≤ 0; omega, by show _ ≤ 0; omega⟩) (fun v6 μ7 H locs hw hI => ?_)
      refine W.eq (g2 := F0 m 23 ls [va_rf v6]) rfl ?_
      obtain ⟨h9, hw⟩ := hw
      refine j_castz (C := RX0) (T := TX0) (N := 12) (ci := 3) (r := v6) hx hb hown (hts (.classLink RX3 55 "CashPools$Account") (List.mem_of_getElem? (i := 2) (by decide +kernel))) hK hI rfl h9 dX3_findGiver_23 ?_
      refine j_astore_n (r := v6) (lv' := [(3, va_rf v6), (0, va_rf (some b)), (1, va_rf x1), (2, .int x2)]) hx hb dX3_findGiver_26 rfl hl (by decide) rfl (fun ls hl => ?_)
      refine j_aload_n (r := v6) hx hb dX3_findGiver_27 rfl (lv_at hl 0 rfl) ?_
      obtain ⟨v10, hv10, hw⟩ := hw
      refine j_getz (C := RX0) (T := TX0) (N := 12) (ci := 3) (r := v6) (v := .long v10) hx hb hfX0 hown hK hI rfl 8 (by decide) (hts (.fieldLink RX3 149 "CashPools$Account" "cash" "J") (List.mem_of_getElem? (i := 3) (by decide +kernel))) (fun _ h => h) hv10 dX3_findGiver_28 ?_
      refine lv_lconst (v := (0)) hx hb dX3_findGiver_31 (by decide) ?_
      refine j_lcmp_le (tgt := 62) hx hb dX3_findGiver_32 dX3_findGiver_33 (by decide) (fun hc => ?_) (fun hc => ?_)
      · have hw := hw.1 hc
        exact kX3_findGiver_62 hX ih hw hI (lv_sub hl [1, 2, 3, 0] rfl) (by omega) (by omega)
      · have hw := hw.2 hc
        refine j_aload_n (r := v6) hx hb dX3_findGiver_36 rfl (lv_at hl 0 rfl) ?_
        obtain ⟨v11, hv11, hw⟩ := hw
        refine j_getz (C := RX0) (T := TX0) (N := 12) (ci := 3) (r := v6) (v := va_rf v11) hx hb hfX0 hown hK hI rfl 3 (by decide) (hts (.fieldLink RX3 145 "CashPools$Account" "bank" "LCashPools$Bank;") (List.mem_of_getElem? (i := 4) (by decide +kernel))) (fun _ h => h) hv11 dX3_findGiver_37 ?_
        obtain ⟨b14, ⟨hrb14, hfs⟩, hw⟩ := hw
        refine j_goz hI (va_runV (As := []) (rest := []) ⟨hx, hb, hml, hown, hts⟩ (kX1_excess l hfl D z b14  μ7 H.size _) (cwV 0 hts gX3_findGiver_X1_excess rfl rfl rfl (by decide +kernel) ⟨Nat.le_of_ble_eq_true rfl, Nat.le_of_ble_eq_true rfl⟩) (j_prV2z hK hG hI hw (ci := 4) rfl hfs) rfl rfl hl.1 (by rw [hrb14]; rfl) (lv_room (Nat.le_of_ble_eq_true rfl)) dX3_findGiver_40 ⟨by show _ ≤ 0; omega, by show _ ≤ 0; omega⟩) (fun v12 μ13 H locs hw hI => ?_)
        refine W.eq (g2 := F0 m 43 ls [.long v12]) rfl ?_
        refine lv_lconst (v := (0)) hx hb dX3_findGiver_43 (by decide) ?_
        refine j_lcmp_le (tgt := 62) hx hb dX3_findGiver_44 dX3_findGiver_45 (by decide) (fun hc => ?_) (fun hc => ?_)
        · have hw := hw.1 hc
          exact kX3_findGiver_62 hX ih hw hI (lv_sub hl [1, 2, 3, 0] rfl) (by omega) (by omega)
        · have hw := hw.2 hc
          refine j_aload_n (r := v6) hx hb dX3_findGiver_48 rfl (lv_at hl 0 rfl) ?_
          obtain ⟨v15, hv15, hw⟩ := hw
          refine j_getz (C := RX0) (T := TX0) (N := 12) (ci := 3) (r := v6) (v := va_rf v15) hx hb hfX0 hown hK hI rfl 2 (by decide) (hts (.fieldLink RX3 64 "CashPools$Account" "pool" "LCashPools$Pool;") (List.mem_of_getElem? (i := 5) (by decide +kernel))) (fun _ h => h) hv15 dX3_findGiver_49 ?_
          refine j_goz hI (va_runS (As := [va_rf v15]) (rest := []) ⟨hx, hb, hml, hown, hts⟩ (kX3_findGetter l hfl D z v15 μ13 H.size _) (va_cwS 1 hts gX3_findGiver_X3_findGetter rfl rfl rfl (by decide +kernel) ⟨Nat.le_of_ble_eq_true rfl, Nat.le_of_ble_eq_true rfl⟩) (j_prS2z hK hG hI hw) rfl rfl hl.1 rfl (lv_room (Nat.le_of_ble_eq_true rfl)) dX3_findGiver_52 ⟨by show _ ≤ 0; omega, by show _ ≤ 0; omega⟩) (fun v16 μ17 H locs hw hI => ?_)
          refine W.eq (g2 := F0 m 55 ls [va_rf v16]) rfl ?_
          refine j_ifnull (r := v16) (tgt := 62) hx hb dX3_findGiver_55 (by decide) (fun hc => ?_) (fun hc => ?_)
          · have hw := hw.1 hc
            exact kX3_findGiver_62 hX ih hw hI (lv_sub hl [1, 2, 3, 0] rfl) (by omega) (by omega)
          · have hw := hw.2 hc
            refine lv_iconst (v := (1)) hx hb dX3_findGiver_58 (by decide) ?_
            refine lv_goto (tgt := 63) hx hb dX3_findGiver_59 (by decide) ?_
            exact kX3_findGiver_63 hX ih hw hI (lv_sub hl [1, 2, 3, 0] rfl) (by omega) (by omega)
set_option maxHeartbeats 4000000 in
set_option maxRecDepth 100000 in
theorem kX3_findGiver_0 {b : Nat} (hX : jX2 D z A p l s m args meth c yX3_findGiver cX3_findGiver 5 wsX3_findGiver (some (.object "CashPools$Account"))) {Q : Option Nat → jM → Prop}   {μ : jM} {H : Heap} {locs : List Loc} {ls : Array Slot} {cells slots : Nat} (hw : wX3_findGiver_0 z b Q  μ) (hI : jIz D z A s.heap μ H locs) (hl : lv_has ls 5 [(0, va_rf (some b))]) (hcn : cells + 0 ≤ 0) (hsn : slots + 0 ≤ 0) : W p l e rmX3_findGiver s m args below meth c H locs cells slots (MQ below (jRz jfR Q D z A) args s 0 0 A) (F0 m 0 ls []) := by
  unfold wX3_findGiver_0 at hw
  obtain ⟨hx, hb, hml, hown, hts, hr, hlocks, hnm, hK, hG, hfl⟩ := id hX
  have hown : s.vm.findClass RX3 = some m.cls := hown
  refine j_null hx hb dX3_findGiver_0 ?_
  refine j_astore_n (r := none) (lv' := [(1, va_rf none), (0, va_rf (some b))]) hx hb dX3_findGiver_1 rfl hl (by decide) rfl (fun ls hl => ?_)
  refine lv_iconst (v := (0)) hx hb dX3_findGiver_2 (by decide) ?_
  refine lv_topi (fun v1 ev1 => ?_)
  have hw := hw v1 ev1
  refine j_istore_nA (r := none) (F := fun w => [(1, w), (0, va_rf (some b))]) (F2 := fun w => [(2, .int v1), (1, w), (0, va_rf (some b))]) hx hb dX3_findGiver_3 rfl hl (by decide) (fun w hw => by rcases hw with rfl | ⟨_, rfl⟩ <;> rfl) (fun ls hl => ?_)
  obtain ⟨n2, hw⟩ := hw
  exact kX3_findGiver_4 hX  n2 hw hI (lv_sub hl [2, 1, 0] rfl) (by omega) (by omega)
set_option maxHeartbeats 4000000 in
set_option maxRecDepth 100000 in
theorem kX3_findGiver (l : Launch) (hfl : l.stackTraces = false) (D : jD) (z : Nat × Nat) (b : Nat)  (μ : jM) (sz : Nat) (Q : Option Nat → jM → Prop) : Met l yX3_findGiver wsX3_findGiver rmX3_findGiver (jPre2z D z μ sz [.ref b] (wX3_findGiver z b  μ Q)) (jRz jfR Q D z (jA z μ sz)) 0 0 (jA z μ sz) := by
  refine Met.ofW (cc := cX3_findGiver) (maxL := 5) (ret := (some (.object "CashPools$Account"))) (by decide) rfl ?_
  intro p e s m args below meth c s₁ B hml hv
  obtain ⟨rfl, hsz, hH, hz0, hK, hG, hw⟩ := hv
  subst hsz
  have hX : jX2 D z (jA z μ s.heap.size) p l s m _ meth c yX3_findGiver cX3_findGiver 5 wsX3_findGiver (some (.object "CashPools$Account")) := ⟨B.exec, B.bytes, hml, findClass_of_methodNamed B.named, atoms_spec (ws := wsX3_findGiver) B.pre, B.returns, B.notSynchronized, (name_of_methodNamed B.named B.method).1, hK, hG, hfl⟩
  obtain ⟨ls, hg, hl⟩ : ∃ ls : Array Slot, entryFrame m ([.ref b] : List Value).toArray 5 = F0 m 0 ls [] ∧ lv_has ls 5 [(0, va_rf (some b))] := by
    exact ⟨_, lg_entry_eq .., lv_entry _ (n := 5) (Nat.le_of_ble_eq_true rfl)⟩
  rw [hg]
  exact kX3_findGiver_0 hX hw (jIz.start hH hz0) (lv_sub hl [0] rfl) (by decide) (by decide)
set_option maxHeartbeats 4000000 in
set_option maxRecDepth 100000 in
theorem kX3_moveAway_0 (hX : jX2 D z A p l s m args meth c yX3_moveAway cX3_moveAway 6 wsX3_moveAway (some .boolean)) {Q : Int32 → jM → Prop}  {x0 : Option Nat} {μ : jM} {H : Heap} {locs : List Loc} {ls : Array Slot} {cells slots : Nat} (hw : wX3_moveAway_0 z Q x0 μ) (hI : jIz D z A s.heap μ H locs) (hl : lv_has ls 6 [(0, va_rf x0)]) (hcn : cells + 0 ≤ 0) (hsn : slots + 0 ≤ 0) : W p l e rmX3_moveAway s m args below meth c H locs cells slots (MQ below (jRz jfI Q D z A) args s 0 0 A) (F0 m 0 ls []) := by
  unfold wX3_moveAway_0 at hw
  obtain ⟨hx, hb, hml, hown, hts, hr, hlocks, hnm, hK, hG, hfl⟩ := id hX
  have hown : s.vm.findClass RX3 = some m.cls := hown
  have hfX0 : ∀ w ∈ wsX00, w.before args s = true := fun w h => hts w (List.mem_cons_of_mem _ (List.mem_append_left _ (List.mem_append_left _ (List.mem_append_left _ (List.mem_append_right _ h)))))
  refine j_aload_n (r := x0) hx hb dX3_moveAway_0 rfl (lv_at hl 0 rfl) ?_
  obtain ⟨v1, hv1, hw⟩ := hw
  refine j_getz (C := RX0) (T := TX0) (N := 12) (ci := 3) (r := x0) (v := va_rf v1) hx hb hfX0 hown hK hI rfl 2 (by decide) (hts (.fieldLink RX3 64 "CashPools$Account" "pool" "LCashPools$Pool;") (List.mem_of_getElem? (i := 1) (by decide +kernel))) (fun _ h => h) hv1 dX3_moveAway_1 ?_
  refine j_goz hI (va_runS (As := [va_rf v1]) (rest := []) ⟨hx, hb, hml, hown, hts⟩ (kX3_findGetter l hfl D z v1 μ H.size _) (va_cwS 1 hts gX3_moveAway_X3_findGetter rfl rfl rfl (by decide +kernel) ⟨Nat.le_of_ble_eq_true rfl, Nat.le_of_ble_eq_true rfl⟩) (j_prS2z hK hG hI hw) rfl rfl hl.1 rfl (lv_room (Nat.le_of_ble_eq_true rfl)) dX3_moveAway_4 ⟨by show _ ≤ 0; omega, by show _ ≤ 0; omega⟩) (fun v2 μ3 H locs hw hI => ?_)
  refine W.eq (g2 := F0 m 7 ls [va_rf v2]) rfl ?_
  refine j_astore_nA (r := x0) (r0 := v2) (F := fun w => [(0, w)]) (F2 := fun w => [(1, va_rf v2), (0, w)]) hx hb dX3_moveAway_7 rfl hl (by decide) (fun w hw => by rcases hw with rfl | ⟨_, rfl⟩ <;> rfl) (fun ls hl => ?_)
  refine j_aload_n (r := v2) hx hb dX3_moveAway_8 rfl (lv_at hl 0 rfl) ?_
  refine j_ifnonnull (r := v2) (tgt := 14) hx hb dX3_moveAway_9 (by decide) (fun hc => ?_) (fun hc => ?_)
  · have hw := hw.1 hc
    refine j_aload_n (r := x0) hx hb dX3_moveAway_14 rfl (lv_at hl 1 rfl) ?_
    obtain ⟨v4, hv4, hw⟩ := hw
    refine j_getz (C := RX0) (T := TX0) (N := 12) (ci := 3) (r := x0) (v := .long v4) hx hb hfX0 hown hK hI rfl 8 (by decide) (hts (.fieldLink RX3 149 "CashPools$Account" "cash" "J") (List.mem_of_getElem? (i := 2) (by decide +kernel))) (fun _ h => h) hv4 dX3_moveAway_15 ?_
    refine j_aload_n (r := v2) hx hb dX3_moveAway_18 rfl (lv_at hl 0 rfl) ?_
    obtain ⟨v5, hv5, hw⟩ := hw
    refine j_getz (C := RX0) (T := TX0) (N := 12) (ci := 3) (r := v2) (v := va_rf v5) hx hb hfX0 hown hK hI rfl 3 (by decide) (hts (.fieldLink RX3 145 "CashPools$Account" "bank" "LCashPools$Bank;") (List.mem_of_getElem? (i := 3) (by decide +kernel))) (fun _ h => h) hv5 dX3_moveAway_19 ?_
    obtain ⟨b8, ⟨hrb8, hfs⟩, hw⟩ := hw
    refine j_goz hI (va_runV (As := []) (rest := [.long v4]) ⟨hx, hb, hml, hown, hts⟩ (kX1_room l hfl D z b8  μ3 H.size _) (cwV 0 hts gX3_moveAway_X1_room rfl rfl rfl (by decide +kernel) ⟨Nat.le_of_ble_eq_true rfl, Nat.le_of_ble_eq_true rfl⟩) (j_prV2z hK hG hI hw (ci := 4) rfl hfs) rfl rfl hl.1 (by rw [hrb8]; rfl) (lv_room (Nat.le_of_ble_eq_true rfl)) dX3_moveAway_22 ⟨by show _ ≤ 0; omega, by show _ ≤ 0; omega⟩) (fun v6 μ7 H locs hw hI => ?_)
    refine W.eq (g2 := F0 m 25 ls [.long v6, .long v4]) rfl ?_
    refine va_mmin_long hx hb (by rw [hml]; exact hl.1.symm) hown (hts (.methodLink RX3 176 Lib.MathLoose.min_long.x) (List.mem_of_getElem? (i := 4) (by decide +kernel))) (hts (.static Lib.MathLoose.min_long.x) (List.mem_of_getElem? (i := 5) (by decide +kernel))) (hts (.initialized "java/lang/Math") (List.mem_of_getElem? (i := 6) (by decide +kernel))) (hts (.code Lib.MathLoose.min_long.x Lib.MathLoose.min_long.code 4 (some .long)) (List.mem_of_getElem? (i := 7) (by decide +kernel))) (Nat.le_of_ble_eq_true rfl) (Nat.le_of_ble_eq_true rfl) (by show _ ≤ 0; omega) (by show _ ≤ 0; omega) dX3_moveAway_25 ?_
    refine lv_topl (fun v9 ev9 => ?_)
    have hw := hw v9 ev9
    refine j_lstore_nA (r := v2) (F := fun w => [(1, w), (0, va_rf x0)]) (F2 := fun w => [(2, .long v9), (1, w), (0, va_rf x0)]) hx hb dX3_moveAway_28 rfl hl (by decide) (fun w hw => by rcases hw with rfl | ⟨_, rfl⟩ <;> rfl) (fun ls hl => ?_)
    refine j_aload_n (r := x0) hx hb dX3_moveAway_29 rfl (lv_at hl 2 rfl) ?_
    obtain ⟨v10, hv10, hw⟩ := hw
    refine j_getz (C := RX0) (T := TX0) (N := 12) (ci := 3) (r := x0) (v := va_rf v10) hx hb hfX0 hown hK hI rfl 3 (by decide) (hts (.fieldLink RX3 145 "CashPools$Account" "bank" "LCashPools$Bank;") (List.mem_of_getElem? (i := 3) (by decide +kernel))) (fun _ h => h) hv10 dX3_moveAway_30 ?_
    obtain ⟨b13, ⟨hrb13, hfs⟩, hw⟩ := hw
    refine j_goz hI (va_runV (As := []) (rest := []) ⟨hx, hb, hml, hown, hts⟩ (kX1_excess l hfl D z b13  μ7 H.size _) (cwV 0 hts gX3_moveAway_X1_excess rfl rfl rfl (by decide +kernel) ⟨Nat.le_of_ble_eq_true rfl, Nat.le_of_ble_eq_true rfl⟩) (j_prV2z hK hG hI hw (ci := 4) rfl hfs) rfl rfl hl.1 (by rw [hrb13]; rfl) (lv_room (Nat.le_of_ble_eq_true rfl)) dX3_moveAway_33 ⟨by show _ ≤ 0; omega, by show _ ≤ 0; omega⟩) (fun v11 μ12 H locs hw hI => ?_)
    refine W.eq (g2 := F0 m 36 ls [.long v11]) rfl ?_
    refine lv_lload_n hx hb dX3_moveAway_36 rfl (lv_at hl 0 rfl) ?_
    refine va_mmin_long hx hb (by rw [hml]; exact hl.1.symm) hown (hts (.methodLink RX3 176 Lib.MathLoose.min_long.x) (List.mem_of_getElem? (i := 4) (by decide +kernel))) (hts (.static Lib.MathLoose.min_long.x) (List.mem_of_getElem? (i := 5) (by decide +kernel))) (hts (.initialized "java/lang/Math") (List.mem_of_getElem? (i := 6) (by decide +kernel))) (hts (.code Lib.MathLoose.min_long.x Lib.MathLoose.min_long.code 4 (some .long)) (List.mem_of_getElem? (i := 7) (by decide +kernel))) (Nat.le_of_ble_eq_true rfl) (Nat.le_of_ble_eq_true rfl) (by show _ ≤ 0; omega) (by show _ ≤ 0; omega) dX3_moveAway_37 ?_
    refine lv_topl (fun v14 ev14 => ?_)
    have hw := hw v14 ev14
    refine lv_lstore (lv' := [(4, .long v14), (2, .long v9), (1, va_rf v2), (0, va_rf x0)]) hx hb dX3_moveAway_40 hl (by decide) rfl (fun ls hl => ?_)
    refine j_aload_n (r := x0) hx hb dX3_moveAway_42 rfl (lv_at hl 3 rfl) ?_
    refine lv_dup hx hb dX3_moveAway_43 (jrc x0) ?_
    obtain ⟨v15, hv15, hw⟩ := hw
    refine j_getz (C := RX0) (T := TX0) (N := 12) (ci := 3) (r := x0) (v := .long v15) hx hb hfX0 hown hK hI rfl 8 (by decide) (hts (.fieldLink RX3 149 "CashPools$Account" "cash" "J") (List.mem_of_getElem? (i := 2) (by decide +kernel))) (fun _ h => h) hv15 dX3_moveAway_44 ?_
    refine lv_lload hx hb dX3_moveAway_47 (lv_at hl 0 rfl) ?_
    refine lv_lsub hx hb dX3_moveAway_49 ?_
    obtain ⟨μ16, hμ16, hw⟩ := hw
    refine j_putz (C := RX0) (T := TX0) (N := 12) (ci := 3) (r := x0) (v := .long (v15 - v14)) hx hb hfX0 tyX0 tyX0_ok nmX0 hown hK hI rfl 8 (by decide) (hts (.fieldLink RX3 149 "CashPools$Account" "cash" "J") (List.mem_of_getElem? (i := 2) (by decide +kernel))) (fun _ h => h) rfl (tyX0_ok 8 (by decide)) rfl rfl hμ16 dX3_moveAway_50 (fun H locs hI => ?_)
    refine j_aload_n (r := v2) hx hb dX3_moveAway_53 rfl (lv_at hl 2 rfl) ?_
    refine lv_dup hx hb dX3_moveAway_54 (jrc v2) ?_
    obtain ⟨v17, hv17, hw⟩ := hw
    refine j_getz (C := RX0) (T := TX0) (N := 12) (ci := 3) (r := v2) (v := .long v17) hx hb hfX0 hown hK hI rfl 8 (by decide) (hts (.fieldLink RX3 149 "CashPools$Account" "cash" "J") (List.mem_of_getElem? (i := 2) (by decide +kernel))) (fun _ h => h) hv17 dX3_moveAway_55 ?_
    refine lv_lload hx hb dX3_moveAway_58 (lv_at hl 0 rfl) ?_
    refine lv_ladd hx hb dX3_moveAway_60 ?_
    obtain ⟨μ18, hμ18, hw⟩ := hw
    refine j_putz (C := RX0) (T := TX0) (N := 12) (ci := 3) (r := v2) (v := .long (v17 + v14)) hx hb hfX0 tyX0 tyX0_ok nmX0 hown hK hI rfl 8 (by decide) (hts (.fieldLink RX3 149 "CashPools$Account" "cash" "J") (List.mem_of_getElem? (i := 2) (by decide +kernel))) (fun _ h => h) rfl (tyX0_ok 8 (by decide)) rfl rfl hμ18 dX3_moveAway_61 (fun H locs hI => ?_)
    refine lv_iconst (v := (1)) hx hb dX3_moveAway_64 (by decide) ?_
    exact j_zretz hx hb hr rfl hlocks hI hw (by omega) (by omega) dX3_moveAway_65
  · have hw := hw.2 hc
    refine lv_iconst (v := (0)) hx hb dX3_moveAway_12 (by decide) ?_
    exact j_zretz hx hb hr rfl hlocks hI hw (by omega) (by omega) dX3_moveAway_13
set_option maxHeartbeats 4000000 in
set_option maxRecDepth 100000 in
theorem kX3_moveAway (l : Launch) (hfl : l.stackTraces = false) (D : jD) (z : Nat × Nat) (x0 : Option Nat) (μ : jM) (sz : Nat) (Q : Int32 → jM → Prop) : Met l yX3_moveAway wsX3_moveAway rmX3_moveAway (jPre2z D z μ sz [va_rf x0] (wX3_moveAway z x0 μ Q)) (jRz jfI Q D z (jA z μ sz)) 0 0 (jA z μ sz) := by
  refine Met.ofW (cc := cX3_moveAway) (maxL := 6) (ret := (some .boolean)) (by decide) rfl ?_
  intro p e s m args below meth c s₁ B hml hv
  obtain ⟨rfl, hsz, hH, hz0, hK, hG, hw⟩ := hv
  subst hsz
  have hX : jX2 D z (jA z μ s.heap.size) p l s m _ meth c yX3_moveAway cX3_moveAway 6 wsX3_moveAway (some .boolean) := ⟨B.exec, B.bytes, hml, findClass_of_methodNamed B.named, atoms_spec (ws := wsX3_moveAway) B.pre, B.returns, B.notSynchronized, (name_of_methodNamed B.named B.method).1, hK, hG, hfl⟩
  obtain ⟨ls, hg, hl⟩ : ∃ ls : Array Slot, entryFrame m ([va_rf x0] : List Value).toArray 6 = F0 m 0 ls [] ∧ lv_has ls 6 [(0, va_rf x0)] := by
    cases x0 <;> exact ⟨_, lg_entry_eq .., lv_entry _ (n := 6) (Nat.le_of_ble_eq_true rfl)⟩
  rw [hg]
  exact kX3_moveAway_0 hX hw (jIz.start hH hz0) (lv_sub hl [0] rfl) (by decide) (by decide)
set_option maxHeartbeats 4000000 in
set_option maxRecDepth 100000 in
theorem kX3_easeBanks_4 {b : Nat} (hX : jX2 D z A p l s m args meth c yX3_easeBanks cX3_easeBanks 4 wsX3_easeBanks none) {Q : Unit → jM → Prop}  (n : Nat) : ∀ {x1 : Int32} {x2 : Int32} {μ : jM} {H : Heap} {locs : List Loc} {ls : Array Slot} {cells slots : Nat}, wX3_easeBanks_4 z b Q n x1 x2 μ → jIz D z A s.heap μ H locs → lv_has ls 4 [(0, va_rf (some b)), (1, .int x1), (2, .int x2)] → cells + 0 ≤ 0 → slots + 0 ≤ 0 → W p l e rmX3_easeBanks s m args below meth c H locs cells slots (MQ below (jRz jfV Q D z A) args s 0 0 A) (F0 m 4 ls []) := by
  induction n with
  | zero =>
    intros
    rename_i hw _ _ _ _
    exact (show False from hw).elim
  | succ n ih =>
    intro x1 x2 μ H locs ls cells slots hw hI hl hcn hsn
    have hw : wX3_easeBanks_4_b z b Q (wX3_easeBanks_4 z b Q n) x1 x2 μ := hw
    unfold wX3_easeBanks_4_b at hw
    obtain ⟨hx, hb, hml, hown, hts, hr, hlocks, hnm, hK, hG, hfl⟩ := id hX
    have hown : s.vm.findClass RX3 = some m.cls := hown
    refine lv_iload_n hx hb dX3_easeBanks_4 rfl (lv_at hl 1 rfl) ?_
    refine lv_if_eq (tgt := 46) hx hb dX3_easeBanks_5 (by decide) (fun hc => ?_) (fun hc => ?_)
    · have hw := hw.1 hc
      exact j_vretz hx hb hr hlocks hI hw (by omega) (by omega) dX3_easeBanks_46
    · have hw := hw.2 hc
      refine lv_iload_n hx hb dX3_easeBanks_8 rfl (lv_at hl 2 rfl) ?_
      refine lv_ldc (v := (1000000)) hx hb hown (hts (.constant RX3 129 (1000000)) (List.mem_of_getElem? (i := 1) (by decide +kernel))) dX3_easeBanks_9 ?_
      refine lv_icmp_ge (tgt := 46) hx hb dX3_easeBanks_11 (by decide) (fun hc => ?_) (fun hc => ?_)
      · have hw := hw.1 hc
        exact j_vretz hx hb hr hlocks hI hw (by omega) (by omega) dX3_easeBanks_46
      · have hw := hw.2 hc
        refine j_aload_n (r := (some b)) hx hb dX3_easeBanks_14 rfl (lv_at hl 0 rfl) ?_
        obtain ⟨hfs, hw⟩ := hw
        refine j_goz hI (va_runV (As := []) (rest := []) ⟨hx, hb, hml, hown, hts⟩ (kX3_measureBanks l hfl D z b  μ H.size _) (cwV 0 hts gX3_easeBanks_X3_measureBanks rfl rfl rfl (by decide +kernel) ⟨Nat.le_of_ble_eq_true rfl, Nat.le_of_ble_eq_true rfl⟩) (j_prV2z hK hG hI hw (ci := 6) rfl hfs) rfl rfl hl.1 rfl (lv_room (Nat.le_of_ble_eq_true rfl)) dX3_easeBanks_15 ⟨by show _ ≤ 0; omega, by show _ ≤ 0; omega⟩) (fun u1 μ2 H locs hw hI => ?_)
        refine W.eq (g2 := F0 m 18 ls []) rfl ?_
        refine j_aload_n (r := (some b)) hx hb dX3_easeBanks_18 rfl (lv_at hl 0 rfl) ?_
        obtain ⟨hfs, hw⟩ := hw
        refine j_goz hI (va_runV (As := []) (rest := []) ⟨hx, hb, hml, hown, hts⟩ (kX3_findGiver l hfl D z b  μ2 H.size _) (cwV 0 hts gX3_easeBanks_X3_findGiver rfl rfl rfl (by decide +kernel) ⟨Nat.le_of_ble_eq_true rfl, Nat.le_of_ble_eq_true rfl⟩) (j_prV2z hK hG hI hw (ci := 6) rfl hfs) rfl rfl hl.1 rfl (lv_room (Nat.le_of_ble_eq_true rfl)) dX3_easeBanks_19 ⟨by show _ ≤ 0; omega, by show _ ≤ 0; omega⟩) (fun v3 μ4 H locs hw hI => ?_)
        refine W.eq (g2 := F0 m 22 ls [va_rf v3]) rfl ?_
        refine j_astore_n (r := v3) (lv' := [(3, va_rf v3), (0, va_rf (some b)), (1, .int x1), (2, .int x2)]) hx hb dX3_easeBanks_22 rfl hl (by decide) rfl (fun ls hl => ?_)
        refine j_aload_n (r := v3) hx hb dX3_easeBanks_23 rfl (lv_at hl 0 rfl) ?_
        refine j_ifnull (r := v3) (tgt := 38) hx hb dX3_easeBanks_24 (by decide) (fun hc => ?_) (fun hc => ?_)
        · have hw := hw.1 hc
          refine lv_iconst (v := (0)) hx hb dX3_easeBanks_38 (by decide) ?_
          refine lv_topi (fun v5 ev5 => ?_)
          have hw := hw v5 ev5
          refine lv_istore_n (lv' := [(1, .int v5), (3, va_rf v3), (0, va_rf (some b)), (2, .int x2)]) hx hb dX3_easeBanks_39 rfl hl (by decide) rfl (fun ls hl => ?_)
          obtain ⟨v6, ev6⟩ : ∃ y : Int32, y = x2 + (1 : Int32) := ⟨_, rfl⟩
          have hw := hw v6 ev6
          refine lv_iinc (v := v6) (lv' := [(2, .int v6), (1, .int v5), (3, va_rf v3), (0, va_rf (some b))]) hx hb dX3_easeBanks_40 hl (k := 3) rfl (by rw [ev6]; rfl) (by decide) rfl (fun ls hl => ?_)
          refine lv_goto (tgt := 4) hx hb dX3_easeBanks_43 (by decide) ?_
          exact ih hw hI (lv_sub hl [3, 1, 0] rfl) (by omega) (by omega)
        · have hw := hw.2 hc
          refine j_aload_n (r := v3) hx hb dX3_easeBanks_27 rfl (lv_at hl 0 rfl) ?_
          refine j_goz hI (va_runS (As := [va_rf v3]) (rest := []) ⟨hx, hb, hml, hown, hts⟩ (kX3_moveAway l hfl D z v3 μ4 H.size _) (va_cwS 1 hts gX3_easeBanks_X3_moveAway rfl rfl rfl (by decide +kernel) ⟨Nat.le_of_ble_eq_true rfl, Nat.le_of_ble_eq_true rfl⟩) (j_prS2z hK hG hI hw) rfl rfl hl.1 rfl (lv_room (Nat.le_of_ble_eq_true rfl)) dX3_easeBanks_28 ⟨by show _ ≤ 0; omega, by show _ ≤ 0; omega⟩) (fun v7 μ8 H locs hw hI => ?_)
          refine W.eq (g2 := F0 m 31 ls [.int v7]) rfl ?_
          refine lv_if_eq (tgt := 38) hx hb dX3_easeBanks_31 (by decide) (fun hc => ?_) (fun hc => ?_)
          · have hw := hw.1 hc
            refine lv_iconst (v := (0)) hx hb dX3_easeBanks_38 (by decide) ?_
            refine lv_topi (fun v9 ev9 => ?_)
            have hw := hw v9 ev9
            refine lv_istore_n (lv' := [(1, .int v9), (3, va_rf v3), (0, va_rf (some b)), (2, .int x2)]) hx hb dX3_easeBanks_39 rfl hl (by decide) rfl (fun ls hl => ?_)
            obtain ⟨v10, ev10⟩ : ∃ y : Int32, y = x2 + (1 : Int32) := ⟨_, rfl⟩
            have hw := hw v10 ev10
            refine lv_iinc (v := v10) (lv' := [(2, .int v10), (1, .int v9), (3, va_rf v3), (0, va_rf (some b))]) hx hb dX3_easeBanks_40 hl (k := 3) rfl (by rw [ev10]; rfl) (by decide) rfl (fun ls hl => ?_)
            refine lv_goto (tgt := 4) hx hb dX3_easeBanks_43 (by decide) ?_
            exact ih hw hI (lv_sub hl [3, 1, 0] rfl) (by omega) (by omega)
          · have hw := hw.2 hc
            refine lv_iconst (v := (1)) hx hb dX3_easeBanks_34 (by decide) ?_
            refine lv_goto (tgt := 39) hx hb dX3_easeBanks_35 (by decide) ?_
            refine lv_topi (fun v11 ev11 => ?_)
            have hw := hw v11 ev11
            refine lv_istore_n (lv' := [(1, .int v11), (3, va_rf v3), (0, va_rf (some b)), (2, .int x2)]) hx hb dX3_easeBanks_39 rfl hl (by decide) rfl (fun ls hl => ?_)
            obtain ⟨v12, ev12⟩ : ∃ y : Int32, y = x2 + (1 : Int32) := ⟨_, rfl⟩
            have hw := hw v12 ev12
            refine lv_iinc (v := v12) (lv' := [(2, .int v12), (1, .int v11), (3, va_rf v3), (0, va_rf (some b))]) hx hb dX3_easeBanks_40 hl (k := 3) rfl (by rw [ev12]; rfl) (by decide) rfl (fun ls hl => ?_)
            refine lv_goto (tgt := 4) hx hb dX3_easeBanks_43 (by decide) ?_
            exact ih hw hI (lv_sub hl [3, 1, 0] rfl) (by omega) (by omega)
set_option maxHeartbeats 4000000 in
set_option maxRecDepth 100000 in
theorem kX3_easeBanks_0 {b : Nat} (hX : jX2 D z A p l s m args meth c yX3_easeBanks cX3_easeBanks 4 wsX3_easeBanks none) {Q : Unit → jM → Prop}   {μ : jM} {H : Heap} {locs : List Loc} {ls : Array Slot} {cells slots : Nat} (hw : wX3_easeBanks_0 z b Q  μ) (hI : jIz D z A s.heap μ H locs) (hl : lv_has ls 4 [(0, va_rf (some b))]) (hcn : cells + 0 ≤ 0) (hsn : slots + 0 ≤ 0) : W p l e rmX3_easeBanks s m args below meth c H locs cells slots (MQ below (jRz jfV Q D z A) args s 0 0 A) (F0 m 0 ls []) := by
  unfold wX3_easeBanks_0 at hw
  obtain ⟨hx, hb, hml, hown, hts, hr, hlocks, hnm, hK, hG, hfl⟩ := id hX
  have hown : s.vm.findClass RX3 = some m.cls := hown
  refine lv_iconst (v := (1)) hx hb dX3_easeBanks_0 (by decide) ?_
  refine lv_topi (fun v1 ev1 => ?_)
  have hw := hw v1 ev1
  refine lv_istore_n (lv' := [(1, .int v1), (0, va_rf (some b))]) hx hb dX3_easeBanks_1 rfl hl (by decide) rfl (fun ls hl => ?_)
  refine lv_iconst (v := (0)) hx hb dX3_easeBanks_2 (by decide) ?_
  refine lv_topi (fun v2 ev2 => ?_)
  have hw := hw v2 ev2
  refine lv_istore_n (lv' := [(2, .int v2), (1, .int v1), (0, va_rf (some b))]) hx hb dX3_easeBanks_3 rfl hl (by decide) rfl (fun ls hl => ?_)
  obtain ⟨n3, hw⟩ := hw
  exact kX3_easeBanks_4 hX  n3 hw hI (lv_sub hl [2, 1, 0] rfl) (by omega) (by omega)
set_option maxHeartbeats 4000000 in
set_option maxRecDepth 100000 in
theorem kX3_easeBanks (l : Launch) (hfl : l.stackTraces = false) (D : jD) (z : Nat × Nat) (b : Nat)  (μ : jM) (sz : Nat) (Q : Unit → jM → Prop) : Met l yX3_easeBanks wsX3_easeBanks rmX3_easeBanks (jPre2z D z μ sz [.ref b] (wX3_easeBanks z b  μ Q)) (jRz jfV Q D z (jA z μ sz)) 0 0 (jA z μ sz) := by
  refine Met.ofW (cc := cX3_easeBanks) (maxL := 4) (ret := none) (by decide) rfl ?_
  intro p e s m args below meth c s₁ B hml hv
  obtain ⟨rfl, hsz, hH, hz0, hK, hG, hw⟩ := hv
  subst hsz
  have hX : jX2 D z (jA z μ s.heap.size) p l s m _ meth c yX3_easeBanks cX3_easeBanks 4 wsX3_easeBanks none := ⟨B.exec, B.bytes, hml, findClass_of_methodNamed B.named, atoms_spec (ws := wsX3_easeBanks) B.pre, B.returns, B.notSynchronized, (name_of_methodNamed B.named B.method).1, hK, hG, hfl⟩
  obtain ⟨ls, hg, hl⟩ : ∃ ls : Array Slot, entryFrame m ([.ref b] : List Value).toArray 4 = F0 m 0 ls [] ∧ lv_has ls 4 [(0, va_rf (some b))] := by
    exact ⟨_, lg_entry_eq .., lv_entry _ (n := 4) (Nat.le_of_ble_eq_true rfl)⟩
  rw [hg]
  exact kX3_easeBanks_0 hX hw (jIz.start hH hz0) (lv_sub hl [0] rfl) (by decide) (by decide)
set_option maxHeartbeats 4000000 in
set_option maxRecDepth 100000 in
theorem kX7_accrue_37 {b : Nat} (hX : jX2 D z A p l s m args meth c yX7_accrue cX7_accrue 7 wsX7_accrue none) {Q : Unit → jM → Prop}  (n : Nat) : ∀ {x3 : Option Nat} {x6 : Int32} {μ : jM} {H : Heap} {locs : List Loc} {ls : Array Slot} {cells slots : Nat}, wX7_accrue_37 z b Q n x3 x6 μ → jIz D z A s.heap μ H locs → lv_has ls 7 [(0, va_rf (some b)), (3, va_rf x3), (6, .int x6)] → cells + 0 ≤ 0 → slots + 0 ≤ 0 → W p l e rmX7_accrue s m args below meth c H locs cells slots (MQ below (jRz jfV Q D z A) args s 0 0 A) (F0 m 37 ls []) := by
  induction n with
  | zero =>
    intros
    rename_i hw _ _ _ _
    exact (show False from hw).elim
  | succ n ih =>
    intro x3 x6 μ H locs ls cells slots hw hI hl hcn hsn
    have hw : wX7_accrue_37_b z b Q (wX7_accrue_37 z b Q n) x3 x6 μ := hw
    unfold wX7_accrue_37_b at hw
    obtain ⟨hx, hb, hml, hown, hts, hr, hlocks, hnm, hK, hG, hfl⟩ := id hX
    have hown : s.vm.findClass RX7 = some m.cls := hown
    have hfX0 : ∀ w ∈ wsX00, w.before args s = true := fun w h => hts w (List.mem_cons_of_mem _ (List.mem_append_left _ (List.mem_append_right _ h)))
    have hfX7 : ∀ w ∈ wsX70, w.before args s = true := fun w h => hts w (List.mem_cons_of_mem _ (List.mem_append_left _ (List.mem_append_left _ (List.mem_append_right _ h))))
    refine lv_iload hx hb dX7_accrue_37 (lv_at hl 2 rfl) ?_
    refine j_aload_n (r := x3) hx hb dX7_accrue_39 rfl (lv_at hl 1 rfl) ?_
    obtain ⟨b3, ⟨hrb3, hfs⟩, hw⟩ := hw
    refine j_goz hI (va_runV (As := []) (rest := [.int x6]) ⟨hx, hb, hml, hown, hts⟩ (kJx4a65c_size_8abf5 l hfl D z b3  μ H.size _) (cwV 0 hts gX7_accrue_Jx4a65c_size_8abf5 rfl rfl rfl (by decide +kernel) ⟨Nat.le_of_ble_eq_true rfl, Nat.le_of_ble_eq_true rfl⟩) (j_prV2z hK hG hI hw (ci := 2) rfl hfs) rfl rfl hl.1 (by rw [hrb3]; rfl) (lv_room (Nat.le_of_ble_eq_true rfl)) dX7_accrue_40 ⟨by show _ ≤ 0; omega, by show _ ≤ 0; omega⟩) (fun v1 μ2 H locs hw hI => ?_)
    refine W.eq (g2 := F0 m 43 ls [.int v1, .int x6]) rfl ?_
    refine lv_icmp_ge (tgt := 94) hx hb dX7_accrue_43 (by decide) (fun hc => ?_) (fun hc => ?_)
    · have hw := hw.1 hc
      exact j_vretz hx hb hr hlocks hI hw (by omega) (by omega) dX7_accrue_94
    · have hw := hw.2 hc
      refine lv_iload hx hb dX7_accrue_46 (lv_at hl 2 rfl) ?_
      refine j_aload_n (r := (some b)) hx hb dX7_accrue_48 rfl (lv_at hl 0 rfl) ?_
      obtain ⟨v4, hv4, hw⟩ := hw
      refine j_getz (C := RX7) (T := TX7) (N := 10) (ci := 10) (r := (some b)) (v := va_rf v4) hx hb hfX7 hown hK hI rfl 4 (by decide) (hts (.fieldLink RX7 9 "CashPools$Side" "weights" "[J") (List.mem_of_getElem? (i := 4) (by decide +kernel))) (fun _ h => h) hv4 dX7_accrue_49 ?_
      obtain ⟨v5, hv5, hw⟩ := hw
      refine j_alenz (r := v4) hx hb hK hI hv5 dX7_accrue_52 ?_
      refine lv_icmp_ge (tgt := 94) hx hb dX7_accrue_53 (by decide) (fun hc => ?_) (fun hc => ?_)
      · have hw := hw.1 hc
        exact j_vretz hx hb hr hlocks hI hw (by omega) (by omega) dX7_accrue_94
      · have hw := hw.2 hc
        refine j_aload_n (r := (some b)) hx hb dX7_accrue_56 rfl (lv_at hl 0 rfl) ?_
        obtain ⟨v6, hv6, hw⟩ := hw
        refine j_getz (C := RX7) (T := TX7) (N := 10) (ci := 10) (r := (some b)) (v := va_rf v6) hx hb hfX7 hown hK hI rfl 4 (by decide) (hts (.fieldLink RX7 9 "CashPools$Side" "weights" "[J") (List.mem_of_getElem? (i := 4) (by decide +kernel))) (fun _ h => h) hv6 dX7_accrue_57 ?_
        refine lv_iload hx hb dX7_accrue_60 (lv_at hl 2 rfl) ?_
        refine lv_dup2_11 hx hb dX7_accrue_62 rfl (jrc v6) ?_
        obtain ⟨v7, hv7, hw⟩ := hw
        refine j_laldz (r := v6) hx hb hK hI hv7 dX7_accrue_63 ?_
        refine j_aload_n (r := (some b)) hx hb dX7_accrue_64 rfl (lv_at hl 0 rfl) ?_
        obtain ⟨v8, hv8, hw⟩ := hw
        refine j_getz (C := RX7) (T := TX7) (N := 10) (ci := 10) (r := (some b)) (v := .int v8) hx hb hfX7 hown hK hI rfl 1 (by decide) (hts (.fieldLink RX7 28 "CashPools$Side" "sign" "I") (List.mem_of_getElem? (i := 1) (by decide +kernel))) (fun _ h => h) hv8 dX7_accrue_65 ?_
        refine lv_i2l hx hb dX7_accrue_68 rfl ?_
        refine j_aload_n (r := x3) hx hb dX7_accrue_69 rfl (lv_at hl 1 rfl) ?_
        refine lv_iload hx hb dX7_accrue_70 (lv_at hl 2 rfl) ?_
        obtain ⟨b11, ⟨hrb11, hfs⟩, hw⟩ := hw
        refine j_goz hI (va_runV (As := [.int x6]) (rest := [.long (Int32.toInt64 v8), .long v7, .int x6, va_rf v6]) ⟨hx, hb, hml, hown, hts⟩ (kJx4a65c_get_915e3 l hfl D z b11 x6 μ2 H.size _) (cwV 1 hts gX7_accrue_Jx4a65c_get_915e3 rfl rfl rfl (by decide +kernel) ⟨Nat.le_of_ble_eq_true rfl, Nat.le_of_ble_eq_true rfl⟩) (j_prV2z hK hG hI hw (ci := 2) rfl hfs) rfl rfl hl.1 (by rw [hrb11]; rfl) (lv_room (by simp only [List.map, List.sum_cons, List.sum_nil, jrc, jci, jcl, jcr, jcn]; exact Nat.le_of_ble_eq_true rfl)) dX7_accrue_72 ⟨by show _ ≤ 0; omega, by show _ ≤ 0; omega⟩) (fun v9 μ10 H locs hw hI => ?_)
        refine W.eq (g2 := F0 m 75 ls [va_rf v9, .long (Int32.toInt64 v8), .long v7, .int x6, va_rf v6]) rfl ?_
        obtain ⟨h12, hw⟩ := hw
        refine j_castz (C := RX0) (T := TX0) (N := 12) (ci := 3) (r := v9) hx hb hown (hts (.classLink RX7 45 "CashPools$Account") (List.mem_of_getElem? (i := 5) (by decide +kernel))) hK hI rfl h12 dX7_accrue_75 ?_
        obtain ⟨v13, hv13, hw⟩ := hw
        refine j_getz (C := RX0) (T := TX0) (N := 12) (ci := 3) (r := v9) (v := .long v13) hx hb hfX0 hown hK hI rfl 8 (by decide) (hts (.fieldLink RX7 47 "CashPools$Account" "cash" "J") (List.mem_of_getElem? (i := 6) (by decide +kernel))) (fun _ h => h) hv13 dX7_accrue_78 ?_
        refine lv_lmul hx hb dX7_accrue_81 ?_
        refine lv_lconst (v := (0)) hx hb dX7_accrue_82 (by decide) ?_
        refine va_mmax_long hx hb (by rw [hml]; exact hl.1.symm) hown (hts (.methodLink RX7 50 Lib.MathLoose.max_long.x) (List.mem_of_getElem? (i := 7) (by decide +kernel))) (hts (.static Lib.MathLoose.max_long.x) (List.mem_of_getElem? (i := 8) (by decide +kernel))) (hts (.initialized "java/lang/Math") (List.mem_of_getElem? (i := 9) (by decide +kernel))) (hts (.code Lib.MathLoose.max_long.x Lib.MathLoose.max_long.code 4 (some .long)) (List.mem_of_getElem? (i := 10) (by decide +kernel))) (Nat.le_of_ble_eq_true rfl) (by simp only [List.map, List.sum_cons, List.sum_nil, jrc, jci, jcl, jcr, jcn]; exact Nat.le_of_ble_eq_true rfl) (by show _ ≤ 0; omega) (by show _ ≤ 0; omega) dX7_accrue_83 ?_
        refine lv_ladd hx hb dX7_accrue_86 ?_
        obtain ⟨μ14, hμ14, hw⟩ := hw
        refine j_lastz (r := v6) hx hb hK hI hμ14 dX7_accrue_87 (fun H locs hI => ?_)
        obtain ⟨v15, ev15⟩ : ∃ y : Int32, y = x6 + (1 : Int32) := ⟨_, rfl⟩
        have hw := hw v15 ev15
        refine lv_iinc (v := v15) (lv' := [(6, .int v15), (0, va_rf (some b)), (3, va_rf x3)]) hx hb dX7_accrue_88 hl (k := 2) rfl (by rw [ev15]; rfl) (by decide) rfl (fun ls hl => ?_)
        refine lv_goto (tgt := 37) hx hb dX7_accrue_91 (by decide) ?_
        exact ih hw hI (lv_sub hl [1, 2, 0] rfl) (by omega) (by omega)
set_option maxHeartbeats 4000000 in
set_option maxRecDepth 100000 in
theorem kX7_accrue_0 {b : Nat} (hX : jX2 D z A p l s m args meth c yX7_accrue cX7_accrue 7 wsX7_accrue none) {Q : Unit → jM → Prop}  {x1 : Int64} {x3 : Option Nat} {μ : jM} {H : Heap} {locs : List Loc} {ls : Array Slot} {cells slots : Nat} (hw : wX7_accrue_0 z b Q x1 x3 μ) (hI : jIz D z A s.heap μ H locs) (hl : lv_has ls 7 [(0, va_rf (some b)), (1, .long x1), (3, va_rf x3)]) (hcn : cells + 0 ≤ 0) (hsn : slots + 0 ≤ 0) : W p l e rmX7_accrue s m args below meth c H locs cells slots (MQ below (jRz jfV Q D z A) args s 0 0 A) (F0 m 0 ls []) := by
  unfold wX7_accrue_0 at hw
  obtain ⟨hx, hb, hml, hown, hts, hr, hlocks, hnm, hK, hG, hfl⟩ := id hX
  have hown : s.vm.findClass RX7 = some m.cls := hown
  have hfX7 : ∀ w ∈ wsX70, w.before args s = true := fun w h => hts w (List.mem_cons_of_mem _ (List.mem_append_left _ (List.mem_append_left _ (List.mem_append_right _ h))))
  refine j_aload_n (r := (some b)) hx hb dX7_accrue_0 rfl (lv_at hl 0 rfl) ?_
  obtain ⟨v1, hv1, hw⟩ := hw
  refine j_getz (C := RX7) (T := TX7) (N := 10) (ci := 10) (r := (some b)) (v := .int v1) hx hb hfX7 hown hK hI rfl 1 (by decide) (hts (.fieldLink RX7 28 "CashPools$Side" "sign" "I") (List.mem_of_getElem? (i := 1) (by decide +kernel))) (fun _ h => h) hv1 dX7_accrue_1 ?_
  refine lv_i2l hx hb dX7_accrue_4 rfl ?_
  refine lv_lload_n hx hb dX7_accrue_5 rfl (lv_at hl 1 rfl) ?_
  refine lv_lmul hx hb dX7_accrue_6 ?_
  refine lv_topl (fun v2 ev2 => ?_)
  have hw := hw v2 ev2
  refine j_lstoreA (r := x3) (F := fun w => [(0, va_rf (some b)), (1, .long x1), (3, w)]) (F2 := fun w => [(4, .long v2), (0, va_rf (some b)), (1, .long x1), (3, w)]) hx hb dX7_accrue_7 hl (by decide) (fun w hw => by rcases hw with rfl | ⟨_, rfl⟩ <;> rfl) (fun ls hl => ?_)
  refine lv_lload hx hb dX7_accrue_9 (lv_at hl 0 rfl) ?_
  refine lv_lconst (v := (0)) hx hb dX7_accrue_11 (by decide) ?_
  refine j_lcmp_gt (tgt := 17) hx hb dX7_accrue_12 dX7_accrue_13 (by decide) (fun hc => ?_) (fun hc => ?_)
  · have hw := hw.1 hc
    refine j_aload_n (r := (some b)) hx hb dX7_accrue_17 rfl (lv_at hl 1 rfl) ?_
    refine lv_dup hx hb dX7_accrue_18 rfl ?_
    obtain ⟨v3, hv3, hw⟩ := hw
    refine j_getz (C := RX7) (T := TX7) (N := 10) (ci := 10) (r := (some b)) (v := .long v3) hx hb hfX7 hown hK hI rfl 2 (by decide) (hts (.fieldLink RX7 31 "CashPools$Side" "sum" "J") (List.mem_of_getElem? (i := 2) (by decide +kernel))) (fun _ h => h) hv3 dX7_accrue_19 ?_
    refine lv_lload hx hb dX7_accrue_22 (lv_at hl 0 rfl) ?_
    refine j_aload_n (r := (some b)) hx hb dX7_accrue_24 rfl (lv_at hl 1 rfl) ?_
    obtain ⟨v4, hv4, hw⟩ := hw
    refine j_getz (C := RX7) (T := TX7) (N := 10) (ci := 10) (r := (some b)) (v := .int v4) hx hb hfX7 hown hK hI rfl 0 (by decide) (hts (.fieldLink RX7 24 "CashPools$Side" "rate" "I") (List.mem_of_getElem? (i := 3) (by decide +kernel))) (fun _ h => h) hv4 dX7_accrue_25 ?_
    refine lv_i2l hx hb dX7_accrue_28 rfl ?_
    refine lv_lmul hx hb dX7_accrue_29 ?_
    refine lv_ladd hx hb dX7_accrue_30 ?_
    obtain ⟨μ5, hμ5, hw⟩ := hw
    refine j_putz (C := RX7) (T := TX7) (N := 10) (ci := 10) (r := (some b)) (v := .long (v3 + (v2 * (Int32.toInt64 v4)))) hx hb hfX7 tyX7 tyX7_ok nmX7 hown hK hI rfl 2 (by decide) (hts (.fieldLink RX7 31 "CashPools$Side" "sum" "J") (List.mem_of_getElem? (i := 2) (by decide +kernel))) (fun _ h => h) rfl (tyX7_ok 2 (by decide)) rfl rfl hμ5 dX7_accrue_31 (fun H locs hI => ?_)
    refine lv_iconst (v := (0)) hx hb dX7_accrue_34 (by decide) ?_
    refine lv_topi (fun v6 ev6 => ?_)
    have hw := hw v6 ev6
    refine lv_istore (lv' := [(6, .int v6), (4, .long v2), (0, va_rf (some b)), (1, .long x1), (3, va_rf x3)]) hx hb dX7_accrue_35 hl (by decide) rfl (fun ls hl => ?_)
    obtain ⟨n7, hw⟩ := hw
    exact kX7_accrue_37 hX  n7 hw hI (lv_sub hl [2, 4, 0] rfl) (by omega) (by omega)
  · have hw := hw.2 hc
    exact j_vretz hx hb hr hlocks hI hw (by omega) (by omega) dX7_accrue_16
set_option maxHeartbeats 4000000 in
set_option maxRecDepth 100000 in
theorem kX7_accrue (l : Launch) (hfl : l.stackTraces = false) (D : jD) (z : Nat × Nat) (b : Nat) (x1 : Int64) (x3 : Option Nat) (μ : jM) (sz : Nat) (Q : Unit → jM → Prop) : Met l yX7_accrue wsX7_accrue rmX7_accrue (jPre2z D z μ sz [.ref b, .long x1, va_rf x3] (wX7_accrue z b x1 x3 μ Q)) (jRz jfV Q D z (jA z μ sz)) 0 0 (jA z μ sz) := by
  refine Met.ofW (cc := cX7_accrue) (maxL := 7) (ret := none) (by decide) rfl ?_
  intro p e s m args below meth c s₁ B hml hv
  obtain ⟨rfl, hsz, hH, hz0, hK, hG, hw⟩ := hv
  subst hsz
  have hX : jX2 D z (jA z μ s.heap.size) p l s m _ meth c yX7_accrue cX7_accrue 7 wsX7_accrue none := ⟨B.exec, B.bytes, hml, findClass_of_methodNamed B.named, atoms_spec (ws := wsX7_accrue) B.pre, B.returns, B.notSynchronized, (name_of_methodNamed B.named B.method).1, hK, hG, hfl⟩
  obtain ⟨ls, hg, hl⟩ : ∃ ls : Array Slot, entryFrame m ([.ref b, .long x1, va_rf x3] : List Value).toArray 7 = F0 m 0 ls [] ∧ lv_has ls 7 [(0, va_rf (some b)), (1, .long x1), (3, va_rf x3)] := by
    cases x3 <;> exact ⟨_, lg_entry_eq .., lv_entry _ (n := 7) (Nat.le_of_ble_eq_true rfl)⟩
  rw [hg]
  exact kX7_accrue_0 hX hw (jIz.start hH hz0) (lv_sub hl [0, 1, 2] rfl) (by decide) (by decide)
set_option maxHeartbeats 4000000 in
set_option maxRecDepth 100000 in
theorem kX6_accrue_4 {b : Nat} (hX : jX2 D z A p l s m args meth c yX6_accrue cX6_accrue 4 wsX6_accrue none) {Q : Unit → jM → Prop}  (n : Nat) : ∀ {x1 : Int64} {x3 : Int32} {μ : jM} {H : Heap} {locs : List Loc} {ls : Array Slot} {cells slots : Nat}, wX6_accrue_4 z b Q n x1 x3 μ → jIz D z A s.heap μ H locs → lv_has ls 4 [(0, va_rf (some b)), (1, .long x1), (3, .int x3)] → cells + 0 ≤ 0 → slots + 0 ≤ 0 → W p l e rmX6_accrue s m args below meth c H locs cells slots (MQ below (jRz jfV Q D z A) args s 0 0 A) (F0 m 4 ls []) := by
  induction n with
  | zero =>
    intros
    rename_i hw _ _ _ _
    exact (show False from hw).elim
  | succ n ih =>
    intro x1 x3 μ H locs ls cells slots hw hI hl hcn hsn
    have hw : wX6_accrue_4_b z b Q (wX6_accrue_4 z b Q n) x1 x3 μ := hw
    unfold wX6_accrue_4_b at hw
    obtain ⟨hx, hb, hml, hown, hts, hr, hlocks, hnm, hK, hG, hfl⟩ := id hX
    have hown : s.vm.findClass RX6 = some m.cls := hown
    have hfX0 : ∀ w ∈ wsX00, w.before args s = true := fun w h => hts w (List.mem_cons_of_mem _ (List.mem_append_left _ (List.mem_append_left _ (List.mem_append_right _ h))))
    have hfX6 : ∀ w ∈ wsX60, w.before args s = true := fun w h => hts w (List.mem_cons_of_mem _ (List.mem_append_left _ (List.mem_append_left _ (List.mem_append_left _ (List.mem_append_right _ h)))))
    refine lv_iload_n hx hb dX6_accrue_4 rfl (lv_at hl 2 rfl) ?_
    refine j_aload_n (r := (some b)) hx hb dX6_accrue_5 rfl (lv_at hl 0 rfl) ?_
    obtain ⟨v1, hv1, hw⟩ := hw
    refine j_getz (C := RX6) (T := TX6) (N := 5) (ci := 9) (r := (some b)) (v := va_rf v1) hx hb hfX6 hown hK hI rfl 3 (by decide) (hts (.fieldLink RX6 10 "CashPools$Pool" "members" "Ljava/util/ArrayList;") (List.mem_of_getElem? (i := 1) (by decide +kernel))) (fun _ h => h) hv1 dX6_accrue_6 ?_
    obtain ⟨b4, ⟨hrb4, hfs⟩, hw⟩ := hw
    refine j_goz hI (va_runV (As := []) (rest := [.int x3]) ⟨hx, hb, hml, hown, hts⟩ (kJx4a65c_size_8abf5 l hfl D z b4  μ H.size _) (cwV 0 hts gX6_accrue_Jx4a65c_size_8abf5 rfl rfl rfl (by decide +kernel) ⟨Nat.le_of_ble_eq_true rfl, Nat.le_of_ble_eq_true rfl⟩) (j_prV2z hK hG hI hw (ci := 2) rfl hfs) rfl rfl hl.1 (by rw [hrb4]; rfl) (lv_room (Nat.le_of_ble_eq_true rfl)) dX6_accrue_9 ⟨by show _ ≤ 0; omega, by show _ ≤ 0; omega⟩) (fun v2 μ3 H locs hw hI => ?_)
    refine W.eq (g2 := F0 m 12 ls [.int v2, .int x3]) rfl ?_
    refine lv_icmp_ge (tgt := 38) hx hb dX6_accrue_12 (by decide) (fun hc => ?_) (fun hc => ?_)
    · have hw := hw.1 hc
      refine j_aload_n (r := (some b)) hx hb dX6_accrue_38 rfl (lv_at hl 0 rfl) ?_
      obtain ⟨v5, hv5, hw⟩ := hw
      refine j_getz (C := RX6) (T := TX6) (N := 5) (ci := 9) (r := (some b)) (v := va_rf v5) hx hb hfX6 hown hK hI rfl 1 (by decide) (hts (.fieldLink RX6 28 "CashPools$Pool" "credit" "LCashPools$Side;") (List.mem_of_getElem? (i := 4) (by decide +kernel))) (fun _ h => h) hv5 dX6_accrue_39 ?_
      refine lv_lload_n hx hb dX6_accrue_42 rfl (lv_at hl 1 rfl) ?_
      refine j_aload_n (r := (some b)) hx hb dX6_accrue_43 rfl (lv_at hl 0 rfl) ?_
      obtain ⟨v6, hv6, hw⟩ := hw
      refine j_getz (C := RX6) (T := TX6) (N := 5) (ci := 9) (r := (some b)) (v := va_rf v6) hx hb hfX6 hown hK hI rfl 3 (by decide) (hts (.fieldLink RX6 10 "CashPools$Pool" "members" "Ljava/util/ArrayList;") (List.mem_of_getElem? (i := 1) (by decide +kernel))) (fun _ h => h) hv6 dX6_accrue_44 ?_
      obtain ⟨b9, ⟨hrb9, hfs⟩, hw⟩ := hw
      refine j_goz hI (va_runV (As := [.long x1, va_rf v6]) (rest := []) ⟨hx, hb, hml, hown, hts⟩ (kX7_accrue l hfl D z b9 x1 v6 μ3 H.size _) (cwV 2 hts gX6_accrue_X7_accrue rfl rfl rfl (by decide +kernel) ⟨Nat.le_of_ble_eq_true rfl, Nat.le_of_ble_eq_true rfl⟩) (j_prV2z hK hG hI hw (ci := 10) rfl hfs) rfl rfl hl.1 (by rw [hrb9]; rfl) (lv_room (Nat.le_of_ble_eq_true rfl)) dX6_accrue_47 ⟨by show _ ≤ 0; omega, by show _ ≤ 0; omega⟩) (fun u7 μ8 H locs hw hI => ?_)
      refine W.eq (g2 := F0 m 50 ls []) rfl ?_
      refine j_aload_n (r := (some b)) hx hb dX6_accrue_50 rfl (lv_at hl 0 rfl) ?_
      obtain ⟨v10, hv10, hw⟩ := hw
      refine j_getz (C := RX6) (T := TX6) (N := 5) (ci := 9) (r := (some b)) (v := va_rf v10) hx hb hfX6 hown hK hI rfl 2 (by decide) (hts (.fieldLink RX6 32 "CashPools$Pool" "debit" "LCashPools$Side;") (List.mem_of_getElem? (i := 5) (by decide +kernel))) (fun _ h => h) hv10 dX6_accrue_51 ?_
      refine lv_lload_n hx hb dX6_accrue_54 rfl (lv_at hl 1 rfl) ?_
      refine j_aload_n (r := (some b)) hx hb dX6_accrue_55 rfl (lv_at hl 0 rfl) ?_
      obtain ⟨v11, hv11, hw⟩ := hw
      refine j_getz (C := RX6) (T := TX6) (N := 5) (ci := 9) (r := (some b)) (v := va_rf v11) hx hb hfX6 hown hK hI rfl 3 (by decide) (hts (.fieldLink RX6 10 "CashPools$Pool" "members" "Ljava/util/ArrayList;") (List.mem_of_getElem? (i := 1) (by decide +kernel))) (fun _ h => h) hv11 dX6_accrue_56 ?_
      obtain ⟨b14, ⟨hrb14, hfs⟩, hw⟩ := hw
      refine j_goz hI (va_runV (As := [.long x1, va_rf v11]) (rest := []) ⟨hx, hb, hml, hown, hts⟩ (kX7_accrue l hfl D z b14 x1 v11 μ8 H.size _) (cwV 2 hts gX6_accrue_X7_accrue rfl rfl rfl (by decide +kernel) ⟨Nat.le_of_ble_eq_true rfl, Nat.le_of_ble_eq_true rfl⟩) (j_prV2z hK hG hI hw (ci := 10) rfl hfs) rfl rfl hl.1 (by rw [hrb14]; rfl) (lv_room (Nat.le_of_ble_eq_true rfl)) dX6_accrue_59 ⟨by show _ ≤ 0; omega, by show _ ≤ 0; omega⟩) (fun u12 μ13 H locs hw hI => ?_)
      refine W.eq (g2 := F0 m 62 ls []) rfl ?_
      exact j_vretz hx hb hr hlocks hI hw (by omega) (by omega) dX6_accrue_62
    · have hw := hw.2 hc
      refine lv_lload_n hx hb dX6_accrue_15 rfl (lv_at hl 1 rfl) ?_
      refine j_aload_n (r := (some b)) hx hb dX6_accrue_16 rfl (lv_at hl 0 rfl) ?_
      obtain ⟨v15, hv15, hw⟩ := hw
      refine j_getz (C := RX6) (T := TX6) (N := 5) (ci := 9) (r := (some b)) (v := va_rf v15) hx hb hfX6 hown hK hI rfl 3 (by decide) (hts (.fieldLink RX6 10 "CashPools$Pool" "members" "Ljava/util/ArrayList;") (List.mem_of_getElem? (i := 1) (by decide +kernel))) (fun _ h => h) hv15 dX6_accrue_17 ?_
      refine lv_iload_n hx hb dX6_accrue_20 rfl (lv_at hl 2 rfl) ?_
      obtain ⟨b18, ⟨hrb18, hfs⟩, hw⟩ := hw
      refine j_goz hI (va_runV (As := [.int x3]) (rest := [.long x1]) ⟨hx, hb, hml, hown, hts⟩ (kJx4a65c_get_915e3 l hfl D z b18 x3 μ3 H.size _) (cwV 1 hts gX6_accrue_Jx4a65c_get_915e3 rfl rfl rfl (by decide +kernel) ⟨Nat.le_of_ble_eq_true rfl, Nat.le_of_ble_eq_true rfl⟩) (j_prV2z hK hG hI hw (ci := 2) rfl hfs) rfl rfl hl.1 (by rw [hrb18]; rfl) (lv_room (Nat.le_of_ble_eq_true rfl)) dX6_accrue_21 ⟨by show _ ≤ 0; omega, by show _ ≤ 0; omega⟩) (fun v16 μ17 H locs hw hI => ?_)
      refine W.eq (g2 := F0 m 24 ls [va_rf v16, .long x1]) rfl ?_
      obtain ⟨h19, hw⟩ := hw
      refine j_castz (C := RX0) (T := TX0) (N := 12) (ci := 3) (r := v16) hx hb hown (hts (.classLink RX6 53 "CashPools$Account") (List.mem_of_getElem? (i := 2) (by decide +kernel))) hK hI rfl h19 dX6_accrue_24 ?_
      obtain ⟨v20, hv20, hw⟩ := hw
      refine j_getz (C := RX0) (T := TX0) (N := 12) (ci := 3) (r := v16) (v := .long v20) hx hb hfX0 hown hK hI rfl 8 (by decide) (hts (.fieldLink RX6 52 "CashPools$Account" "cash" "J") (List.mem_of_getElem? (i := 3) (by decide +kernel))) (fun _ h => h) hv20 dX6_accrue_27 ?_
      refine lv_ladd hx hb dX6_accrue_30 ?_
      refine lv_topl (fun v21 ev21 => ?_)
      have hw := hw v21 ev21
      refine lv_lstore_n (lv' := [(1, .long v21), (0, va_rf (some b)), (3, .int x3)]) hx hb dX6_accrue_31 rfl hl (by decide) rfl (fun ls hl => ?_)
      obtain ⟨v22, ev22⟩ : ∃ y : Int32, y = x3 + (1 : Int32) := ⟨_, rfl⟩
      have hw := hw v22 ev22
      refine lv_iinc (v := v22) (lv' := [(3, .int v22), (1, .long v21), (0, va_rf (some b))]) hx hb dX6_accrue_32 hl (k := 2) rfl (by rw [ev22]; rfl) (by decide) rfl (fun ls hl => ?_)
      refine lv_goto (tgt := 4) hx hb dX6_accrue_35 (by decide) ?_
      exact ih hw hI (lv_sub hl [2, 1, 0] rfl) (by omega) (by omega)
set_option maxHeartbeats 4000000 in
set_option maxRecDepth 100000 in
theorem kX6_accrue_0 {b : Nat} (hX : jX2 D z A p l s m args meth c yX6_accrue cX6_accrue 4 wsX6_accrue none) {Q : Unit → jM → Prop}   {μ : jM} {H : Heap} {locs : List Loc} {ls : Array Slot} {cells slots : Nat} (hw : wX6_accrue_0 z b Q  μ) (hI : jIz D z A s.heap μ H locs) (hl : lv_has ls 4 [(0, va_rf (some b))]) (hcn : cells + 0 ≤ 0) (hsn : slots + 0 ≤ 0) : W p l e rmX6_accrue s m args below meth c H locs cells slots (MQ below (jRz jfV Q D z A) args s 0 0 A) (F0 m 0 ls []) := by
  unfold wX6_accrue_0 at hw
  obtain ⟨hx, hb, hml, hown, hts, hr, hlocks, hnm, hK, hG, hfl⟩ := id hX
  have hown : s.vm.findClass RX6 = some m.cls := hown
  refine lv_lconst (v := (0)) hx hb dX6_accrue_0 (by decide) ?_
  refine lv_topl (fun v1 ev1 => ?_)
  have hw := hw v1 ev1
  refine lv_lstore_n (lv' := [(1, .long v1), (0, va_rf (some b))]) hx hb dX6_accrue_1 rfl hl (by decide) rfl (fun ls hl => ?_)
  refine lv_iconst (v := (0)) hx hb dX6_accrue_2 (by decide) ?_
  refine lv_topi (fun v2 ev2 => ?_)
  have hw := hw v2 ev2
  refine lv_istore_n (lv' := [(3, .int v2), (1, .long v1), (0, va_rf (some b))]) hx hb dX6_accrue_3 rfl hl (by decide) rfl (fun ls hl => ?_)
  obtain ⟨n3, hw⟩ := hw
  exact kX6_accrue_4 hX  n3 hw hI (lv_sub hl [2, 1, 0] rfl) (by omega) (by omega)
set_option maxHeartbeats 4000000 in
set_option maxRecDepth 100000 in
theorem kX6_accrue (l : Launch) (hfl : l.stackTraces = false) (D : jD) (z : Nat × Nat) (b : Nat)  (μ : jM) (sz : Nat) (Q : Unit → jM → Prop) : Met l yX6_accrue wsX6_accrue rmX6_accrue (jPre2z D z μ sz [.ref b] (wX6_accrue z b  μ Q)) (jRz jfV Q D z (jA z μ sz)) 0 0 (jA z μ sz) := by
  refine Met.ofW (cc := cX6_accrue) (maxL := 4) (ret := none) (by decide) rfl ?_
  intro p e s m args below meth c s₁ B hml hv
  obtain ⟨rfl, hsz, hH, hz0, hK, hG, hw⟩ := hv
  subst hsz
  have hX : jX2 D z (jA z μ s.heap.size) p l s m _ meth c yX6_accrue cX6_accrue 4 wsX6_accrue none := ⟨B.exec, B.bytes, hml, findClass_of_methodNamed B.named, atoms_spec (ws := wsX6_accrue) B.pre, B.returns, B.notSynchronized, (name_of_methodNamed B.named B.method).1, hK, hG, hfl⟩
  obtain ⟨ls, hg, hl⟩ : ∃ ls : Array Slot, entryFrame m ([.ref b] : List Value).toArray 4 = F0 m 0 ls [] ∧ lv_has ls 4 [(0, va_rf (some b))] := by
    exact ⟨_, lg_entry_eq .., lv_entry _ (n := 4) (Nat.le_of_ble_eq_true rfl)⟩
  rw [hg]
  exact kX6_accrue_0 hX hw (jIz.start hH hz0) (lv_sub hl [0] rfl) (by decide) (by decide)
end
