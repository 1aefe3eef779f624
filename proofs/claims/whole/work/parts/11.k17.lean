section
variable {p : Program} {l : Launch} {e : Env} {s : State} {m : MethodId} {args : Array Value} {below : List Frame} {meth : Method} {c : Code} {D : jD} {z : Nat × Nat} {A : Nat → Prop}
set_option maxHeartbeats 4000000 in
set_option maxRecDepth 100000 in
theorem kX10_isLine_18 {b : Nat} (hX : jX2 D z A p l s m args meth c yX10_isLine cX10_isLine 2 wsX10_isLine (some .boolean)) {Q : Int32 → jM → Prop}  {t0 : Option Nat} {t1 : Int32} {μ : jM} {H : Heap} {locs : List Loc} {ls : Array Slot} {cells slots : Nat} (hw : wX10_isLine_18 z b Q t0 t1 μ) (hI : jIz D z A s.heap μ H locs) (hl : lv_has ls 2 [(0, va_rf (some b))]) (hcn : cells + 0 ≤ 0) (hsn : slots + 0 ≤ 0) : W p l e rmX10_isLine s m args below meth c H locs cells slots (MQ below (jRz jfI Q D z A) args s 0 0 A) (F0 m 18 ls [.int t1, va_rf t0]) := by
  unfold wX10_isLine_18 at hw
  obtain ⟨hx, hb, hml, hown, hts, hr, hlocks, hnm, hK, hG, hfl⟩ := id hX
  have hown : s.vm.findClass RX10 = some m.cls := hown
  obtain ⟨b3, ⟨hrb3, hfs⟩, hw⟩ := hw
  refine j_goz hI (va_runV (As := [.int t1]) (rest := []) ⟨hx, hb, hml, hown, hts⟩ (kX10_can l hfl D z b3 t1 μ H.size _) (cwV 1 hts gX10_isLine_X10_can rfl rfl rfl (by decide +kernel) ⟨Nat.le_of_ble_eq_true rfl, Nat.le_of_ble_eq_true rfl⟩) (j_prV2z hK hG hI hw (ci := 12) rfl hfs) rfl rfl hl.1 (by rw [hrb3]; rfl) (lv_room (Nat.le_of_ble_eq_true rfl)) dX10_isLine_18 ⟨by show _ ≤ 0; omega, by show _ ≤ 0; omega⟩) (fun v1 μ2 H locs hw hI => ?_)
  refine W.eq (g2 := F0 m 21 ls [.int v1]) rfl ?_
  obtain ⟨hz, hw⟩ := hw
  exact j_zretz hx hb hr hz hlocks hI hw (by omega) (by omega) dX10_isLine_21
set_option maxHeartbeats 4000000 in
set_option maxRecDepth 100000 in
theorem kX10_isLine_17 {b : Nat} (hX : jX2 D z A p l s m args meth c yX10_isLine cX10_isLine 2 wsX10_isLine (some .boolean)) {Q : Int32 → jM → Prop}  {t0 : Option Nat} {μ : jM} {H : Heap} {locs : List Loc} {ls : Array Slot} {cells slots : Nat} (hw : wX10_isLine_17 z b Q t0 μ) (hI : jIz D z A s.heap μ H locs) (hl : lv_has ls 2 [(0, va_rf (some b))]) (hcn : cells + 0 ≤ 0) (hsn : slots + 0 ≤ 0) : W p l e rmX10_isLine s m args below meth c H locs cells slots (MQ below (jRz jfI Q D z A) args s 0 0 A) (F0 m 17 ls [va_rf t0]) := by
  unfold wX10_isLine_17 at hw
  obtain ⟨hx, hb, hml, hown, hts, hr, hlocks, hnm, hK, hG, hfl⟩ := id hX
  have hown : s.vm.findClass RX10 = some m.cls := hown
  refine lv_iconst (v := (1)) hx hb dX10_isLine_17 (by decide) ?_
  exact kX10_isLine_18 hX  hw hI (lv_sub hl [0] rfl) (by omega) (by omega)
set_option maxHeartbeats 4000000 in
set_option maxRecDepth 100000 in
theorem kX10_isLine_0 {b : Nat} (hX : jX2 D z A p l s m args meth c yX10_isLine cX10_isLine 2 wsX10_isLine (some .boolean)) {Q : Int32 → jM → Prop}  {x1 : Int32} {μ : jM} {H : Heap} {locs : List Loc} {ls : Array Slot} {cells slots : Nat} (hw : wX10_isLine_0 z b Q x1 μ) (hI : jIz D z A s.heap μ H locs) (hl : lv_has ls 2 [(0, va_rf (some b)), (1, .int x1)]) (hcn : cells + 0 ≤ 0) (hsn : slots + 0 ≤ 0) : W p l e rmX10_isLine s m args below meth c H locs cells slots (MQ below (jRz jfI Q D z A) args s 0 0 A) (F0 m 0 ls []) := by
  unfold wX10_isLine_0 at hw
  obtain ⟨hx, hb, hml, hown, hts, hr, hlocks, hnm, hK, hG, hfl⟩ := id hX
  have hown : s.vm.findClass RX10 = some m.cls := hown
  have hfX10 : ∀ w ∈ wsX100, w.before args s = true := fun w h => hts w (List.mem_cons_of_mem _ (List.mem_append_right _ h))
  refine j_aload_n (r := (some b)) hx hb dX10_isLine_0 rfl (lv_at hl 0 rfl) ?_
  refine lv_iload_n hx hb dX10_isLine_1 rfl (lv_at hl 1 rfl) ?_
  refine lv_if_lt (tgt := 17) hx hb dX10_isLine_2 (by decide) (fun hc => ?_) (fun hc => ?_)
  · have hw := hw.1 hc
    exact kX10_isLine_17 hX  hw hI (lv_sub hl [0] rfl) (by omega) (by omega)
  · have hw := hw.2 hc
    refine lv_iload_n hx hb dX10_isLine_5 rfl (lv_at hl 1 rfl) ?_
    refine j_aload_n (r := (some b)) hx hb dX10_isLine_6 rfl (lv_at hl 0 rfl) ?_
    obtain ⟨v1, hv1, hw⟩ := hw
    refine j_getz (C := RX10) (T := TX10) (N := 25) (ci := 12) (r := (some b)) (v := .int v1) hx hb hfX10 hown hK hI rfl 1 (by decide) (hts (.fieldLink RX10 106 "CashPoolsModel" "lines" "I") (List.mem_of_getElem? (i := 1) (by decide +kernel))) (fun _ h => h) hv1 dX10_isLine_7 ?_
    refine lv_icmp_ge (tgt := 17) hx hb dX10_isLine_10 (by decide) (fun hc => ?_) (fun hc => ?_)
    · have hw := hw.1 hc
      exact kX10_isLine_17 hX  hw hI (lv_sub hl [0] rfl) (by omega) (by omega)
    · have hw := hw.2 hc
      refine lv_iconst (v := (0)) hx hb dX10_isLine_13 (by decide) ?_
      refine lv_goto (tgt := 18) hx hb dX10_isLine_14 (by decide) ?_
      exact kX10_isLine_18 hX  hw hI (lv_sub hl [0] rfl) (by omega) (by omega)
set_option maxHeartbeats 4000000 in
set_option maxRecDepth 100000 in
theorem kX10_isLine (l : Launch) (hfl : l.stackTraces = false) (D : jD) (z : Nat × Nat) (b : Nat) (x1 : Int32) (μ : jM) (sz : Nat) (Q : Int32 → jM → Prop) : Met l yX10_isLine wsX10_isLine rmX10_isLine (jPre2z D z μ sz [.ref b, .int x1] (wX10_isLine z b x1 μ Q)) (jRz jfI Q D z (jA z μ sz)) 0 0 (jA z μ sz) := by
  refine Met.ofW (cc := cX10_isLine) (maxL := 2) (ret := (some .boolean)) (by decide) rfl ?_
  intro p e s m args below meth c s₁ B hml hv
  obtain ⟨rfl, hsz, hH, hz0, hK, hG, hw⟩ := hv
  subst hsz
  have hX : jX2 D z (jA z μ s.heap.size) p l s m _ meth c yX10_isLine cX10_isLine 2 wsX10_isLine (some .boolean) := ⟨B.exec, B.bytes, hml, findClass_of_methodNamed B.named, atoms_spec (ws := wsX10_isLine) B.pre, B.returns, B.notSynchronized, (name_of_methodNamed B.named B.method).1, hK, hG, hfl⟩
  obtain ⟨ls, hg, hl⟩ : ∃ ls : Array Slot, entryFrame m ([.ref b, .int x1] : List Value).toArray 2 = F0 m 0 ls [] ∧ lv_has ls 2 [(0, va_rf (some b)), (1, .int x1)] := by
    exact ⟨_, lg_entry_eq .., lv_entry _ (n := 2) (Nat.le_of_ble_eq_true rfl)⟩
  rw [hg]
  exact kX10_isLine_0 hX hw (jIz.start hH hz0) (lv_sub hl [0, 1] rfl) (by decide) (by decide)
set_option maxHeartbeats 4000000 in
set_option maxRecDepth 100000 in
theorem kX10_drawn_0 {b : Nat} (hX : jX2 D z A p l s m args meth c yX10_drawn cX10_drawn 2 wsX10_drawn (some .int)) {Q : Int32 → jM → Prop}  {x1 : Int32} {μ : jM} {H : Heap} {locs : List Loc} {ls : Array Slot} {cells slots : Nat} (hw : wX10_drawn_0 z b Q x1 μ) (hI : jIz D z A s.heap μ H locs) (hl : lv_has ls 2 [(0, va_rf (some b)), (1, .int x1)]) (hcn : cells + 0 ≤ 0) (hsn : slots + 0 ≤ 0) : W p l e rmX10_drawn s m args below meth c H locs cells slots (MQ below (jRz jfI Q D z A) args s 0 0 A) (F0 m 0 ls []) := by
  unfold wX10_drawn_0 at hw
  obtain ⟨hx, hb, hml, hown, hts, hr, hlocks, hnm, hK, hG, hfl⟩ := id hX
  have hown : s.vm.findClass RX10 = some m.cls := hown
  have hfX10 : ∀ w ∈ wsX100, w.before args s = true := fun w h => hts w (List.mem_cons_of_mem _ (List.mem_append_right _ h))
  refine j_aload_n (r := (some b)) hx hb dX10_drawn_0 rfl (lv_at hl 0 rfl) ?_
  refine lv_iload_n hx hb dX10_drawn_1 rfl (lv_at hl 1 rfl) ?_
  obtain ⟨hfs, hw⟩ := hw
  refine j_goz hI (va_runV (As := [.int x1]) (rest := []) ⟨hx, hb, hml, hown, hts⟩ (kX10_isLine l hfl D z b x1 μ H.size _) (cwV 1 hts gX10_drawn_X10_isLine rfl rfl rfl (by decide +kernel) ⟨Nat.le_of_ble_eq_true rfl, Nat.le_of_ble_eq_true rfl⟩) (j_prV2z hK hG hI hw (ci := 12) rfl hfs) rfl rfl hl.1 rfl (lv_room (Nat.le_of_ble_eq_true rfl)) dX10_drawn_2 ⟨by show _ ≤ 0; omega, by show _ ≤ 0; omega⟩) (fun v1 μ2 H locs hw hI => ?_)
  refine W.eq (g2 := F0 m 5 ls [.int v1]) rfl ?_
  refine lv_if_eq (tgt := 21) hx hb dX10_drawn_5 (by decide) (fun hc => ?_) (fun hc => ?_)
  · have hw := hw.1 hc
    refine lv_iconst (v := (0)) hx hb dX10_drawn_21 (by decide) ?_
    exact j_iretz hx hb hr hlocks hI hw (by omega) (by omega) dX10_drawn_22
  · have hw := hw.2 hc
    refine j_aload_n (r := (some b)) hx hb dX10_drawn_8 rfl (lv_at hl 0 rfl) ?_
    obtain ⟨v3, hv3, hw⟩ := hw
    refine j_getz (C := RX10) (T := TX10) (N := 25) (ci := 12) (r := (some b)) (v := va_rf v3) hx hb hfX10 hown hK hI rfl 3 (by decide) (hts (.fieldLink RX10 7 "CashPoolsModel" "z" "[J") (List.mem_of_getElem? (i := 1) (by decide +kernel))) (fun _ h => h) hv3 dX10_drawn_9 ?_
    refine lv_bipush (v := (70)) hx hb dX10_drawn_12 (by decide) ?_
    refine lv_iload_n hx hb dX10_drawn_14 rfl (lv_at hl 1 rfl) ?_
    refine lv_iadd hx hb dX10_drawn_15 ?_
    obtain ⟨v4, hv4, hw⟩ := hw
    refine j_laldz (r := v3) hx hb hK hI hv4 dX10_drawn_16 ?_
    refine lv_l2i hx hb dX10_drawn_17 rfl ?_
    refine lv_goto (tgt := 22) hx hb dX10_drawn_18 (by decide) ?_
    exact j_iretz hx hb hr hlocks hI hw (by omega) (by omega) dX10_drawn_22
set_option maxHeartbeats 4000000 in
set_option maxRecDepth 100000 in
theorem kX10_drawn (l : Launch) (hfl : l.stackTraces = false) (D : jD) (z : Nat × Nat) (b : Nat) (x1 : Int32) (μ : jM) (sz : Nat) (Q : Int32 → jM → Prop) : Met l yX10_drawn wsX10_drawn rmX10_drawn (jPre2z D z μ sz [.ref b, .int x1] (wX10_drawn z b x1 μ Q)) (jRz jfI Q D z (jA z μ sz)) 0 0 (jA z μ sz) := by
  refine Met.ofW (cc := cX10_drawn) (maxL := 2) (ret := (some .int)) (by decide) rfl ?_
  intro p e s m args below meth c s₁ B hml hv
  obtain ⟨rfl, hsz, hH, hz0, hK, hG, hw⟩ := hv
  subst hsz
  have hX : jX2 D z (jA z μ s.heap.size) p l s m _ meth c yX10_drawn cX10_drawn 2 wsX10_drawn (some .int) := ⟨B.exec, B.bytes, hml, findClass_of_methodNamed B.named, atoms_spec (ws := wsX10_drawn) B.pre, B.returns, B.notSynchronized, (name_of_methodNamed B.named B.method).1, hK, hG, hfl⟩
  obtain ⟨ls, hg, hl⟩ : ∃ ls : Array Slot, entryFrame m ([.ref b, .int x1] : List Value).toArray 2 = F0 m 0 ls [] ∧ lv_has ls 2 [(0, va_rf (some b)), (1, .int x1)] := by
    exact ⟨_, lg_entry_eq .., lv_entry _ (n := 2) (Nat.le_of_ble_eq_true rfl)⟩
  rw [hg]
  exact kX10_drawn_0 hX hw (jIz.start hH hz0) (lv_sub hl [0, 1] rfl) (by decide) (by decide)
set_option maxHeartbeats 4000000 in
set_option maxRecDepth 100000 in
theorem kX10_costOf_0 {b : Nat} (hX : jX2 D z A p l s m args meth c yX10_costOf cX10_costOf 2 wsX10_costOf (some .long)) {Q : Int64 → jM → Prop}  {x1 : Int32} {μ : jM} {H : Heap} {locs : List Loc} {ls : Array Slot} {cells slots : Nat} (hw : wX10_costOf_0 z b Q x1 μ) (hI : jIz D z A s.heap μ H locs) (hl : lv_has ls 2 [(0, va_rf (some b)), (1, .int x1)]) (hcn : cells + 0 ≤ 0) (hsn : slots + 0 ≤ 0) : W p l e rmX10_costOf s m args below meth c H locs cells slots (MQ below (jRz jfJ Q D z A) args s 0 0 A) (F0 m 0 ls []) := by
  unfold wX10_costOf_0 at hw
  obtain ⟨hx, hb, hml, hown, hts, hr, hlocks, hnm, hK, hG, hfl⟩ := id hX
  have hown : s.vm.findClass RX10 = some m.cls := hown
  have hfX10 : ∀ w ∈ wsX100, w.before args s = true := fun w h => hts w (List.mem_cons_of_mem _ (List.mem_append_right _ h))
  refine j_aload_n (r := (some b)) hx hb dX10_costOf_0 rfl (lv_at hl 0 rfl) ?_
  refine lv_iload_n hx hb dX10_costOf_1 rfl (lv_at hl 1 rfl) ?_
  obtain ⟨hfs, hw⟩ := hw
  refine j_goz hI (va_runV (As := [.int x1]) (rest := []) ⟨hx, hb, hml, hown, hts⟩ (kX10_isLine l hfl D z b x1 μ H.size _) (cwV 1 hts gX10_costOf_X10_isLine rfl rfl rfl (by decide +kernel) ⟨Nat.le_of_ble_eq_true rfl, Nat.le_of_ble_eq_true rfl⟩) (j_prV2z hK hG hI hw (ci := 12) rfl hfs) rfl rfl hl.1 rfl (lv_room (Nat.le_of_ble_eq_true rfl)) dX10_costOf_2 ⟨by show _ ≤ 0; omega, by show _ ≤ 0; omega⟩) (fun v1 μ2 H locs hw hI => ?_)
  refine W.eq (g2 := F0 m 5 ls [.int v1]) rfl ?_
  refine lv_if_eq (tgt := 20) hx hb dX10_costOf_5 (by decide) (fun hc => ?_) (fun hc => ?_)
  · have hw := hw.1 hc
    refine lv_lconst (v := (0)) hx hb dX10_costOf_20 (by decide) ?_
    exact j_lretz hx hb hr hlocks hI hw (by omega) (by omega) dX10_costOf_21
  · have hw := hw.2 hc
    refine j_aload_n (r := (some b)) hx hb dX10_costOf_8 rfl (lv_at hl 0 rfl) ?_
    obtain ⟨v3, hv3, hw⟩ := hw
    refine j_getz (C := RX10) (T := TX10) (N := 25) (ci := 12) (r := (some b)) (v := va_rf v3) hx hb hfX10 hown hK hI rfl 3 (by decide) (hts (.fieldLink RX10 7 "CashPoolsModel" "z" "[J") (List.mem_of_getElem? (i := 1) (by decide +kernel))) (fun _ h => h) hv3 dX10_costOf_9 ?_
    refine lv_bipush (v := (82)) hx hb dX10_costOf_12 (by decide) ?_
    refine lv_iload_n hx hb dX10_costOf_14 rfl (lv_at hl 1 rfl) ?_
    refine lv_iadd hx hb dX10_costOf_15 ?_
    obtain ⟨v4, hv4, hw⟩ := hw
    refine j_laldz (r := v3) hx hb hK hI hv4 dX10_costOf_16 ?_
    refine lv_goto (tgt := 21) hx hb dX10_costOf_17 (by decide) ?_
    exact j_lretz hx hb hr hlocks hI hw (by omega) (by omega) dX10_costOf_21
set_option maxHeartbeats 4000000 in
set_option maxRecDepth 100000 in
theorem kX10_costOf (l : Launch) (hfl : l.stackTraces = false) (D : jD) (z : Nat × Nat) (b : Nat) (x1 : Int32) (μ : jM) (sz : Nat) (Q : Int64 → jM → Prop) : Met l yX10_costOf wsX10_costOf rmX10_costOf (jPre2z D z μ sz [.ref b, .int x1] (wX10_costOf z b x1 μ Q)) (jRz jfJ Q D z (jA z μ sz)) 0 0 (jA z μ sz) := by
  refine Met.ofW (cc := cX10_costOf) (maxL := 2) (ret := (some .long)) (by decide) rfl ?_
  intro p e s m args below meth c s₁ B hml hv
  obtain ⟨rfl, hsz, hH, hz0, hK, hG, hw⟩ := hv
  subst hsz
  have hX : jX2 D z (jA z μ s.heap.size) p l s m _ meth c yX10_costOf cX10_costOf 2 wsX10_costOf (some .long) := ⟨B.exec, B.bytes, hml, findClass_of_methodNamed B.named, atoms_spec (ws := wsX10_costOf) B.pre, B.returns, B.notSynchronized, (name_of_methodNamed B.named B.method).1, hK, hG, hfl⟩
  obtain ⟨ls, hg, hl⟩ : ∃ ls : Array Slot, entryFrame m ([.ref b, .int x1] : List Value).toArray 2 = F0 m 0 ls [] ∧ lv_has ls 2 [(0, va_rf (some b)), (1, .int x1)] := by
    exact ⟨_, lg_entry_eq .., lv_entry _ (n := 2) (Nat.le_of_ble_eq_true rfl)⟩
  rw [hg]
  exact kX10_costOf_0 hX hw (jIz.start hH hz0) (lv_sub hl [0, 1] rfl) (by decide) (by decide)
set_option maxHeartbeats 4000000 in
set_option maxRecDepth 100000 in
theorem kX10_interestOf_0 {b : Nat} (hX : jX2 D z A p l s m args meth c yX10_interestOf cX10_interestOf 2 wsX10_interestOf (some .long)) {Q : Int64 → jM → Prop}  {x1 : Int32} {μ : jM} {H : Heap} {locs : List Loc} {ls : Array Slot} {cells slots : Nat} (hw : wX10_interestOf_0 z b Q x1 μ) (hI : jIz D z A s.heap μ H locs) (hl : lv_has ls 2 [(0, va_rf (some b)), (1, .int x1)]) (hcn : cells + 0 ≤ 0) (hsn : slots + 0 ≤ 0) : W p l e rmX10_interestOf s m args below meth c H locs cells slots (MQ below (jRz jfJ Q D z A) args s 0 0 A) (F0 m 0 ls []) := by
  unfold wX10_interestOf_0 at hw
  obtain ⟨hx, hb, hml, hown, hts, hr, hlocks, hnm, hK, hG, hfl⟩ := id hX
  have hown : s.vm.findClass RX10 = some m.cls := hown
  have hfX10 : ∀ w ∈ wsX100, w.before args s = true := fun w h => hts w (List.mem_cons_of_mem _ (List.mem_append_right _ h))
  refine j_aload_n (r := (some b)) hx hb dX10_interestOf_0 rfl (lv_at hl 0 rfl) ?_
  refine lv_iload_n hx hb dX10_interestOf_1 rfl (lv_at hl 1 rfl) ?_
  obtain ⟨hfs, hw⟩ := hw
  refine j_goz hI (va_runV (As := [.int x1]) (rest := []) ⟨hx, hb, hml, hown, hts⟩ (kX10_isThere l hfl D z b x1 μ H.size _) (cwV 1 hts gX10_interestOf_X10_isThere rfl rfl rfl (by decide +kernel) ⟨Nat.le_of_ble_eq_true rfl, Nat.le_of_ble_eq_true rfl⟩) (j_prV2z hK hG hI hw (ci := 12) rfl hfs) rfl rfl hl.1 rfl (lv_room (Nat.le_of_ble_eq_true rfl)) dX10_interestOf_2 ⟨by show _ ≤ 0; omega, by show _ ≤ 0; omega⟩) (fun v1 μ2 H locs hw hI => ?_)
  refine W.eq (g2 := F0 m 5 ls [.int v1]) rfl ?_
  refine lv_if_eq (tgt := 20) hx hb dX10_interestOf_5 (by decide) (fun hc => ?_) (fun hc => ?_)
  · have hw := hw.1 hc
    refine lv_lconst (v := (0)) hx hb dX10_interestOf_20 (by decide) ?_
    exact j_lretz hx hb hr hlocks hI hw (by omega) (by omega) dX10_interestOf_21
  · have hw := hw.2 hc
    refine j_aload_n (r := (some b)) hx hb dX10_interestOf_8 rfl (lv_at hl 0 rfl) ?_
    obtain ⟨v3, hv3, hw⟩ := hw
    refine j_getz (C := RX10) (T := TX10) (N := 25) (ci := 12) (r := (some b)) (v := va_rf v3) hx hb hfX10 hown hK hI rfl 3 (by decide) (hts (.fieldLink RX10 7 "CashPoolsModel" "z" "[J") (List.mem_of_getElem? (i := 1) (by decide +kernel))) (fun _ h => h) hv3 dX10_interestOf_9 ?_
    refine lv_bipush (v := (50)) hx hb dX10_interestOf_12 (by decide) ?_
    refine lv_iload_n hx hb dX10_interestOf_14 rfl (lv_at hl 1 rfl) ?_
    refine lv_iadd hx hb dX10_interestOf_15 ?_
    obtain ⟨v4, hv4, hw⟩ := hw
    refine j_laldz (r := v3) hx hb hK hI hv4 dX10_interestOf_16 ?_
    refine lv_goto (tgt := 21) hx hb dX10_interestOf_17 (by decide) ?_
    exact j_lretz hx hb hr hlocks hI hw (by omega) (by omega) dX10_interestOf_21
set_option maxHeartbeats 4000000 in
set_option maxRecDepth 100000 in
theorem kX10_interestOf (l : Launch) (hfl : l.stackTraces = false) (D : jD) (z : Nat × Nat) (b : Nat) (x1 : Int32) (μ : jM) (sz : Nat) (Q : Int64 → jM → Prop) : Met l yX10_interestOf wsX10_interestOf rmX10_interestOf (jPre2z D z μ sz [.ref b, .int x1] (wX10_interestOf z b x1 μ Q)) (jRz jfJ Q D z (jA z μ sz)) 0 0 (jA z μ sz) := by
  refine Met.ofW (cc := cX10_interestOf) (maxL := 2) (ret := (some .long)) (by decide) rfl ?_
  intro p e s m args below meth c s₁ B hml hv
  obtain ⟨rfl, hsz, hH, hz0, hK, hG, hw⟩ := hv
  subst hsz
  have hX : jX2 D z (jA z μ s.heap.size) p l s m _ meth c yX10_interestOf cX10_interestOf 2 wsX10_interestOf (some .long) := ⟨B.exec, B.bytes, hml, findClass_of_methodNamed B.named, atoms_spec (ws := wsX10_interestOf) B.pre, B.returns, B.notSynchronized, (name_of_methodNamed B.named B.method).1, hK, hG, hfl⟩
  obtain ⟨ls, hg, hl⟩ : ∃ ls : Array Slot, entryFrame m ([.ref b, .int x1] : List Value).toArray 2 = F0 m 0 ls [] ∧ lv_has ls 2 [(0, va_rf (some b)), (1, .int x1)] := by
    exact ⟨_, lg_entry_eq .., lv_entry _ (n := 2) (Nat.le_of_ble_eq_true rfl)⟩
  rw [hg]
  exact kX10_interestOf_0 hX hw (jIz.start hH hz0) (lv_sub hl [0, 1] rfl) (by decide) (by decide)
set_option maxHeartbeats 4000000 in
set_option maxRecDepth 100000 in
theorem kX10_poolInterest_26 {b : Nat} (hX : jX2 D z A p l s m args meth c yX10_poolInterest cX10_poolInterest 2 wsX10_poolInterest (some .long)) {Q : Int64 → jM → Prop}  {x1 : Int32} {t0 : Option Nat} {t1 : Int32} {μ : jM} {H : Heap} {locs : List Loc} {ls : Array Slot} {cells slots : Nat} (hw : wX10_poolInterest_26 z b Q x1 t0 t1 μ) (hI : jIz D z A s.heap μ H locs) (hl : lv_has ls 2 [(0, va_rf (some b)), (1, .int x1)]) (hcn : cells + 0 ≤ 0) (hsn : slots + 0 ≤ 0) : W p l e rmX10_poolInterest s m args below meth c H locs cells slots (MQ below (jRz jfJ Q D z A) args s 0 0 A) (F0 m 26 ls [.int t1, va_rf t0]) := by
  unfold wX10_poolInterest_26 at hw
  obtain ⟨hx, hb, hml, hown, hts, hr, hlocks, hnm, hK, hG, hfl⟩ := id hX
  have hown : s.vm.findClass RX10 = some m.cls := hown
  have hfX10 : ∀ w ∈ wsX100, w.before args s = true := fun w h => hts w (List.mem_cons_of_mem _ (List.mem_append_right _ h))
  obtain ⟨b3, ⟨hrb3, hfs⟩, hw⟩ := hw
  refine j_goz hI (va_runV (As := [.int t1]) (rest := []) ⟨hx, hb, hml, hown, hts⟩ (kX10_can l hfl D z b3 t1 μ H.size _) (cwV 1 hts gX10_poolInterest_X10_can rfl rfl rfl (by decide +kernel) ⟨Nat.le_of_ble_eq_true rfl, Nat.le_of_ble_eq_true rfl⟩) (j_prV2z hK hG hI hw (ci := 12) rfl hfs) rfl rfl hl.1 (by rw [hrb3]; rfl) (lv_room (Nat.le_of_ble_eq_true rfl)) dX10_poolInterest_26 ⟨by show _ ≤ 0; omega, by show _ ≤ 0; omega⟩) (fun v1 μ2 H locs hw hI => ?_)
  refine W.eq (g2 := F0 m 29 ls [.int v1]) rfl ?_
  refine lv_if_eq (tgt := 44) hx hb dX10_poolInterest_29 (by decide) (fun hc => ?_) (fun hc => ?_)
  · have hw := hw.1 hc
    refine lv_lconst (v := (0)) hx hb dX10_poolInterest_44 (by decide) ?_
    exact j_lretz hx hb hr hlocks hI hw (by omega) (by omega) dX10_poolInterest_45
  · have hw := hw.2 hc
    refine j_aload_n (r := (some b)) hx hb dX10_poolInterest_32 rfl (lv_at hl 0 rfl) ?_
    obtain ⟨v4, hv4, hw⟩ := hw
    refine j_getz (C := RX10) (T := TX10) (N := 25) (ci := 12) (r := (some b)) (v := va_rf v4) hx hb hfX10 hown hK hI rfl 3 (by decide) (hts (.fieldLink RX10 7 "CashPoolsModel" "z" "[J") (List.mem_of_getElem? (i := 1) (by decide +kernel))) (fun _ h => h) hv4 dX10_poolInterest_33 ?_
    refine lv_bipush (v := (60)) hx hb dX10_poolInterest_36 (by decide) ?_
    refine lv_iload_n hx hb dX10_poolInterest_38 rfl (lv_at hl 1 rfl) ?_
    refine lv_iadd hx hb dX10_poolInterest_39 ?_
    obtain ⟨v5, hv5, hw⟩ := hw
    refine j_laldz (r := v4) hx hb hK hI hv5 dX10_poolInterest_40 ?_
    refine lv_goto (tgt := 45) hx hb dX10_poolInterest_41 (by decide) ?_
    exact j_lretz hx hb hr hlocks hI hw (by omega) (by omega) dX10_poolInterest_45
set_option maxHeartbeats 4000000 in
set_option maxRecDepth 100000 in
theorem kX10_poolInterest_0 {b : Nat} (hX : jX2 D z A p l s m args meth c yX10_poolInterest cX10_poolInterest 2 wsX10_poolInterest (some .long)) {Q : Int64 → jM → Prop}  {x1 : Int32} {μ : jM} {H : Heap} {locs : List Loc} {ls : Array Slot} {cells slots : Nat} (hw : wX10_poolInterest_0 z b Q x1 μ) (hI : jIz D z A s.heap μ H locs) (hl : lv_has ls 2 [(0, va_rf (some b)), (1, .int x1)]) (hcn : cells + 0 ≤ 0) (hsn : slots + 0 ≤ 0) : W p l e rmX10_poolInterest s m args below meth c H locs cells slots (MQ below (jRz jfJ Q D z A) args s 0 0 A) (F0 m 0 ls []) := by
  unfold wX10_poolInterest_0 at hw
  obtain ⟨hx, hb, hml, hown, hts, hr, hlocks, hnm, hK, hG, hfl⟩ := id hX
  have hown : s.vm.findClass RX10 = some m.cls := hown
  refine j_aload_n (r := (some b)) hx hb dX10_poolInterest_0 rfl (lv_at hl 0 rfl) ?_
  refine j_aload_n (r := (some b)) hx hb dX10_poolInterest_1 rfl (lv_at hl 0 rfl) ?_
  refine lv_iload_n hx hb dX10_poolInterest_2 rfl (lv_at hl 1 rfl) ?_
  obtain ⟨hfs, hw⟩ := hw
  refine j_goz hI (va_runV (As := [.int x1]) (rest := [va_rf (some b)]) ⟨hx, hb, hml, hown, hts⟩ (kX10_isAccount l hfl D z b x1 μ H.size _) (cwV 1 hts gX10_poolInterest_X10_isAccount rfl rfl rfl (by decide +kernel) ⟨Nat.le_of_ble_eq_true rfl, Nat.le_of_ble_eq_true rfl⟩) (j_prV2z hK hG hI hw (ci := 12) rfl hfs) rfl rfl hl.1 rfl (lv_room (Nat.le_of_ble_eq_true rfl)) dX10_poolInterest_3 ⟨by show _ ≤ 0; omega, by show _ ≤ 0; omega⟩) (fun v1 μ2 H locs hw hI => ?_)
  refine W.eq (g2 := F0 m 6 ls [.int v1, va_rf (some b)]) rfl ?_
  refine lv_if_ne (tgt := 13) hx hb dX10_poolInterest_6 (by decide) (fun hc => ?_) (fun hc => ?_)
  · have hw := hw.1 hc
    refine j_aload_n (r := (some b)) hx hb dX10_poolInterest_13 rfl (lv_at hl 0 rfl) ?_
    refine lv_iload_n hx hb dX10_poolInterest_14 rfl (lv_at hl 1 rfl) ?_
    obtain ⟨hfs, hw⟩ := hw
    refine j_goz hI (va_runV (As := [.int x1]) (rest := [va_rf (some b)]) ⟨hx, hb, hml, hown, hts⟩ (kX10_isTop l hfl D z b x1 μ2 H.size _) (cwV 1 hts gX10_poolInterest_X10_isTop rfl rfl rfl (by decide +kernel) ⟨Nat.le_of_ble_eq_true rfl, Nat.le_of_ble_eq_true rfl⟩) (j_prV2z hK hG hI hw (ci := 12) rfl hfs) rfl rfl hl.1 rfl (lv_room (Nat.le_of_ble_eq_true rfl)) dX10_poolInterest_15 ⟨by show _ ≤ 0; omega, by show _ ≤ 0; omega⟩) (fun v3 μ4 H locs hw hI => ?_)
    refine W.eq (g2 := F0 m 18 ls [.int v3, va_rf (some b)]) rfl ?_
    refine lv_if_eq (tgt := 25) hx hb dX10_poolInterest_18 (by decide) (fun hc => ?_) (fun hc => ?_)
    · have hw := hw.1 hc
      refine lv_iconst (v := (2)) hx hb dX10_poolInterest_25 (by decide) ?_
      exact kX10_poolInterest_26 hX  hw hI (lv_sub hl [0, 1] rfl) (by omega) (by omega)
    · have hw := hw.2 hc
      refine lv_iconst (v := (0)) hx hb dX10_poolInterest_21 (by decide) ?_
      refine lv_goto (tgt := 26) hx hb dX10_poolInterest_22 (by decide) ?_
      exact kX10_poolInterest_26 hX  hw hI (lv_sub hl [0, 1] rfl) (by omega) (by omega)
  · have hw := hw.2 hc
    refine lv_iconst (v := (1)) hx hb dX10_poolInterest_9 (by decide) ?_
    refine lv_goto (tgt := 26) hx hb dX10_poolInterest_10 (by decide) ?_
    exact kX10_poolInterest_26 hX  hw hI (lv_sub hl [0, 1] rfl) (by omega) (by omega)
set_option maxHeartbeats 4000000 in
set_option maxRecDepth 100000 in
theorem kX10_poolInterest (l : Launch) (hfl : l.stackTraces = false) (D : jD) (z : Nat × Nat) (b : Nat) (x1 : Int32) (μ : jM) (sz : Nat) (Q : Int64 → jM → Prop) : Met l yX10_poolInterest wsX10_poolInterest rmX10_poolInterest (jPre2z D z μ sz [.ref b, .int x1] (wX10_poolInterest z b x1 μ Q)) (jRz jfJ Q D z (jA z μ sz)) 0 0 (jA z μ sz) := by
  refine Met.ofW (cc := cX10_poolInterest) (maxL := 2) (ret := (some .long)) (by decide) rfl ?_
  intro p e s m args below meth c s₁ B hml hv
  obtain ⟨rfl, hsz, hH, hz0, hK, hG, hw⟩ := hv
  subst hsz
  have hX : jX2 D z (jA z μ s.heap.size) p l s m _ meth c yX10_poolInterest cX10_poolInterest 2 wsX10_poolInterest (some .long) := ⟨B.exec, B.bytes, hml, findClass_of_methodNamed B.named, atoms_spec (ws := wsX10_poolInterest) B.pre, B.returns, B.notSynchronized, (name_of_methodNamed B.named B.method).1, hK, hG, hfl⟩
  obtain ⟨ls, hg, hl⟩ : ∃ ls : Array Slot, entryFrame m ([.ref b, .int x1] : List Value).toArray 2 = F0 m 0 ls [] ∧ lv_has ls 2 [(0, va_rf (some b)), (1, .int x1)] := by
    exact ⟨_, lg_entry_eq .., lv_entry _ (n := 2) (Nat.le_of_ble_eq_true rfl)⟩
  rw [hg]
  exact kX10_poolInterest_0 hX hw (jIz.start hH hz0) (lv_sub hl [0, 1] rfl) (by decide) (by decide)
set_option maxHeartbeats 4000000 in
set_option maxRecDepth 100000 in
theorem kX10_swept_0 {b : Nat} (hX : jX2 D z A p l s m args meth c yX10_swept cX10_swept 4 wsX10_swept (some .long)) {Q : Int64 → jM → Prop}  {x1 : Int32} {μ : jM} {H : Heap} {locs : List Loc} {ls : Array Slot} {cells slots : Nat} (hw : wX10_swept_0 z b Q x1 μ) (hI : jIz D z A s.heap μ H locs) (hl : lv_has ls 4 [(0, va_rf (some b)), (1, .int x1)]) (hcn : cells + 0 ≤ 0) (hsn : slots + 0 ≤ 0) : W p l e rmX10_swept s m args below meth c H locs cells slots (MQ below (jRz jfJ Q D z A) args s 0 0 A) (F0 m 0 ls []) := by
  unfold wX10_swept_0 at hw
  obtain ⟨hx, hb, hml, hown, hts, hr, hlocks, hnm, hK, hG, hfl⟩ := id hX
  have hown : s.vm.findClass RX10 = some m.cls := hown
  have hfX10 : ∀ w ∈ wsX100, w.before args s = true := fun w h => hts w (List.mem_cons_of_mem _ (List.mem_append_right _ h))
  refine j_aload_n (r := (some b)) hx hb dX10_swept_0 rfl (lv_at hl 0 rfl) ?_
  obtain ⟨hfs, hw⟩ := hw
  refine j_goz hI (va_runV (As := []) (rest := []) ⟨hx, hb, hml, hown, hts⟩ (kX10_keep l hfl D z b  μ H.size _) (cwV 0 hts gX10_swept_X10_keep rfl rfl rfl (by decide +kernel) ⟨Nat.le_of_ble_eq_true rfl, Nat.le_of_ble_eq_true rfl⟩) (j_prV2z hK hG hI hw (ci := 12) rfl hfs) rfl rfl hl.1 rfl (lv_room (Nat.le_of_ble_eq_true rfl)) dX10_swept_1 ⟨by show _ ≤ 0; omega, by show _ ≤ 0; omega⟩) (fun u1 μ2 H locs hw hI => ?_)
  refine W.eq (g2 := F0 m 4 ls []) rfl ?_
  refine j_aload_n (r := (some b)) hx hb dX10_swept_4 rfl (lv_at hl 0 rfl) ?_
  obtain ⟨hfs, hw⟩ := hw
  refine j_goz hI (va_runV (As := []) (rest := []) ⟨hx, hb, hml, hown, hts⟩ (kX10_sweep l hfl D z b  μ2 H.size _) (cwV 0 hts gX10_swept_X10_sweep rfl rfl rfl (by decide +kernel) ⟨Nat.le_of_ble_eq_true rfl, Nat.le_of_ble_eq_true rfl⟩) (j_prV2z hK hG hI hw (ci := 12) rfl hfs) rfl rfl hl.1 rfl (lv_room (Nat.le_of_ble_eq_true rfl)) dX10_swept_5 ⟨by show _ ≤ 0; omega, by show _ ≤ 0; omega⟩) (fun u3 μ4 H locs hw hI => ?_)
  refine W.eq (g2 := F0 m 8 ls []) rfl ?_
  refine j_aload_n (r := (some b)) hx hb dX10_swept_8 rfl (lv_at hl 0 rfl) ?_
  obtain ⟨v5, hv5, hw⟩ := hw
  refine j_getz (C := RX10) (T := TX10) (N := 25) (ci := 12) (r := (some b)) (v := va_rf v5) hx hb hfX10 hown hK hI rfl 3 (by decide) (hts (.fieldLink RX10 7 "CashPoolsModel" "z" "[J") (List.mem_of_getElem? (i := 1) (by decide +kernel))) (fun _ h => h) hv5 dX10_swept_9 ?_
  refine lv_iconst (v := (0)) hx hb dX10_swept_12 (by decide) ?_
  refine lv_iload_n hx hb dX10_swept_13 rfl (lv_at hl 1 rfl) ?_
  refine lv_iadd hx hb dX10_swept_14 ?_
  obtain ⟨v6, hv6, hw⟩ := hw
  refine j_laldz (r := v5) hx hb hK hI hv6 dX10_swept_15 ?_
  refine lv_lstore_n (lv' := [(2, .long v6), (0, va_rf (some b)), (1, .int x1)]) hx hb dX10_swept_16 rfl hl (by decide) rfl (fun ls hl => ?_)
  refine j_aload_n (r := (some b)) hx hb dX10_swept_17 rfl (lv_at hl 1 rfl) ?_
  obtain ⟨hfs, hw⟩ := hw
  refine j_goz hI (va_runV (As := []) (rest := []) ⟨hx, hb, hml, hown, hts⟩ (kX10_goBack l hfl D z b  μ4 H.size _) (cwV 0 hts gX10_swept_X10_goBack rfl rfl rfl (by decide +kernel) ⟨Nat.le_of_ble_eq_true rfl, Nat.le_of_ble_eq_true rfl⟩) (j_prV2z hK hG hI hw (ci := 12) rfl hfs) rfl rfl hl.1 rfl (lv_room (Nat.le_of_ble_eq_true rfl)) dX10_swept_18 ⟨by show _ ≤ 0; omega, by show _ ≤ 0; omega⟩) (fun u7 μ8 H locs hw hI => ?_)
  refine W.eq (g2 := F0 m 21 ls []) rfl ?_
  refine lv_lload_n hx hb dX10_swept_21 rfl (lv_at hl 0 rfl) ?_
  exact j_lretz hx hb hr hlocks hI hw (by omega) (by omega) dX10_swept_22
set_option maxHeartbeats 4000000 in
set_option maxRecDepth 100000 in
theorem kX10_swept (l : Launch) (hfl : l.stackTraces = false) (D : jD) (z : Nat × Nat) (b : Nat) (x1 : Int32) (μ : jM) (sz : Nat) (Q : Int64 → jM → Prop) : Met l yX10_swept wsX10_swept rmX10_swept (jPre2z D z μ sz [.ref b, .int x1] (wX10_swept z b x1 μ Q)) (jRz jfJ Q D z (jA z μ sz)) 0 0 (jA z μ sz) := by
  refine Met.ofW (cc := cX10_swept) (maxL := 4) (ret := (some .long)) (by decide) rfl ?_
  intro p e s m args below meth c s₁ B hml hv
  obtain ⟨rfl, hsz, hH, hz0, hK, hG, hw⟩ := hv
  subst hsz
  have hX : jX2 D z (jA z μ s.heap.size) p l s m _ meth c yX10_swept cX10_swept 4 wsX10_swept (some .long) := ⟨B.exec, B.bytes, hml, findClass_of_methodNamed B.named, atoms_spec (ws := wsX10_swept) B.pre, B.returns, B.notSynchronized, (name_of_methodNamed B.named B.method).1, hK, hG, hfl⟩
  obtain ⟨ls, hg, hl⟩ : ∃ ls : Array Slot, entryFrame m ([.ref b, .int x1] : List Value).toArray 4 = F0 m 0 ls [] ∧ lv_has ls 4 [(0, va_rf (some b)), (1, .int x1)] := by
    exact ⟨_, lg_entry_eq .., lv_entry _ (n := 4) (Nat.le_of_ble_eq_true rfl)⟩
  rw [hg]
  exact kX10_swept_0 hX hw (jIz.start hH hz0) (lv_sub hl [0, 1] rfl) (by decide) (by decide)
set_option maxHeartbeats 4000000 in
set_option maxRecDepth 100000 in
theorem kX10_afterSweep_0 {b : Nat} (hX : jX2 D z A p l s m args meth c yX10_afterSweep cX10_afterSweep 2 wsX10_afterSweep (some .long)) {Q : Int64 → jM → Prop}  {x1 : Int32} {μ : jM} {H : Heap} {locs : List Loc} {ls : Array Slot} {cells slots : Nat} (hw : wX10_afterSweep_0 z b Q x1 μ) (hI : jIz D z A s.heap μ H locs) (hl : lv_has ls 2 [(0, va_rf (some b)), (1, .int x1)]) (hcn : cells + 0 ≤ 0) (hsn : slots + 0 ≤ 0) : W p l e rmX10_afterSweep s m args below meth c H locs cells slots (MQ below (jRz jfJ Q D z A) args s 0 0 A) (F0 m 0 ls []) := by
  unfold wX10_afterSweep_0 at hw
  obtain ⟨hx, hb, hml, hown, hts, hr, hlocks, hnm, hK, hG, hfl⟩ := id hX
  have hown : s.vm.findClass RX10 = some m.cls := hown
  refine j_aload_n (r := (some b)) hx hb dX10_afterSweep_0 rfl (lv_at hl 0 rfl) ?_
  refine lv_iload_n hx hb dX10_afterSweep_1 rfl (lv_at hl 1 rfl) ?_
  obtain ⟨hfs, hw⟩ := hw
  refine j_goz hI (va_runV (As := [.int x1]) (rest := []) ⟨hx, hb, hml, hown, hts⟩ (kX10_isThere l hfl D z b x1 μ H.size _) (cwV 1 hts gX10_afterSweep_X10_isThere rfl rfl rfl (by decide +kernel) ⟨Nat.le_of_ble_eq_true rfl, Nat.le_of_ble_eq_true rfl⟩) (j_prV2z hK hG hI hw (ci := 12) rfl hfs) rfl rfl hl.1 rfl (lv_room (Nat.le_of_ble_eq_true rfl)) dX10_afterSweep_2 ⟨by show _ ≤ 0; omega, by show _ ≤ 0; omega⟩) (fun v1 μ2 H locs hw hI => ?_)
  refine W.eq (g2 := F0 m 5 ls [.int v1]) rfl ?_
  refine lv_if_eq (tgt := 16) hx hb dX10_afterSweep_5 (by decide) (fun hc => ?_) (fun hc => ?_)
  · have hw := hw.1 hc
    refine lv_lconst (v := (0)) hx hb dX10_afterSweep_16 (by decide) ?_
    exact j_lretz hx hb hr hlocks hI hw (by omega) (by omega) dX10_afterSweep_17
  · have hw := hw.2 hc
    refine j_aload_n (r := (some b)) hx hb dX10_afterSweep_8 rfl (lv_at hl 0 rfl) ?_
    refine lv_iload_n hx hb dX10_afterSweep_9 rfl (lv_at hl 1 rfl) ?_
    obtain ⟨hfs, hw⟩ := hw
    refine j_goz hI (va_runV (As := [.int x1]) (rest := []) ⟨hx, hb, hml, hown, hts⟩ (kX10_swept l hfl D z b x1 μ2 H.size _) (cwV 1 hts gX10_afterSweep_X10_swept rfl rfl rfl (by decide +kernel) ⟨Nat.le_of_ble_eq_true rfl, Nat.le_of_ble_eq_true rfl⟩) (j_prV2z hK hG hI hw (ci := 12) rfl hfs) rfl rfl hl.1 rfl (lv_room (Nat.le_of_ble_eq_true rfl)) dX10_afterSweep_10 ⟨by show _ ≤ 0; omega, by show _ ≤ 0; omega⟩) (fun v3 μ4 H locs hw hI => ?_)
    refine W.eq (g2 := F0 m 13 ls [.long v3]) rfl ?_
    refine lv_goto (tgt := 17) hx hb dX10_afterSweep_13 (by decide) ?_
    exact j_lretz hx hb hr hlocks hI hw (by omega) (by omega) dX10_afterSweep_17
set_option maxHeartbeats 4000000 in
set_option maxRecDepth 100000 in
theorem kX10_afterSweep (l : Launch) (hfl : l.stackTraces = false) (D : jD) (z : Nat × Nat) (b : Nat) (x1 : Int32) (μ : jM) (sz : Nat) (Q : Int64 → jM → Prop) : Met l yX10_afterSweep wsX10_afterSweep rmX10_afterSweep (jPre2z D z μ sz [.ref b, .int x1] (wX10_afterSweep z b x1 μ Q)) (jRz jfJ Q D z (jA z μ sz)) 0 0 (jA z μ sz) := by
  refine Met.ofW (cc := cX10_afterSweep) (maxL := 2) (ret := (some .long)) (by decide) rfl ?_
  intro p e s m args below meth c s₁ B hml hv
  obtain ⟨rfl, hsz, hH, hz0, hK, hG, hw⟩ := hv
  subst hsz
  have hX : jX2 D z (jA z μ s.heap.size) p l s m _ meth c yX10_afterSweep cX10_afterSweep 2 wsX10_afterSweep (some .long) := ⟨B.exec, B.bytes, hml, findClass_of_methodNamed B.named, atoms_spec (ws := wsX10_afterSweep) B.pre, B.returns, B.notSynchronized, (name_of_methodNamed B.named B.method).1, hK, hG, hfl⟩
  obtain ⟨ls, hg, hl⟩ : ∃ ls : Array Slot, entryFrame m ([.ref b, .int x1] : List Value).toArray 2 = F0 m 0 ls [] ∧ lv_has ls 2 [(0, va_rf (some b)), (1, .int x1)] := by
    exact ⟨_, lg_entry_eq .., lv_entry _ (n := 2) (Nat.le_of_ble_eq_true rfl)⟩
  rw [hg]
  exact kX10_afterSweep_0 hX hw (jIz.start hH hz0) (lv_sub hl [0, 1] rfl) (by decide) (by decide)
set_option maxHeartbeats 4000000 in
set_option maxRecDepth 100000 in
theorem kX10_afterSweepByMoves_0 {b : Nat} (hX : jX2 D z A p l s m args meth c yX10_afterSweepByMoves cX10_afterSweepByMoves 2 wsX10_afterSweepByMoves (some .long)) {Q : Int64 → jM → Prop}  {x1 : Int32} {μ : jM} {H : Heap} {locs : List Loc} {ls : Array Slot} {cells slots : Nat} (hw : wX10_afterSweepByMoves_0 z b Q x1 μ) (hI : jIz D z A s.heap μ H locs) (hl : lv_has ls 2 [(0, va_rf (some b)), (1, .int x1)]) (hcn : cells + 0 ≤ 0) (hsn : slots + 0 ≤ 0) : W p l e rmX10_afterSweepByMoves s m args below meth c H locs cells slots (MQ below (jRz jfJ Q D z A) args s 0 0 A) (F0 m 0 ls []) := by
  unfold wX10_afterSweepByMoves_0 at hw
  obtain ⟨hx, hb, hml, hown, hts, hr, hlocks, hnm, hK, hG, hfl⟩ := id hX
  have hown : s.vm.findClass RX10 = some m.cls := hown
  refine j_aload_n (r := (some b)) hx hb dX10_afterSweepByMoves_0 rfl (lv_at hl 0 rfl) ?_
  refine lv_iload_n hx hb dX10_afterSweepByMoves_1 rfl (lv_at hl 1 rfl) ?_
  obtain ⟨hfs, hw⟩ := hw
  refine j_goz hI (va_runV (As := [.int x1]) (rest := []) ⟨hx, hb, hml, hown, hts⟩ (kX10_isThere l hfl D z b x1 μ H.size _) (cwV 1 hts gX10_afterSweepByMoves_X10_isThere rfl rfl rfl (by decide +kernel) ⟨Nat.le_of_ble_eq_true rfl, Nat.le_of_ble_eq_true rfl⟩) (j_prV2z hK hG hI hw (ci := 12) rfl hfs) rfl rfl hl.1 rfl (lv_room (Nat.le_of_ble_eq_true rfl)) dX10_afterSweepByMoves_2 ⟨by show _ ≤ 0; omega, by show _ ≤ 0; omega⟩) (fun v1 μ2 H locs hw hI => ?_)
  refine W.eq (g2 := F0 m 5 ls [.int v1]) rfl ?_
  refine lv_if_eq (tgt := 16) hx hb dX10_afterSweepByMoves_5 (by decide) (fun hc => ?_) (fun hc => ?_)
  · have hw := hw.1 hc
    refine lv_lconst (v := (0)) hx hb dX10_afterSweepByMoves_16 (by decide) ?_
    exact j_lretz hx hb hr hlocks hI hw (by omega) (by omega) dX10_afterSweepByMoves_17
  · have hw := hw.2 hc
    refine j_aload_n (r := (some b)) hx hb dX10_afterSweepByMoves_8 rfl (lv_at hl 0 rfl) ?_
    refine lv_iload_n hx hb dX10_afterSweepByMoves_9 rfl (lv_at hl 1 rfl) ?_
    obtain ⟨hfs, hw⟩ := hw
    refine j_goz hI (va_runV (As := [.int x1]) (rest := []) ⟨hx, hb, hml, hown, hts⟩ (kX10_swept l hfl D z b x1 μ2 H.size _) (cwV 1 hts gX10_afterSweepByMoves_X10_swept rfl rfl rfl (by decide +kernel) ⟨Nat.le_of_ble_eq_true rfl, Nat.le_of_ble_eq_true rfl⟩) (j_prV2z hK hG hI hw (ci := 12) rfl hfs) rfl rfl hl.1 rfl (lv_room (Nat.le_of_ble_eq_true rfl)) dX10_afterSweepByMoves_10 ⟨by show _ ≤ 0; omega, by show _ ≤ 0; omega⟩) (fun v3 μ4 H locs hw hI => ?_)
    refine W.eq (g2 := F0 m 13 ls [.long v3]) rfl ?_
    refine lv_goto (tgt := 17) hx hb dX10_afterSweepByMoves_13 (by decide) ?_
    exact j_lretz hx hb hr hlocks hI hw (by omega) (by omega) dX10_afterSweepByMoves_17
set_option maxHeartbeats 4000000 in
set_option maxRecDepth 100000 in
theorem kX10_afterSweepByMoves (l : Launch) (hfl : l.stackTraces = false) (D : jD) (z : Nat × Nat) (b : Nat) (x1 : Int32) (μ : jM) (sz : Nat) (Q : Int64 → jM → Prop) : Met l yX10_afterSweepByMoves wsX10_afterSweepByMoves rmX10_afterSweepByMoves (jPre2z D z μ sz [.ref b, .int x1] (wX10_afterSweepByMoves z b x1 μ Q)) (jRz jfJ Q D z (jA z μ sz)) 0 0 (jA z μ sz) := by
  refine Met.ofW (cc := cX10_afterSweepByMoves) (maxL := 2) (ret := (some .long)) (by decide) rfl ?_
  intro p e s m args below meth c s₁ B hml hv
  obtain ⟨rfl, hsz, hH, hz0, hK, hG, hw⟩ := hv
  subst hsz
  have hX : jX2 D z (jA z μ s.heap.size) p l s m _ meth c yX10_afterSweepByMoves cX10_afterSweepByMoves 2 wsX10_afterSweepByMoves (some .long) := ⟨B.exec, B.bytes, hml, findClass_of_methodNamed B.named, atoms_spec (ws := wsX10_afterSweepByMoves) B.pre, B.returns, B.notSynchronized, (name_of_methodNamed B.named B.method).1, hK, hG, hfl⟩
  obtain ⟨ls, hg, hl⟩ : ∃ ls : Array Slot, entryFrame m ([.ref b, .int x1] : List Value).toArray 2 = F0 m 0 ls [] ∧ lv_has ls 2 [(0, va_rf (some b)), (1, .int x1)] := by
    exact ⟨_, lg_entry_eq .., lv_entry _ (n := 2) (Nat.le_of_ble_eq_true rfl)⟩
  rw [hg]
  exact kX10_afterSweepByMoves_0 hX hw (jIz.start hH hz0) (lv_sub hl [0, 1] rfl) (by decide) (by decide)
set_option maxHeartbeats 4000000 in
set_option maxRecDepth 100000 in
theorem kX10_forecast_42 {b : Nat} (hX : jX2 D z A p l s m args meth c yX10_forecast cX10_forecast 5 wsX10_forecast (some .long)) {Q : Int64 → jM → Prop}  (n : Nat) : ∀ {x1 : Int32} {x2 : Int32} {x3 : Int32} {μ : jM} {H : Heap} {locs : List Loc} {ls : Array Slot} {cells slots : Nat}, wX10_forecast_42 z b Q n x1 x2 x3 μ → jIz D z A s.heap μ H locs → lv_has ls 5 [(0, va_rf (some b)), (1, .int x1), (2, .int x2), (3, .int x3)] → cells + 0 ≤ 0 → slots + 0 ≤ 0 → W p l e rmX10_forecast s m args below meth c H locs cells slots (MQ below (jRz jfJ Q D z A) args s 0 0 A) (F0 m 42 ls []) := by
  induction n with
  | zero =>
    intros
    rename_i hw _ _ _ _
    exact (show False from hw).elim
  | succ n ih =>
    intro x1 x2 x3 μ H locs ls cells slots hw hI hl hcn hsn
    have hw : wX10_forecast_42_b z b Q (wX10_forecast_42 z b Q n) x1 x2 x3 μ := hw
    unfold wX10_forecast_42_b at hw
    obtain ⟨hx, hb, hml, hown, hts, hr, hlocks, hnm, hK, hG, hfl⟩ := id hX
    have hown : s.vm.findClass RX10 = some m.cls := hown
    have hfX10 : ∀ w ∈ wsX100, w.before args s = true := fun w h => hts w (List.mem_cons_of_mem _ (List.mem_append_right _ h))
    refine lv_iload_n hx hb dX10_forecast_42 rfl (lv_at hl 3 rfl) ?_
    refine lv_iload_n hx hb dX10_forecast_43 rfl (lv_at hl 2 rfl) ?_
    refine lv_icmp_ge (tgt := 57) hx hb dX10_forecast_44 (by decide) (fun hc => ?_) (fun hc => ?_)
    · have hw := hw.1 hc
      refine j_aload_n (r := (some b)) hx hb dX10_forecast_57 rfl (lv_at hl 0 rfl) ?_
      obtain ⟨v1, hv1, hw⟩ := hw
      refine j_getz (C := RX10) (T := TX10) (N := 25) (ci := 12) (r := (some b)) (v := va_rf v1) hx hb hfX10 hown hK hI rfl 3 (by decide) (hts (.fieldLink RX10 7 "CashPoolsModel" "z" "[J") (List.mem_of_getElem? (i := 1) (by decide +kernel))) (fun _ h => h) hv1 dX10_forecast_58 ?_
      refine lv_iconst (v := (0)) hx hb dX10_forecast_61 (by decide) ?_
      refine lv_iload_n hx hb dX10_forecast_62 rfl (lv_at hl 1 rfl) ?_
      refine lv_iadd hx hb dX10_forecast_63 ?_
      obtain ⟨v2, hv2, hw⟩ := hw
      refine j_laldz (r := v1) hx hb hK hI hv2 dX10_forecast_64 ?_
      refine lv_lstore_n (lv' := [(3, .long v2), (0, va_rf (some b)), (1, .int x1), (2, .int x2)]) hx hb dX10_forecast_65 rfl hl (by decide) rfl (fun ls hl => ?_)
      refine j_aload_n (r := (some b)) hx hb dX10_forecast_66 rfl (lv_at hl 1 rfl) ?_
      obtain ⟨hfs, hw⟩ := hw
      refine j_goz hI (va_runV (As := []) (rest := []) ⟨hx, hb, hml, hown, hts⟩ (kX10_goBack l hfl D z b  μ H.size _) (cwV 0 hts gX10_forecast_X10_goBack rfl rfl rfl (by decide +kernel) ⟨Nat.le_of_ble_eq_true rfl, Nat.le_of_ble_eq_true rfl⟩) (j_prV2z hK hG hI hw (ci := 12) rfl hfs) rfl rfl hl.1 rfl (lv_room (Nat.le_of_ble_eq_true rfl)) dX10_forecast_67 ⟨by show _ ≤ 0; omega, by show _ ≤ 0; omega⟩) (fun u3 μ4 H locs hw hI => ?_)
      refine W.eq (g2 := F0 m 70 ls []) rfl ?_
      refine lv_lload_n hx hb dX10_forecast_70 rfl (lv_at hl 0 rfl) ?_
      exact j_lretz hx hb hr hlocks hI hw (by omega) (by omega) dX10_forecast_71
    · have hw := hw.2 hc
      refine j_aload_n (r := (some b)) hx hb dX10_forecast_47 rfl (lv_at hl 0 rfl) ?_
      obtain ⟨hfs, hw⟩ := hw
      refine j_goz hI (va_runV (As := []) (rest := []) ⟨hx, hb, hml, hown, hts⟩ (kX10_passDay l hfl D z b  μ H.size _) (cwV 0 hts gX10_forecast_X10_passDay rfl rfl rfl (by decide +kernel) ⟨Nat.le_of_ble_eq_true rfl, Nat.le_of_ble_eq_true rfl⟩) (j_prV2z hK hG hI hw (ci := 12) rfl hfs) rfl rfl hl.1 rfl (lv_room (Nat.le_of_ble_eq_true rfl)) dX10_forecast_48 ⟨by show _ ≤ 0; omega, by show _ ≤ 0; omega⟩) (fun u5 μ6 H locs hw hI => ?_)
      refine W.eq (g2 := F0 m 51 ls []) rfl ?_
      obtain ⟨v7, ev7⟩ : ∃ y : Int32, y = x3 + (1 : Int32) := ⟨_, rfl⟩
      have hw := hw v7 ev7
      refine lv_iinc (v := v7) (lv' := [(3, .int v7), (0, va_rf (some b)), (1, .int x1), (2, .int x2)]) hx hb dX10_forecast_51 hl (k := 3) rfl (by rw [ev7]; rfl) (by decide) rfl (fun ls hl => ?_)
      refine lv_goto (tgt := 42) hx hb dX10_forecast_54 (by decide) ?_
      exact ih hw hI (lv_sub hl [1, 2, 3, 0] rfl) (by omega) (by omega)
set_option maxHeartbeats 4000000 in
set_option maxRecDepth 100000 in
theorem kX10_forecast_28 {b : Nat} (hX : jX2 D z A p l s m args meth c yX10_forecast cX10_forecast 5 wsX10_forecast (some .long)) {Q : Int64 → jM → Prop}  {x1 : Int32} {x2 : Int32} {t0 : Option Nat} {t1 : Int32} {μ : jM} {H : Heap} {locs : List Loc} {ls : Array Slot} {cells slots : Nat} (hw : wX10_forecast_28 z b Q x1 x2 t0 t1 μ) (hI : jIz D z A s.heap μ H locs) (hl : lv_has ls 5 [(0, va_rf (some b)), (1, .int x1), (2, .int x2)]) (hcn : cells + 0 ≤ 0) (hsn : slots + 0 ≤ 0) : W p l e rmX10_forecast s m args below meth c H locs cells slots (MQ below (jRz jfJ Q D z A) args s 0 0 A) (F0 m 28 ls [.int t1, va_rf t0]) := by
  unfold wX10_forecast_28 at hw
  obtain ⟨hx, hb, hml, hown, hts, hr, hlocks, hnm, hK, hG, hfl⟩ := id hX
  have hown : s.vm.findClass RX10 = some m.cls := hown
  obtain ⟨b3, ⟨hrb3, hfs⟩, hw⟩ := hw
  refine j_goz hI (va_runV (As := [.int t1]) (rest := []) ⟨hx, hb, hml, hown, hts⟩ (kX10_can l hfl D z b3 t1 μ H.size _) (cwV 1 hts gX10_forecast_X10_can rfl rfl rfl (by decide +kernel) ⟨Nat.le_of_ble_eq_true rfl, Nat.le_of_ble_eq_true rfl⟩) (j_prV2z hK hG hI hw (ci := 12) rfl hfs) rfl rfl hl.1 (by rw [hrb3]; rfl) (lv_room (Nat.le_of_ble_eq_true rfl)) dX10_forecast_28 ⟨by show _ ≤ 0; omega, by show _ ≤ 0; omega⟩) (fun v1 μ2 H locs hw hI => ?_)
  refine W.eq (g2 := F0 m 31 ls [.int v1]) rfl ?_
  refine lv_if_ne (tgt := 36) hx hb dX10_forecast_31 (by decide) (fun hc => ?_) (fun hc => ?_)
  · have hw := hw.1 hc
    refine j_aload_n (r := (some b)) hx hb dX10_forecast_36 rfl (lv_at hl 0 rfl) ?_
    obtain ⟨hfs, hw⟩ := hw
    refine j_goz hI (va_runV (As := []) (rest := []) ⟨hx, hb, hml, hown, hts⟩ (kX10_keep l hfl D z b  μ2 H.size _) (cwV 0 hts gX10_forecast_X10_keep rfl rfl rfl (by decide +kernel) ⟨Nat.le_of_ble_eq_true rfl, Nat.le_of_ble_eq_true rfl⟩) (j_prV2z hK hG hI hw (ci := 12) rfl hfs) rfl rfl hl.1 rfl (lv_room (Nat.le_of_ble_eq_true rfl)) dX10_forecast_37 ⟨by show _ ≤ 0; omega, by show _ ≤ 0; omega⟩) (fun u4 μ5 H locs hw hI => ?_)
    refine W.eq (g2 := F0 m 40 ls []) rfl ?_
    refine lv_iconst (v := (0)) hx hb dX10_forecast_40 (by decide) ?_
    refine lv_topi (fun v6 ev6 => ?_)
    have hw := hw v6 ev6
    refine lv_istore_n (lv' := [(3, .int v6), (0, va_rf (some b)), (1, .int x1), (2, .int x2)]) hx hb dX10_forecast_41 rfl hl (by decide) rfl (fun ls hl => ?_)
    obtain ⟨n7, hw⟩ := hw
    exact kX10_forecast_42 hX  n7 hw hI (lv_sub hl [1, 2, 3, 0] rfl) (by omega) (by omega)
  · have hw := hw.2 hc
    refine lv_lconst (v := (0)) hx hb dX10_forecast_34 (by decide) ?_
    exact j_lretz hx hb hr hlocks hI hw (by omega) (by omega) dX10_forecast_35
set_option maxHeartbeats 4000000 in
set_option maxRecDepth 100000 in
theorem kX10_forecast_0 {b : Nat} (hX : jX2 D z A p l s m args meth c yX10_forecast cX10_forecast 5 wsX10_forecast (some .long)) {Q : Int64 → jM → Prop}  {x1 : Int32} {x2 : Int32} {μ : jM} {H : Heap} {locs : List Loc} {ls : Array Slot} {cells slots : Nat} (hw : wX10_forecast_0 z b Q x1 x2 μ) (hI : jIz D z A s.heap μ H locs) (hl : lv_has ls 5 [(0, va_rf (some b)), (1, .int x1), (2, .int x2)]) (hcn : cells + 0 ≤ 0) (hsn : slots + 0 ≤ 0) : W p l e rmX10_forecast s m args below meth c H locs cells slots (MQ below (jRz jfJ Q D z A) args s 0 0 A) (F0 m 0 ls []) := by
  unfold wX10_forecast_0 at hw
  obtain ⟨hx, hb, hml, hown, hts, hr, hlocks, hnm, hK, hG, hfl⟩ := id hX
  have hown : s.vm.findClass RX10 = some m.cls := hown
  refine j_aload_n (r := (some b)) hx hb dX10_forecast_0 rfl (lv_at hl 0 rfl) ?_
  refine j_aload_n (r := (some b)) hx hb dX10_forecast_1 rfl (lv_at hl 0 rfl) ?_
  refine lv_iload_n hx hb dX10_forecast_2 rfl (lv_at hl 1 rfl) ?_
  obtain ⟨hfs, hw⟩ := hw
  refine j_goz hI (va_runV (As := [.int x1]) (rest := [va_rf (some b)]) ⟨hx, hb, hml, hown, hts⟩ (kX10_isAccount l hfl D z b x1 μ H.size _) (cwV 1 hts gX10_forecast_X10_isAccount rfl rfl rfl (by decide +kernel) ⟨Nat.le_of_ble_eq_true rfl, Nat.le_of_ble_eq_true rfl⟩) (j_prV2z hK hG hI hw (ci := 12) rfl hfs) rfl rfl hl.1 rfl (lv_room (Nat.le_of_ble_eq_true rfl)) dX10_forecast_3 ⟨by show _ ≤ 0; omega, by show _ ≤ 0; omega⟩) (fun v1 μ2 H locs hw hI => ?_)
  refine W.eq (g2 := F0 m 6 ls [.int v1, va_rf (some b)]) rfl ?_
  refine lv_if_ne (tgt := 13) hx hb dX10_forecast_6 (by decide) (fun hc => ?_) (fun hc => ?_)
  · have hw := hw.1 hc
    refine lv_iload_n hx hb dX10_forecast_13 rfl (lv_at hl 2 rfl) ?_
    refine lv_iconst (v := (1)) hx hb dX10_forecast_14 (by decide) ?_
    refine lv_bipush (v := (60)) hx hb dX10_forecast_15 (by decide) ?_
    refine j_goz hI (va_runS (As := [.int x2, .int (1 : Int32), .int (60 : Int32)]) (rest := [va_rf (some b)]) ⟨hx, hb, hml, hown, hts⟩ (kX10_isIn l hfl D z x2 (1 : Int32) (60 : Int32) μ2 H.size _) (va_cwS 3 hts gX10_forecast_X10_isIn rfl rfl rfl (by decide +kernel) ⟨Nat.le_of_ble_eq_true rfl, Nat.le_of_ble_eq_true rfl⟩) (j_prS2z hK hG hI hw) rfl rfl hl.1 rfl (lv_room (Nat.le_of_ble_eq_true rfl)) dX10_forecast_17 ⟨by show _ ≤ 0; omega, by show _ ≤ 0; omega⟩) (fun v3 μ4 H locs hw hI => ?_)
    refine W.eq (g2 := F0 m 20 ls [.int v3, va_rf (some b)]) rfl ?_
    refine lv_if_eq (tgt := 27) hx hb dX10_forecast_20 (by decide) (fun hc => ?_) (fun hc => ?_)
    · have hw := hw.1 hc
      refine lv_iconst (v := (2)) hx hb dX10_forecast_27 (by decide) ?_
      exact kX10_forecast_28 hX  hw hI (lv_sub hl [0, 1, 2] rfl) (by omega) (by omega)
    · have hw := hw.2 hc
      refine lv_iconst (v := (0)) hx hb dX10_forecast_23 (by decide) ?_
      refine lv_goto (tgt := 28) hx hb dX10_forecast_24 (by decide) ?_
      exact kX10_forecast_28 hX  hw hI (lv_sub hl [0, 1, 2] rfl) (by omega) (by omega)
  · have hw := hw.2 hc
    refine lv_iconst (v := (1)) hx hb dX10_forecast_9 (by decide) ?_
    refine lv_goto (tgt := 28) hx hb dX10_forecast_10 (by decide) ?_
    exact kX10_forecast_28 hX  hw hI (lv_sub hl [0, 1, 2] rfl) (by omega) (by omega)
set_option maxHeartbeats 4000000 in
set_option maxRecDepth 100000 in
theorem kX10_forecast (l : Launch) (hfl : l.stackTraces = false) (D : jD) (z : Nat × Nat) (b : Nat) (x1 : Int32) (x2 : Int32) (μ : jM) (sz : Nat) (Q : Int64 → jM → Prop) : Met l yX10_forecast wsX10_forecast rmX10_forecast (jPre2z D z μ sz [.ref b, .int x1, .int x2] (wX10_forecast z b x1 x2 μ Q)) (jRz jfJ Q D z (jA z μ sz)) 0 0 (jA z μ sz) := by
  refine Met.ofW (cc := cX10_forecast) (maxL := 5) (ret := (some .long)) (by decide) rfl ?_
  intro p e s m args below meth c s₁ B hml hv
  obtain ⟨rfl, hsz, hH, hz0, hK, hG, hw⟩ := hv
  subst hsz
  have hX : jX2 D z (jA z μ s.heap.size) p l s m _ meth c yX10_forecast cX10_forecast 5 wsX10_forecast (some .long) := ⟨B.exec, B.bytes, hml, findClass_of_methodNamed B.named, atoms_spec (ws := wsX10_forecast) B.pre, B.returns, B.notSynchronized, (name_of_methodNamed B.named B.method).1, hK, hG, hfl⟩
  obtain ⟨ls, hg, hl⟩ : ∃ ls : Array Slot, entryFrame m ([.ref b, .int x1, .int x2] : List Value).toArray 5 = F0 m 0 ls [] ∧ lv_has ls 5 [(0, va_rf (some b)), (1, .int x1), (2, .int x2)] := by
    exact ⟨_, lg_entry_eq .., lv_entry _ (n := 5) (Nat.le_of_ble_eq_true rfl)⟩
  rw [hg]
  exact kX10_forecast_0 hX hw (jIz.start hH hz0) (lv_sub hl [0, 1, 2] rfl) (by decide) (by decide)
set_option maxHeartbeats 4000000 in
set_option maxRecDepth 100000 in
theorem kX10_daysToShort_98 {b : Nat} (hX : jX2 D z A p l s m args meth c yX10_daysToShort cX10_daysToShort 5 wsX10_daysToShort (some .int)) {Q : Int32 → jM → Prop}  {x3 : Int32} {μ : jM} {H : Heap} {locs : List Loc} {ls : Array Slot} {cells slots : Nat} (hw : wX10_daysToShort_98 z b Q x3 μ) (hI : jIz D z A s.heap μ H locs) (hl : lv_has ls 5 [(0, va_rf (some b)), (3, .int x3)]) (hcn : cells + 0 ≤ 0) (hsn : slots + 0 ≤ 0) : W p l e rmX10_daysToShort s m args below meth c H locs cells slots (MQ below (jRz jfI Q D z A) args s 0 0 A) (F0 m 98 ls []) := by
  unfold wX10_daysToShort_98 at hw
  obtain ⟨hx, hb, hml, hown, hts, hr, hlocks, hnm, hK, hG, hfl⟩ := id hX
  have hown : s.vm.findClass RX10 = some m.cls := hown
  refine j_aload_n (r := (some b)) hx hb dX10_daysToShort_98 rfl (lv_at hl 0 rfl) ?_
  obtain ⟨hfs, hw⟩ := hw
  refine j_goz hI (va_runV (As := []) (rest := []) ⟨hx, hb, hml, hown, hts⟩ (kX10_goBack l hfl D z b  μ H.size _) (cwV 0 hts gX10_daysToShort_X10_goBack rfl rfl rfl (by decide +kernel) ⟨Nat.le_of_ble_eq_true rfl, Nat.le_of_ble_eq_true rfl⟩) (j_prV2z hK hG hI hw (ci := 12) rfl hfs) rfl rfl hl.1 rfl (lv_room (Nat.le_of_ble_eq_true rfl)) dX10_daysToShort_99 ⟨by show _ ≤ 0; omega, by show _ ≤ 0; omega⟩) (fun u1 μ2 H locs hw hI => ?_)
  refine W.eq (g2 := F0 m 102 ls []) rfl ?_
  refine lv_iload_n hx hb dX10_daysToShort_102 rfl (lv_at hl 1 rfl) ?_
  exact j_iretz hx hb hr hlocks hI hw (by omega) (by omega) dX10_daysToShort_103
set_option maxHeartbeats 4000000 in
set_option maxRecDepth 100000 in
theorem kX10_daysToShort_57 {b : Nat} (hX : jX2 D z A p l s m args meth c yX10_daysToShort cX10_daysToShort 5 wsX10_daysToShort (some .int)) {Q : Int32 → jM → Prop}  (n : Nat) : ∀ {x1 : Int32} {x2 : Int32} {x3 : Int32} {x4 : Int32} {μ : jM} {H : Heap} {locs : List Loc} {ls : Array Slot} {cells slots : Nat}, wX10_daysToShort_57 z b Q n x1 x2 x3 x4 μ → jIz D z A s.heap μ H locs → lv_has ls 5 [(0, va_rf (some b)), (1, .int x1), (2, .int x2), (3, .int x3), (4, .int x4)] → cells + 0 ≤ 0 → slots + 0 ≤ 0 → W p l e rmX10_daysToShort s m args below meth c H locs cells slots (MQ below (jRz jfI Q D z A) args s 0 0 A) (F0 m 57 ls []) := by
  induction n with
  | zero =>
    intros
    rename_i hw _ _ _ _
    exact (show False from hw).elim
  | succ n ih =>
    intro x1 x2 x3 x4 μ H locs ls cells slots hw hI hl hcn hsn
    have hw : wX10_daysToShort_57_b z b Q (wX10_daysToShort_57 z b Q n) x1 x2 x3 x4 μ := hw
    unfold wX10_daysToShort_57_b at hw
    obtain ⟨hx, hb, hml, hown, hts, hr, hlocks, hnm, hK, hG, hfl⟩ := id hX
    have hown : s.vm.findClass RX10 = some m.cls := hown
    have hfX10 : ∀ w ∈ wsX100, w.before args s = true := fun w h => hts w (List.mem_cons_of_mem _ (List.mem_append_right _ h))
    refine lv_iload hx hb dX10_daysToShort_57 (lv_at hl 4 rfl) ?_
    refine lv_iload_n hx hb dX10_daysToShort_59 rfl (lv_at hl 2 rfl) ?_
    refine lv_icmp_gt (tgt := 98) hx hb dX10_daysToShort_60 (by decide) (fun hc => ?_) (fun hc => ?_)
    · have hw := hw.1 hc
      exact kX10_daysToShort_98 hX  hw hI (lv_sub hl [0, 3] rfl) (by omega) (by omega)
    · have hw := hw.2 hc
      refine lv_iload_n hx hb dX10_daysToShort_63 rfl (lv_at hl 3 rfl) ?_
      refine lv_iconst (v := (-1)) hx hb dX10_daysToShort_64 (by decide) ?_
      refine lv_icmp_ne (tgt := 98) hx hb dX10_daysToShort_65 (by decide) (fun hc => ?_) (fun hc => ?_)
      · have hw := hw.1 hc
        exact kX10_daysToShort_98 hX  hw hI (lv_sub hl [0, 3] rfl) (by omega) (by omega)
      · have hw := hw.2 hc
        refine j_aload_n (r := (some b)) hx hb dX10_daysToShort_68 rfl (lv_at hl 0 rfl) ?_
        obtain ⟨hfs, hw⟩ := hw
        refine j_goz hI (va_runV (As := []) (rest := []) ⟨hx, hb, hml, hown, hts⟩ (kX10_passDay l hfl D z b  μ H.size _) (cwV 0 hts gX10_daysToShort_X10_passDay rfl rfl rfl (by decide +kernel) ⟨Nat.le_of_ble_eq_true rfl, Nat.le_of_ble_eq_true rfl⟩) (j_prV2z hK hG hI hw (ci := 12) rfl hfs) rfl rfl hl.1 rfl (lv_room (Nat.le_of_ble_eq_true rfl)) dX10_daysToShort_69 ⟨by show _ ≤ 0; omega, by show _ ≤ 0; omega⟩) (fun u1 μ2 H locs hw hI => ?_)
        refine W.eq (g2 := F0 m 72 ls []) rfl ?_
        refine j_aload_n (r := (some b)) hx hb dX10_daysToShort_72 rfl (lv_at hl 0 rfl) ?_
        obtain ⟨v3, hv3, hw⟩ := hw
        refine j_getz (C := RX10) (T := TX10) (N := 25) (ci := 12) (r := (some b)) (v := va_rf v3) hx hb hfX10 hown hK hI rfl 3 (by decide) (hts (.fieldLink RX10 7 "CashPoolsModel" "z" "[J") (List.mem_of_getElem? (i := 1) (by decide +kernel))) (fun _ h => h) hv3 dX10_daysToShort_73 ?_
        refine lv_iconst (v := (0)) hx hb dX10_daysToShort_76 (by decide) ?_
        refine lv_iload_n hx hb dX10_daysToShort_77 rfl (lv_at hl 1 rfl) ?_
        refine lv_iadd hx hb dX10_daysToShort_78 ?_
        obtain ⟨v4, hv4, hw⟩ := hw
        refine j_laldz (r := v3) hx hb hK hI hv4 dX10_daysToShort_79 ?_
        refine lv_lconst (v := (0)) hx hb dX10_daysToShort_80 (by decide) ?_
        refine j_lcmp_ge (tgt := 90) hx hb dX10_daysToShort_81 dX10_daysToShort_82 (by decide) (fun hc => ?_) (fun hc => ?_)
        · have hw := hw.1 hc
          refine lv_iconst (v := (-1)) hx hb dX10_daysToShort_90 (by decide) ?_
          refine lv_topi (fun v5 ev5 => ?_)
          have hw := hw v5 ev5
          refine lv_istore_n (lv' := [(3, .int v5), (0, va_rf (some b)), (1, .int x1), (2, .int x2), (4, .int x4)]) hx hb dX10_daysToShort_91 rfl hl (by decide) rfl (fun ls hl => ?_)
          obtain ⟨v6, ev6⟩ : ∃ y : Int32, y = x4 + (1 : Int32) := ⟨_, rfl⟩
          have hw := hw v6 ev6
          refine lv_iinc (v := v6) (lv' := [(4, .int v6), (3, .int v5), (0, va_rf (some b)), (1, .int x1), (2, .int x2)]) hx hb dX10_daysToShort_92 hl (k := 4) rfl (by rw [ev6]; rfl) (by decide) rfl (fun ls hl => ?_)
          refine lv_goto (tgt := 57) hx hb dX10_daysToShort_95 (by decide) ?_
          exact ih hw hI (lv_sub hl [2, 3, 4, 1, 0] rfl) (by omega) (by omega)
        · have hw := hw.2 hc
          refine lv_iload hx hb dX10_daysToShort_85 (lv_at hl 4 rfl) ?_
          refine lv_goto (tgt := 91) hx hb dX10_daysToShort_87 (by decide) ?_
          refine lv_istore_n (lv' := [(3, .int x4), (0, va_rf (some b)), (1, .int x1), (2, .int x2), (4, .int x4)]) hx hb dX10_daysToShort_91 rfl hl (by decide) rfl (fun ls hl => ?_)
          obtain ⟨v7, ev7⟩ : ∃ y : Int32, y = x4 + (1 : Int32) := ⟨_, rfl⟩
          have hw := hw v7 ev7
          refine lv_iinc (v := v7) (lv' := [(4, .int v7), (3, .int x4), (0, va_rf (some b)), (1, .int x1), (2, .int x2)]) hx hb dX10_daysToShort_92 hl (k := 4) rfl (by rw [ev7]; rfl) (by decide) rfl (fun ls hl => ?_)
          refine lv_goto (tgt := 57) hx hb dX10_daysToShort_95 (by decide) ?_
          exact ih hw hI (lv_sub hl [2, 3, 4, 1, 0] rfl) (by omega) (by omega)
set_option maxHeartbeats 4000000 in
set_option maxRecDepth 100000 in
theorem kX10_daysToShort_40 {b : Nat} (hX : jX2 D z A p l s m args meth c yX10_daysToShort cX10_daysToShort 5 wsX10_daysToShort (some .int)) {Q : Int32 → jM → Prop}  {x1 : Int32} {x2 : Int32} {t0 : Option Nat} {t1 : Int32} {μ : jM} {H : Heap} {locs : List Loc} {ls : Array Slot} {cells slots : Nat} (hw : wX10_daysToShort_40 z b Q x1 x2 t0 t1 μ) (hI : jIz D z A s.heap μ H locs) (hl : lv_has ls 5 [(0, va_rf (some b)), (1, .int x1), (2, .int x2)]) (hcn : cells + 0 ≤ 0) (hsn : slots + 0 ≤ 0) : W p l e rmX10_daysToShort s m args below meth c H locs cells slots (MQ below (jRz jfI Q D z A) args s 0 0 A) (F0 m 40 ls [.int t1, va_rf t0]) := by
  unfold wX10_daysToShort_40 at hw
  obtain ⟨hx, hb, hml, hown, hts, hr, hlocks, hnm, hK, hG, hfl⟩ := id hX
  have hown : s.vm.findClass RX10 = some m.cls := hown
  obtain ⟨b3, ⟨hrb3, hfs⟩, hw⟩ := hw
  refine j_goz hI (va_runV (As := [.int t1]) (rest := []) ⟨hx, hb, hml, hown, hts⟩ (kX10_can l hfl D z b3 t1 μ H.size _) (cwV 1 hts gX10_daysToShort_X10_can rfl rfl rfl (by decide +kernel) ⟨Nat.le_of_ble_eq_true rfl, Nat.le_of_ble_eq_true rfl⟩) (j_prV2z hK hG hI hw (ci := 12) rfl hfs) rfl rfl hl.1 (by rw [hrb3]; rfl) (lv_room (Nat.le_of_ble_eq_true rfl)) dX10_daysToShort_40 ⟨by show _ ≤ 0; omega, by show _ ≤ 0; omega⟩) (fun v1 μ2 H locs hw hI => ?_)
  refine W.eq (g2 := F0 m 43 ls [.int v1]) rfl ?_
  refine lv_if_ne (tgt := 48) hx hb dX10_daysToShort_43 (by decide) (fun hc => ?_) (fun hc => ?_)
  · have hw := hw.1 hc
    refine j_aload_n (r := (some b)) hx hb dX10_daysToShort_48 rfl (lv_at hl 0 rfl) ?_
    obtain ⟨hfs, hw⟩ := hw
    refine j_goz hI (va_runV (As := []) (rest := []) ⟨hx, hb, hml, hown, hts⟩ (kX10_keep l hfl D z b  μ2 H.size _) (cwV 0 hts gX10_daysToShort_X10_keep rfl rfl rfl (by decide +kernel) ⟨Nat.le_of_ble_eq_true rfl, Nat.le_of_ble_eq_true rfl⟩) (j_prV2z hK hG hI hw (ci := 12) rfl hfs) rfl rfl hl.1 rfl (lv_room (Nat.le_of_ble_eq_true rfl)) dX10_daysToShort_49 ⟨by show _ ≤ 0; omega, by show _ ≤ 0; omega⟩) (fun u4 μ5 H locs hw hI => ?_)
    refine W.eq (g2 := F0 m 52 ls []) rfl ?_
    refine lv_iconst (v := (-1)) hx hb dX10_daysToShort_52 (by decide) ?_
    refine lv_topi (fun v6 ev6 => ?_)
    have hw := hw v6 ev6
    refine lv_istore_n (lv' := [(3, .int v6), (0, va_rf (some b)), (1, .int x1), (2, .int x2)]) hx hb dX10_daysToShort_53 rfl hl (by decide) rfl (fun ls hl => ?_)
    refine lv_iconst (v := (1)) hx hb dX10_daysToShort_54 (by decide) ?_
    refine lv_topi (fun v7 ev7 => ?_)
    have hw := hw v7 ev7
    refine lv_istore (lv' := [(4, .int v7), (3, .int v6), (0, va_rf (some b)), (1, .int x1), (2, .int x2)]) hx hb dX10_daysToShort_55 hl (by decide) rfl (fun ls hl => ?_)
    obtain ⟨n8, hw⟩ := hw
    exact kX10_daysToShort_57 hX  n8 hw hI (lv_sub hl [2, 3, 4, 1, 0] rfl) (by omega) (by omega)
  · have hw := hw.2 hc
    refine lv_iconst (v := (0)) hx hb dX10_daysToShort_46 (by decide) ?_
    exact j_iretz hx hb hr hlocks hI hw (by omega) (by omega) dX10_daysToShort_47
set_option maxHeartbeats 4000000 in
set_option maxRecDepth 100000 in
theorem kX10_daysToShort_0 {b : Nat} (hX : jX2 D z A p l s m args meth c yX10_daysToShort cX10_daysToShort 5 wsX10_daysToShort (some .int)) {Q : Int32 → jM → Prop}  {x1 : Int32} {x2 : Int32} {μ : jM} {H : Heap} {locs : List Loc} {ls : Array Slot} {cells slots : Nat} (hw : wX10_daysToShort_0 z b Q x1 x2 μ) (hI : jIz D z A s.heap μ H locs) (hl : lv_has ls 5 [(0, va_rf (some b)), (1, .int x1), (2, .int x2)]) (hcn : cells + 0 ≤ 0) (hsn : slots + 0 ≤ 0) : W p l e rmX10_daysToShort s m args below meth c H locs cells slots (MQ below (jRz jfI Q D z A) args s 0 0 A) (F0 m 0 ls []) := by
  unfold wX10_daysToShort_0 at hw
  obtain ⟨hx, hb, hml, hown, hts, hr, hlocks, hnm, hK, hG, hfl⟩ := id hX
  have hown : s.vm.findClass RX10 = some m.cls := hown
  refine j_aload_n (r := (some b)) hx hb dX10_daysToShort_0 rfl (lv_at hl 0 rfl) ?_
  refine j_aload_n (r := (some b)) hx hb dX10_daysToShort_1 rfl (lv_at hl 0 rfl) ?_
  refine lv_iload_n hx hb dX10_daysToShort_2 rfl (lv_at hl 1 rfl) ?_
  obtain ⟨hfs, hw⟩ := hw
  refine j_goz hI (va_runV (As := [.int x1]) (rest := [va_rf (some b)]) ⟨hx, hb, hml, hown, hts⟩ (kX10_isAccount l hfl D z b x1 μ H.size _) (cwV 1 hts gX10_daysToShort_X10_isAccount rfl rfl rfl (by decide +kernel) ⟨Nat.le_of_ble_eq_true rfl, Nat.le_of_ble_eq_true rfl⟩) (j_prV2z hK hG hI hw (ci := 12) rfl hfs) rfl rfl hl.1 rfl (lv_room (Nat.le_of_ble_eq_true rfl)) dX10_daysToShort_3 ⟨by show _ ≤ 0; omega, by show _ ≤ 0; omega⟩) (fun v1 μ2 H locs hw hI => ?_)
  refine W.eq (g2 := F0 m 6 ls [.int v1, va_rf (some b)]) rfl ?_
  refine lv_if_ne (tgt := 13) hx hb dX10_daysToShort_6 (by decide) (fun hc => ?_) (fun hc => ?_)
  · have hw := hw.1 hc
    refine lv_iload_n hx hb dX10_daysToShort_13 rfl (lv_at hl 2 rfl) ?_
    refine lv_iconst (v := (1)) hx hb dX10_daysToShort_14 (by decide) ?_
    refine lv_bipush (v := (60)) hx hb dX10_daysToShort_15 (by decide) ?_
    refine j_goz hI (va_runS (As := [.int x2, .int (1 : Int32), .int (60 : Int32)]) (rest := [va_rf (some b)]) ⟨hx, hb, hml, hown, hts⟩ (kX10_isIn l hfl D z x2 (1 : Int32) (60 : Int32) μ2 H.size _) (va_cwS 3 hts gX10_daysToShort_X10_isIn rfl rfl rfl (by decide +kernel) ⟨Nat.le_of_ble_eq_true rfl, Nat.le_of_ble_eq_true rfl⟩) (j_prS2z hK hG hI hw) rfl rfl hl.1 rfl (lv_room (Nat.le_of_ble_eq_true rfl)) dX10_daysToShort_17 ⟨by show _ ≤ 0; omega, by show _ ≤ 0; omega⟩) (fun v3 μ4 H locs hw hI => ?_)
    refine W.eq (g2 := F0 m 20 ls [.int v3, va_rf (some b)]) rfl ?_
    refine lv_if_ne (tgt := 27) hx hb dX10_daysToShort_20 (by decide) (fun hc => ?_) (fun hc => ?_)
    · have hw := hw.1 hc
      refine j_aload_n (r := (some b)) hx hb dX10_daysToShort_27 rfl (lv_at hl 0 rfl) ?_
      refine lv_iload_n hx hb dX10_daysToShort_28 rfl (lv_at hl 1 rfl) ?_
      obtain ⟨hfs, hw⟩ := hw
      refine j_goz hI (va_runV (As := [.int x1]) (rest := [va_rf (some b)]) ⟨hx, hb, hml, hown, hts⟩ (kX10_isTop l hfl D z b x1 μ4 H.size _) (cwV 1 hts gX10_daysToShort_X10_isTop rfl rfl rfl (by decide +kernel) ⟨Nat.le_of_ble_eq_true rfl, Nat.le_of_ble_eq_true rfl⟩) (j_prV2z hK hG hI hw (ci := 12) rfl hfs) rfl rfl hl.1 rfl (lv_room (Nat.le_of_ble_eq_true rfl)) dX10_daysToShort_29 ⟨by show _ ≤ 0; omega, by show _ ≤ 0; omega⟩) (fun v5 μ6 H locs hw hI => ?_)
      refine W.eq (g2 := F0 m 32 ls [.int v5, va_rf (some b)]) rfl ?_
      refine lv_if_eq (tgt := 39) hx hb dX10_daysToShort_32 (by decide) (fun hc => ?_) (fun hc => ?_)
      · have hw := hw.1 hc
        refine lv_iconst (v := (3)) hx hb dX10_daysToShort_39 (by decide) ?_
        exact kX10_daysToShort_40 hX  hw hI (lv_sub hl [0, 1, 2] rfl) (by omega) (by omega)
      · have hw := hw.2 hc
        refine lv_iconst (v := (0)) hx hb dX10_daysToShort_35 (by decide) ?_
        refine lv_goto (tgt := 40) hx hb dX10_daysToShort_36 (by decide) ?_
        exact kX10_daysToShort_40 hX  hw hI (lv_sub hl [0, 1, 2] rfl) (by omega) (by omega)
    · have hw := hw.2 hc
      refine lv_iconst (v := (2)) hx hb dX10_daysToShort_23 (by decide) ?_
      refine lv_goto (tgt := 40) hx hb dX10_daysToShort_24 (by decide) ?_
      exact kX10_daysToShort_40 hX  hw hI (lv_sub hl [0, 1, 2] rfl) (by omega) (by omega)
  · have hw := hw.2 hc
    refine lv_iconst (v := (1)) hx hb dX10_daysToShort_9 (by decide) ?_
    refine lv_goto (tgt := 40) hx hb dX10_daysToShort_10 (by decide) ?_
    exact kX10_daysToShort_40 hX  hw hI (lv_sub hl [0, 1, 2] rfl) (by omega) (by omega)
set_option maxHeartbeats 4000000 in
set_option maxRecDepth 100000 in
theorem kX10_daysToShort (l : Launch) (hfl : l.stackTraces = false) (D : jD) (z : Nat × Nat) (b : Nat) (x1 : Int32) (x2 : Int32) (μ : jM) (sz : Nat) (Q : Int32 → jM → Prop) : Met l yX10_daysToShort wsX10_daysToShort rmX10_daysToShort (jPre2z D z μ sz [.ref b, .int x1, .int x2] (wX10_daysToShort z b x1 x2 μ Q)) (jRz jfI Q D z (jA z μ sz)) 0 0 (jA z μ sz) := by
  refine Met.ofW (cc := cX10_daysToShort) (maxL := 5) (ret := (some .int)) (by decide) rfl ?_
  intro p e s m args below meth c s₁ B hml hv
  obtain ⟨rfl, hsz, hH, hz0, hK, hG, hw⟩ := hv
  subst hsz
  have hX : jX2 D z (jA z μ s.heap.size) p l s m _ meth c yX10_daysToShort cX10_daysToShort 5 wsX10_daysToShort (some .int) := ⟨B.exec, B.bytes, hml, findClass_of_methodNamed B.named, atoms_spec (ws := wsX10_daysToShort) B.pre, B.returns, B.notSynchronized, (name_of_methodNamed B.named B.method).1, hK, hG, hfl⟩
  obtain ⟨ls, hg, hl⟩ : ∃ ls : Array Slot, entryFrame m ([.ref b, .int x1, .int x2] : List Value).toArray 5 = F0 m 0 ls [] ∧ lv_has ls 5 [(0, va_rf (some b)), (1, .int x1), (2, .int x2)] := by
    exact ⟨_, lg_entry_eq .., lv_entry _ (n := 5) (Nat.le_of_ble_eq_true rfl)⟩
  rw [hg]
  exact kX10_daysToShort_0 hX hw (jIz.start hH hz0) (lv_sub hl [0, 1, 2] rfl) (by decide) (by decide)
end
