section
variable {p : Program} {l : Launch} {e : Env} {s : State} {m : MethodId} {args : Array Value} {below : List Frame} {meth : Method} {c : Code} {D : jD} {z : Nat × Nat} {A : Nat → Prop}
set_option maxHeartbeats 4000000 in
set_option maxRecDepth 100000 in
theorem kX9_bankAt_0 {b : Nat} (hX : jX2 D z A p l s m args meth c yX9_bankAt cX9_bankAt 2 wsX9_bankAt (some (.object "CashPools$Bank"))) {Q : Option Nat → jM → Prop}  {x1 : Int32} {μ : jM} {H : Heap} {locs : List Loc} {ls : Array Slot} {cells slots : Nat} (hw : wX9_bankAt_0 z b Q jN x1 μ) (hI : jIz D z A s.heap μ H locs) (hl : lv_has ls 2 [(0, va_rf (some b)), (1, .int x1)]) (hcn : cells + 0 ≤ 0) (hsn : slots + 0 ≤ 0) : W p l e rmX9_bankAt s m args below meth c H locs cells slots (MQ below (jRz jfR Q D z A) args s 0 0 A) (F0 m 0 ls []) := by
  unfold wX9_bankAt_0 at hw
  obtain ⟨hx, hb, hml, hown, hts, hr, hlocks, hnm, hK, hG, hfl⟩ := id hX
  have hown : s.vm.findClass RX9 = some m.cls := hown
  have hfX3 : ∀ w ∈ wsX30, w.before args s = true := fun w h => hts w (List.mem_cons_of_mem _ (List.mem_append_left _ (List.mem_append_left _ (List.mem_append_right _ h))))
  have hfX9 : ∀ w ∈ wsX90, w.before args s = true := fun w h => hts w (List.mem_cons_of_mem _ (List.mem_append_left _ (List.mem_append_left _ (List.mem_append_left _ (List.mem_append_right _ h)))))
  refine lv_iload_n hx hb dX9_bankAt_0 rfl (lv_at hl 1 rfl) ?_
  refine lv_if_lt (tgt := 18) hx hb dX9_bankAt_1 (by decide) (fun hc => ?_) (fun hc => ?_)
  · have hw := hw.1 hc
    exact (show False from hw).elim
  · have hw := hw.2 hc
    refine lv_iload_n hx hb dX9_bankAt_4 rfl (lv_at hl 1 rfl) ?_
    refine j_aload_n (r := (some b)) hx hb dX9_bankAt_5 rfl (lv_at hl 0 rfl) ?_
    obtain ⟨v1, hv1, hw⟩ := hw
    refine j_getz (C := RX9) (T := TX9) (N := 1) (ci := 11) (r := (some b)) (v := va_rf v1) hx hb hfX9 hown hK hI rfl 0 (by decide) (hts (.fieldLink RX9 10 "CashPools" "desk" "LCashPools$Desk;") (List.mem_of_getElem? (i := 3) (by decide +kernel))) (fun _ h => h) hv1 dX9_bankAt_6 ?_
    obtain ⟨v2, hv2, hw⟩ := hw
    refine j_getz (C := RX3) (T := TX3) (N := 8) (ci := 6) (r := v1) (v := va_rf v2) hx hb hfX3 hown hK hI rfl 4 (by decide) (hts (.fieldLink RX9 236 "CashPools$Desk" "banks" "Ljava/util/ArrayList;") (List.mem_of_getElem? (i := 4) (by decide +kernel))) (fun _ h => h) hv2 dX9_bankAt_9 ?_
    obtain ⟨b5, ⟨hrb5, hfs⟩, hw⟩ := hw
    refine j_goz hI (va_runV (As := []) (rest := [.int x1]) ⟨hx, hb, hml, hown, hts⟩ (kJx4a65c_size_8abf5 l hfl D z b5  μ H.size _) (cwV 0 hts gX9_bankAt_Jx4a65c_size_8abf5 rfl rfl rfl (by decide +kernel) ⟨Nat.le_of_ble_eq_true rfl, Nat.le_of_ble_eq_true rfl⟩) (j_prV2z hK hG hI hw (ci := 2) rfl hfs) rfl rfl hl.1 (by rw [hrb5]; rfl) (lv_room (Nat.le_of_ble_eq_true rfl)) dX9_bankAt_12 ⟨by show _ ≤ 0; omega, by show _ ≤ 0; omega⟩) (fun v3 μ4 H locs hw hI => ?_)
    refine W.eq (g2 := F0 m 15 ls [.int v3, .int x1]) rfl ?_
    refine lv_icmp_lt (tgt := 28) hx hb dX9_bankAt_15 (by decide) (fun hc => ?_) (fun hc => ?_)
    · have hw := hw.1 hc
      refine j_aload_n (r := (some b)) hx hb dX9_bankAt_28 rfl (lv_at hl 0 rfl) ?_
      obtain ⟨v6, hv6, hw⟩ := hw
      refine j_getz (C := RX9) (T := TX9) (N := 1) (ci := 11) (r := (some b)) (v := va_rf v6) hx hb hfX9 hown hK hI rfl 0 (by decide) (hts (.fieldLink RX9 10 "CashPools" "desk" "LCashPools$Desk;") (List.mem_of_getElem? (i := 3) (by decide +kernel))) (fun _ h => h) hv6 dX9_bankAt_29 ?_
      obtain ⟨v7, hv7, hw⟩ := hw
      refine j_getz (C := RX3) (T := TX3) (N := 8) (ci := 6) (r := v6) (v := va_rf v7) hx hb hfX3 hown hK hI rfl 4 (by decide) (hts (.fieldLink RX9 236 "CashPools$Desk" "banks" "Ljava/util/ArrayList;") (List.mem_of_getElem? (i := 4) (by decide +kernel))) (fun _ h => h) hv7 dX9_bankAt_32 ?_
      refine lv_iload_n hx hb dX9_bankAt_35 rfl (lv_at hl 1 rfl) ?_
      obtain ⟨b10, ⟨hrb10, hfs⟩, hw⟩ := hw
      refine j_goz hI (va_runV (As := [.int x1]) (rest := []) ⟨hx, hb, hml, hown, hts⟩ (kJx4a65c_get_915e3 l hfl D z b10 x1 μ4 H.size _) (cwV 1 hts gX9_bankAt_Jx4a65c_get_915e3 rfl rfl rfl (by decide +kernel) ⟨Nat.le_of_ble_eq_true rfl, Nat.le_of_ble_eq_true rfl⟩) (j_prV2z hK hG hI hw (ci := 2) rfl hfs) rfl rfl hl.1 (by rw [hrb10]; rfl) (lv_room (Nat.le_of_ble_eq_true rfl)) dX9_bankAt_36 ⟨by show _ ≤ 0; omega, by show _ ≤ 0; omega⟩) (fun v8 μ9 H locs hw hI => ?_)
      refine W.eq (g2 := F0 m 39 ls [va_rf v8]) rfl ?_
      obtain ⟨h11, hw⟩ := hw
      refine j_castz (C := RX1) (T := TX1) (N := 3) (ci := 4) (r := v8) hx hb hown (hts (.classLink RX9 87 "CashPools$Bank") (List.mem_of_getElem? (i := 5) (by decide +kernel))) hK hI rfl h11 dX9_bankAt_39 ?_
      exact j_aretz (v := v8) hx hb hr (Or.inl ⟨_, rfl⟩) hlocks hI hw (by omega) (by omega) dX9_bankAt_42
    · have hw := hw.2 hc
      exact (show False from hw).elim
set_option maxHeartbeats 4000000 in
set_option maxRecDepth 100000 in
theorem kX9_bankAt (l : Launch) (hfl : l.stackTraces = false) (D : jD) (z : Nat × Nat) (b : Nat) (x1 : Int32) (μ : jM) (sz : Nat) (Q : Option Nat → jM → Prop) : Met l yX9_bankAt wsX9_bankAt rmX9_bankAt (jPre2z D z μ sz [.ref b, .int x1] (wX9_bankAt z b x1 μ Q jN)) (jRz jfR Q D z (jA z μ sz)) 0 0 (jA z μ sz) := by
  refine Met.ofW (cc := cX9_bankAt) (maxL := 2) (ret := (some (.object "CashPools$Bank"))) (by decide) rfl ?_
  intro p e s m args below meth c s₁ B hml hv
  obtain ⟨rfl, hsz, hH, hz0, hK, hG, hw⟩ := hv
  subst hsz
  have hX : jX2 D z (jA z μ s.heap.size) p l s m _ meth c yX9_bankAt cX9_bankAt 2 wsX9_bankAt (some (.object "CashPools$Bank")) := ⟨B.exec, B.bytes, hml, findClass_of_methodNamed B.named, atoms_spec (ws := wsX9_bankAt) B.pre, B.returns, B.notSynchronized, (name_of_methodNamed B.named B.method).1, hK, hG, hfl⟩
  obtain ⟨ls, hg, hl⟩ : ∃ ls : Array Slot, entryFrame m ([.ref b, .int x1] : List Value).toArray 2 = F0 m 0 ls [] ∧ lv_has ls 2 [(0, va_rf (some b)), (1, .int x1)] := by
    exact ⟨_, lg_entry_eq .., lv_entry _ (n := 2) (Nat.le_of_ble_eq_true rfl)⟩
  rw [hg]
  exact kX9_bankAt_0 hX hw (jIz.start hH hz0) (lv_sub hl [0, 1] rfl) (by decide) (by decide)
set_option maxHeartbeats 4000000 in
set_option maxRecDepth 100000 in
theorem kX9_requireWithin_0 (hX : jX2 D z A p l s m args meth c yX9_requireWithin cX9_requireWithin 3 wsX9_requireWithin none) {Q : Unit → jM → Prop}  {x0 : Int32} {x1 : Int32} {x2 : Int32} {μ : jM} {H : Heap} {locs : List Loc} {ls : Array Slot} {cells slots : Nat} (hw : wX9_requireWithin_0 z Q jN x0 x1 x2 μ) (hI : jIz D z A s.heap μ H locs) (hl : lv_has ls 3 [(0, .int x0), (1, .int x1), (2, .int x2)]) (hcn : cells + 0 ≤ 0) (hsn : slots + 0 ≤ 0) : W p l e rmX9_requireWithin s m args below meth c H locs cells slots (MQ below (jRz jfV Q D z A) args s 0 0 A) (F0 m 0 ls []) := by
  unfold wX9_requireWithin_0 at hw
  obtain ⟨hx, hb, hml, hown, hts, hr, hlocks, hnm, hK, hG, hfl⟩ := id hX
  have hown : s.vm.findClass RX9 = some m.cls := hown
  refine lv_iload_n hx hb dX9_requireWithin_0 rfl (lv_at hl 0 rfl) ?_
  refine lv_iload_n hx hb dX9_requireWithin_1 rfl (lv_at hl 1 rfl) ?_
  refine lv_icmp_lt (tgt := 10) hx hb dX9_requireWithin_2 (by decide) (fun hc => ?_) (fun hc => ?_)
  · have hw := hw.1 hc
    exact (show False from hw).elim
  · have hw := hw.2 hc
    refine lv_iload_n hx hb dX9_requireWithin_5 rfl (lv_at hl 0 rfl) ?_
    refine lv_iload_n hx hb dX9_requireWithin_6 rfl (lv_at hl 2 rfl) ?_
    refine lv_icmp_le (tgt := 20) hx hb dX9_requireWithin_7 (by decide) (fun hc => ?_) (fun hc => ?_)
    · have hw := hw.1 hc
      exact j_vretz hx hb hr hlocks hI hw (by omega) (by omega) dX9_requireWithin_20
    · have hw := hw.2 hc
      exact (show False from hw).elim
set_option maxHeartbeats 4000000 in
set_option maxRecDepth 100000 in
theorem kX9_requireWithin (l : Launch) (hfl : l.stackTraces = false) (D : jD) (z : Nat × Nat) (x0 : Int32) (x1 : Int32) (x2 : Int32) (μ : jM) (sz : Nat) (Q : Unit → jM → Prop) : Met l yX9_requireWithin wsX9_requireWithin rmX9_requireWithin (jPre2z D z μ sz [.int x0, .int x1, .int x2] (wX9_requireWithin z x0 x1 x2 μ Q jN)) (jRz jfV Q D z (jA z μ sz)) 0 0 (jA z μ sz) := by
  refine Met.ofW (cc := cX9_requireWithin) (maxL := 3) (ret := none) (by decide) rfl ?_
  intro p e s m args below meth c s₁ B hml hv
  obtain ⟨rfl, hsz, hH, hz0, hK, hG, hw⟩ := hv
  subst hsz
  have hX : jX2 D z (jA z μ s.heap.size) p l s m _ meth c yX9_requireWithin cX9_requireWithin 3 wsX9_requireWithin none := ⟨B.exec, B.bytes, hml, findClass_of_methodNamed B.named, atoms_spec (ws := wsX9_requireWithin) B.pre, B.returns, B.notSynchronized, (name_of_methodNamed B.named B.method).1, hK, hG, hfl⟩
  obtain ⟨ls, hg, hl⟩ : ∃ ls : Array Slot, entryFrame m ([.int x0, .int x1, .int x2] : List Value).toArray 3 = F0 m 0 ls [] ∧ lv_has ls 3 [(0, .int x0), (1, .int x1), (2, .int x2)] := by
    exact ⟨_, lg_entry_eq .., lv_entry _ (n := 3) (Nat.le_of_ble_eq_true rfl)⟩
  rw [hg]
  exact kX9_requireWithin_0 hX hw (jIz.start hH hz0) (lv_sub hl [0, 1, 2] rfl) (by decide) (by decide)
set_option maxHeartbeats 4000000 in
set_option maxRecDepth 100000 in
theorem kX9_requireAccountLeft_0 {b : Nat} (hX : jX2 D z A p l s m args meth c yX9_requireAccountLeft cX9_requireAccountLeft 1 wsX9_requireAccountLeft none) {Q : Unit → jM → Prop}   {μ : jM} {H : Heap} {locs : List Loc} {ls : Array Slot} {cells slots : Nat} (hw : wX9_requireAccountLeft_0 z b Q jN  μ) (hI : jIz D z A s.heap μ H locs) (hl : lv_has ls 1 [(0, va_rf (some b))]) (hcn : cells + 0 ≤ 0) (hsn : slots + 0 ≤ 0) : W p l e rmX9_requireAccountLeft s m args below meth c H locs cells slots (MQ below (jRz jfV Q D z A) args s 0 0 A) (F0 m 0 ls []) := by
  unfold wX9_requireAccountLeft_0 at hw
  obtain ⟨hx, hb, hml, hown, hts, hr, hlocks, hnm, hK, hG, hfl⟩ := id hX
  have hown : s.vm.findClass RX9 = some m.cls := hown
  have hfX3 : ∀ w ∈ wsX30, w.before args s = true := fun w h => hts w (List.mem_cons_of_mem _ (List.mem_append_left _ (List.mem_append_left _ (List.mem_append_right _ h))))
  have hfX9 : ∀ w ∈ wsX90, w.before args s = true := fun w h => hts w (List.mem_cons_of_mem _ (List.mem_append_left _ (List.mem_append_left _ (List.mem_append_left _ (List.mem_append_right _ h)))))
  refine j_aload_n (r := (some b)) hx hb dX9_requireAccountLeft_0 rfl (lv_at hl 0 rfl) ?_
  obtain ⟨v1, hv1, hw⟩ := hw
  refine j_getz (C := RX9) (T := TX9) (N := 1) (ci := 11) (r := (some b)) (v := va_rf v1) hx hb hfX9 hown hK hI rfl 0 (by decide) (hts (.fieldLink RX9 10 "CashPools" "desk" "LCashPools$Desk;") (List.mem_of_getElem? (i := 3) (by decide +kernel))) (fun _ h => h) hv1 dX9_requireAccountLeft_1 ?_
  obtain ⟨v2, hv2, hw⟩ := hw
  refine j_getz (C := RX3) (T := TX3) (N := 8) (ci := 6) (r := v1) (v := va_rf v2) hx hb hfX3 hown hK hI rfl 0 (by decide) (hts (.fieldLink RX9 148 "CashPools$Desk" "everyAccount" "Ljava/util/ArrayList;") (List.mem_of_getElem? (i := 4) (by decide +kernel))) (fun _ h => h) hv2 dX9_requireAccountLeft_4 ?_
  obtain ⟨b5, ⟨hrb5, hfs⟩, hw⟩ := hw
  refine j_goz hI (va_runV (As := []) (rest := []) ⟨hx, hb, hml, hown, hts⟩ (kJx4a65c_size_8abf5 l hfl D z b5  μ H.size _) (cwV 0 hts gX9_requireAccountLeft_Jx4a65c_size_8abf5 rfl rfl rfl (by decide +kernel) ⟨Nat.le_of_ble_eq_true rfl, Nat.le_of_ble_eq_true rfl⟩) (j_prV2z hK hG hI hw (ci := 2) rfl hfs) rfl rfl hl.1 (by rw [hrb5]; rfl) (lv_room (Nat.le_of_ble_eq_true rfl)) dX9_requireAccountLeft_7 ⟨by show _ ≤ 0; omega, by show _ ≤ 0; omega⟩) (fun v3 μ4 H locs hw hI => ?_)
  refine W.eq (g2 := F0 m 10 ls [.int v3]) rfl ?_
  refine lv_bipush (v := (10)) hx hb dX9_requireAccountLeft_10 (by decide) ?_
  refine lv_icmp_lt (tgt := 25) hx hb dX9_requireAccountLeft_12 (by decide) (fun hc => ?_) (fun hc => ?_)
  · have hw := hw.1 hc
    exact j_vretz hx hb hr hlocks hI hw (by omega) (by omega) dX9_requireAccountLeft_25
  · have hw := hw.2 hc
    exact (show False from hw).elim
set_option maxHeartbeats 4000000 in
set_option maxRecDepth 100000 in
theorem kX9_requireAccountLeft (l : Launch) (hfl : l.stackTraces = false) (D : jD) (z : Nat × Nat) (b : Nat)  (μ : jM) (sz : Nat) (Q : Unit → jM → Prop) : Met l yX9_requireAccountLeft wsX9_requireAccountLeft rmX9_requireAccountLeft (jPre2z D z μ sz [.ref b] (wX9_requireAccountLeft z b  μ Q jN)) (jRz jfV Q D z (jA z μ sz)) 0 0 (jA z μ sz) := by
  refine Met.ofW (cc := cX9_requireAccountLeft) (maxL := 1) (ret := none) (by decide) rfl ?_
  intro p e s m args below meth c s₁ B hml hv
  obtain ⟨rfl, hsz, hH, hz0, hK, hG, hw⟩ := hv
  subst hsz
  have hX : jX2 D z (jA z μ s.heap.size) p l s m _ meth c yX9_requireAccountLeft cX9_requireAccountLeft 1 wsX9_requireAccountLeft none := ⟨B.exec, B.bytes, hml, findClass_of_methodNamed B.named, atoms_spec (ws := wsX9_requireAccountLeft) B.pre, B.returns, B.notSynchronized, (name_of_methodNamed B.named B.method).1, hK, hG, hfl⟩
  obtain ⟨ls, hg, hl⟩ : ∃ ls : Array Slot, entryFrame m ([.ref b] : List Value).toArray 1 = F0 m 0 ls [] ∧ lv_has ls 1 [(0, va_rf (some b))] := by
    exact ⟨_, lg_entry_eq .., lv_entry _ (n := 1) (Nat.le_of_ble_eq_true rfl)⟩
  rw [hg]
  exact kX9_requireAccountLeft_0 hX hw (jIz.start hH hz0) (lv_sub hl [0] rfl) (by decide) (by decide)
set_option maxHeartbeats 4000000 in
set_option maxRecDepth 100000 in
theorem kX7_init_0 {b : Nat} (hX : jX2 D z A p l s m args meth c yX7_init cX7_init 3 wsX7_init none) {Q : Unit → jM → Prop}  {x1 : Int32} {x2 : Int32} {μ : jM} {H : Heap} {locs : List Loc} {ls : Array Slot} {cells slots : Nat} (hw : wX7_init_0 z b Q x1 x2 μ) (hI : jIz D z A s.heap μ H locs) (hl : lv_has ls 3 [(0, va_rf (some b)), (1, .int x1), (2, .int x2)]) (hcn : cells + 4 ≤ 4) (hsn : slots + 40 ≤ 40) : W p l e rmX7_init s m args below meth c H locs cells slots (MQ below (jRz jfV Q D z A) args s 4 40 A) (F0 m 0 ls []) := by
  unfold wX7_init_0 at hw
  obtain ⟨hx, hb, hml, hown, hts, hr, hlocks, hnm, hK, hG, hfl⟩ := id hX
  have hown : s.vm.findClass RX7 = some m.cls := hown
  have hfX7 : ∀ w ∈ wsX70, w.before args s = true := fun w h => hts w (List.mem_cons_of_mem _ (List.mem_append_right _ h))
  refine j_aload_n (r := (some b)) hx hb dX7_init_0 rfl (lv_at hl 0 rfl) ?_
  refine W.objInit hx hb hown (hts (.methodLink RX7 3 objectInit) (List.mem_of_getElem? (i := 1) (by decide +kernel))) (hts (.instanceMethod objectInit) (List.mem_of_getElem? (i := 2) (by decide +kernel))) (hts (.code objectInit ⟨#[0xb1]⟩ 1 none) (List.mem_of_getElem? (i := 3) (by decide +kernel))) rfl (by rw [hml]; exact hl.1) rfl dX7_init_1 (Nat.le_of_ble_eq_true rfl) (Nat.le_of_ble_eq_true rfl) ?_
  refine W.eq (g2 := F0 m 4 ls []) rfl ?_
  refine j_aload_n (r := (some b)) hx hb dX7_init_4 rfl (lv_at hl 0 rfl) ?_
  refine lv_bipush (v := (10)) hx hb dX7_init_5 (by decide) ?_
  refine j_newaz (atype := .long) (ty := .long) (t := 1) (N' := 10) (a0 := (10, .inr (.inl (fun _ => 0)))) hx hb (hts (.arrayClass .long) (List.mem_of_getElem? (i := 4) (by decide +kernel))) rfl hK hI (fun cA h => Option.some.inj (h.symm.trans ((hK.2 1 (D.2 1, .long) rfl).2))) (fun cA => rfl) (by decide) (by decide) (by decide) (by show _ ≤ 4; omega) (by show _ ≤ 40; omega) dX7_init_7 (fun q1 H hq1 hI => ?_)
  have hw := hw q1 hq1
  obtain ⟨μ2, hμ2, hw⟩ := hw
  refine j_putFz (C := RX7) (T := TX7) (N := 10) (ci := 10) (r := (some b)) (v := va_rf (some q1)) hx hb hfX7 tyX7 tyX7_ok nmX7 hown hK hI rfl 4 (by decide) (hts (.fieldLink RX7 9 "CashPools$Side" "weights" "[J") (List.mem_of_getElem? (i := 5) (by decide +kernel))) (fun _ h => h) rfl hnm rfl (tyX7_ok 4 (by decide)) (jnra _ (some q1)) (jfra _ (some q1)) hμ2 dX7_init_9 (fun H locs hI => ?_)
  refine j_aload_n (r := (some b)) hx hb dX7_init_12 rfl (lv_at hl 0 rfl) ?_
  refine lv_bipush (v := (10)) hx hb dX7_init_13 (by decide) ?_
  refine j_newaz (atype := .long) (ty := .long) (t := 1) (N' := 10) (a0 := (10, .inr (.inl (fun _ => 0)))) hx hb (hts (.arrayClass .long) (List.mem_of_getElem? (i := 4) (by decide +kernel))) rfl hK hI (fun cA h => Option.some.inj (h.symm.trans ((hK.2 1 (D.2 1, .long) rfl).2))) (fun cA => rfl) (by decide) (by decide) (by decide) (by show _ ≤ 4; omega) (by show _ ≤ 40; omega) dX7_init_15 (fun q3 H hq3 hI => ?_)
  have hw := hw q3 hq3
  obtain ⟨μ4, hμ4, hw⟩ := hw
  refine j_putFz (C := RX7) (T := TX7) (N := 10) (ci := 10) (r := (some b)) (v := va_rf (some q3)) hx hb hfX7 tyX7 tyX7_ok nmX7 hown hK hI rfl 5 (by decide) (hts (.fieldLink RX7 15 "CashPools$Side" "shares" "[J") (List.mem_of_getElem? (i := 6) (by decide +kernel))) (fun _ h => h) rfl hnm rfl (tyX7_ok 5 (by decide)) (jnra _ (some q3)) (jfra _ (some q3)) hμ4 dX7_init_17 (fun H locs hI => ?_)
  refine j_aload_n (r := (some b)) hx hb dX7_init_20 rfl (lv_at hl 0 rfl) ?_
  refine lv_bipush (v := (10)) hx hb dX7_init_21 (by decide) ?_
  refine j_newaz (atype := .long) (ty := .long) (t := 1) (N' := 10) (a0 := (10, .inr (.inl (fun _ => 0)))) hx hb (hts (.arrayClass .long) (List.mem_of_getElem? (i := 4) (by decide +kernel))) rfl hK hI (fun cA h => Option.some.inj (h.symm.trans ((hK.2 1 (D.2 1, .long) rfl).2))) (fun cA => rfl) (by decide) (by decide) (by decide) (by show _ ≤ 4; omega) (by show _ ≤ 40; omega) dX7_init_23 (fun q5 H hq5 hI => ?_)
  have hw := hw q5 hq5
  obtain ⟨μ6, hμ6, hw⟩ := hw
  refine j_putFz (C := RX7) (T := TX7) (N := 10) (ci := 10) (r := (some b)) (v := va_rf (some q5)) hx hb hfX7 tyX7 tyX7_ok nmX7 hown hK hI rfl 6 (by decide) (hts (.fieldLink RX7 18 "CashPools$Side" "remainders" "[J") (List.mem_of_getElem? (i := 7) (by decide +kernel))) (fun _ h => h) rfl hnm rfl (tyX7_ok 6 (by decide)) (jnra _ (some q5)) (jfra _ (some q5)) hμ6 dX7_init_25 (fun H locs hI => ?_)
  refine j_aload_n (r := (some b)) hx hb dX7_init_28 rfl (lv_at hl 0 rfl) ?_
  refine lv_bipush (v := (10)) hx hb dX7_init_29 (by decide) ?_
  refine j_newaz (atype := .long) (ty := .long) (t := 1) (N' := 10) (a0 := (10, .inr (.inl (fun _ => 0)))) hx hb (hts (.arrayClass .long) (List.mem_of_getElem? (i := 4) (by decide +kernel))) rfl hK hI (fun cA h => Option.some.inj (h.symm.trans ((hK.2 1 (D.2 1, .long) rfl).2))) (fun cA => rfl) (by decide) (by decide) (by decide) (by show _ ≤ 4; omega) (by show _ ≤ 40; omega) dX7_init_31 (fun q7 H hq7 hI => ?_)
  have hw := hw q7 hq7
  obtain ⟨μ8, hμ8, hw⟩ := hw
  refine j_putFz (C := RX7) (T := TX7) (N := 10) (ci := 10) (r := (some b)) (v := va_rf (some q7)) hx hb hfX7 tyX7 tyX7_ok nmX7 hown hK hI rfl 9 (by decide) (hts (.fieldLink RX7 21 "CashPools$Side" "keptWeights" "[J") (List.mem_of_getElem? (i := 8) (by decide +kernel))) (fun _ h => h) rfl hnm rfl (tyX7_ok 9 (by decide)) (jnra _ (some q7)) (jfra _ (some q7)) hμ8 dX7_init_33 (fun H locs hI => ?_)
  refine j_aload_n (r := (some b)) hx hb dX7_init_36 rfl (lv_at hl 0 rfl) ?_
  refine lv_iload_n hx hb dX7_init_37 rfl (lv_at hl 1 rfl) ?_
  obtain ⟨μ9, hμ9, hw⟩ := hw
  refine j_putFz (C := RX7) (T := TX7) (N := 10) (ci := 10) (r := (some b)) (v := .int x1) hx hb hfX7 tyX7 tyX7_ok nmX7 hown hK hI rfl 0 (by decide) (hts (.fieldLink RX7 24 "CashPools$Side" "rate" "I") (List.mem_of_getElem? (i := 9) (by decide +kernel))) (fun _ h => h) rfl hnm rfl (tyX7_ok 0 (by decide)) rfl rfl hμ9 dX7_init_38 (fun H locs hI => ?_)
  refine j_aload_n (r := (some b)) hx hb dX7_init_41 rfl (lv_at hl 0 rfl) ?_
  refine lv_iload_n hx hb dX7_init_42 rfl (lv_at hl 2 rfl) ?_
  obtain ⟨μ10, hμ10, hw⟩ := hw
  refine j_putFz (C := RX7) (T := TX7) (N := 10) (ci := 10) (r := (some b)) (v := .int x2) hx hb hfX7 tyX7 tyX7_ok nmX7 hown hK hI rfl 1 (by decide) (hts (.fieldLink RX7 28 "CashPools$Side" "sign" "I") (List.mem_of_getElem? (i := 10) (by decide +kernel))) (fun _ h => h) rfl hnm rfl (tyX7_ok 1 (by decide)) rfl rfl hμ10 dX7_init_43 (fun H locs hI => ?_)
  exact j_vretz hx hb hr hlocks hI hw (by omega) (by omega) dX7_init_46
set_option maxHeartbeats 4000000 in
set_option maxRecDepth 100000 in
theorem kX7_init (l : Launch) (hfl : l.stackTraces = false) (D : jD) (z : Nat × Nat) (b : Nat) (x1 : Int32) (x2 : Int32) (μ : jM) (sz : Nat) (Q : Unit → jM → Prop) : Met l yX7_init wsX7_init rmX7_init (jPre2z D z μ sz [.ref b, .int x1, .int x2] (wX7_init z b x1 x2 μ Q)) (jRz jfV Q D z (jA z μ sz)) 4 40 (jA z μ sz) := by
  refine Met.ofW (cc := cX7_init) (maxL := 3) (ret := none) (by decide) rfl ?_
  intro p e s m args below meth c s₁ B hml hv
  obtain ⟨rfl, hsz, hH, hz0, hK, hG, hw⟩ := hv
  subst hsz
  have hX : jX2 D z (jA z μ s.heap.size) p l s m _ meth c yX7_init cX7_init 3 wsX7_init none := ⟨B.exec, B.bytes, hml, findClass_of_methodNamed B.named, atoms_spec (ws := wsX7_init) B.pre, B.returns, B.notSynchronized, (name_of_methodNamed B.named B.method).1, hK, hG, hfl⟩
  obtain ⟨ls, hg, hl⟩ : ∃ ls : Array Slot, entryFrame m ([.ref b, .int x1, .int x2] : List Value).toArray 3 = F0 m 0 ls [] ∧ lv_has ls 3 [(0, va_rf (some b)), (1, .int x1), (2, .int x2)] := by
    exact ⟨_, lg_entry_eq .., lv_entry _ (n := 3) (Nat.le_of_ble_eq_true rfl)⟩
  rw [hg]
  exact kX7_init_0 hX hw (jIz.start hH hz0) (lv_sub hl [0, 1, 2] rfl) (by decide) (by decide)
set_option maxHeartbeats 4000000 in
set_option maxRecDepth 100000 in
theorem kX6_init_0 {b : Nat} (hX : jX2 D z A p l s m args meth c yX6_init cX6_init 4 wsX6_init none) {Q : Unit → jM → Prop}  {x1 : Int32} {x2 : Int32} {x3 : Int32} {μ : jM} {H : Heap} {locs : List Loc} {ls : Array Slot} {cells slots : Nat} (hw : wX6_init_0 z b Q x1 x2 x3 μ) (hI : jIz D z A s.heap μ H locs) (hl : lv_has ls 4 [(0, va_rf (some b)), (1, .int x1), (2, .int x2), (3, .int x3)]) (hcn : cells + 12 ≤ 12) (hsn : slots + 106 ≤ 106) : W p l e rmX6_init s m args below meth c H locs cells slots (MQ below (jRz jfV Q D z A) args s 12 106 A) (F0 m 0 ls []) := by
  unfold wX6_init_0 at hw
  obtain ⟨hx, hb, hml, hown, hts, hr, hlocks, hnm, hK, hG, hfl⟩ := id hX
  have hown : s.vm.findClass RX6 = some m.cls := hown
  have hfJx4a65c : ∀ w ∈ wsJx4a65c0, w.before args s = true := fun w h => hts w (List.mem_cons_of_mem _ (List.mem_append_left _ (List.mem_append_left _ (List.mem_append_right _ h))))
  have hfX6 : ∀ w ∈ wsX60, w.before args s = true := fun w h => hts w (List.mem_cons_of_mem _ (List.mem_append_left _ (List.mem_append_right _ h)))
  have hfX7 : ∀ w ∈ wsX70, w.before args s = true := fun w h => hts w (List.mem_cons_of_mem _ (List.mem_append_right _ h))
  refine j_aload_n (r := (some b)) hx hb dX6_init_0 rfl (lv_at hl 0 rfl) ?_
  refine W.objInit hx hb hown (hts (.methodLink RX6 1 objectInit) (List.mem_of_getElem? (i := 1) (by decide +kernel))) (hts (.instanceMethod objectInit) (List.mem_of_getElem? (i := 2) (by decide +kernel))) (hts (.code objectInit ⟨#[0xb1]⟩ 1 none) (List.mem_of_getElem? (i := 3) (by decide +kernel))) rfl (by rw [hml]; exact hl.1) rfl dX6_init_1 (Nat.le_of_ble_eq_true rfl) (Nat.le_of_ble_eq_true rfl) ?_
  refine W.eq (g2 := F0 m 4 ls []) rfl ?_
  refine j_aload_n (r := (some b)) hx hb dX6_init_4 rfl (lv_at hl 0 rfl) ?_
  refine j_newz (C := RJx4a65c) (T := TJx4a65c) (N := 3) (ci := 2) (fs := jfJx4a65c) hx hb hfJx4a65c tyJx4a65c tyJx4a65c_ok hown (hts (.classLink RX6 7 RJx4a65c) (List.mem_of_getElem? (i := 4) (by decide +kernel))) (hts (.instantiable RJx4a65c 3) (List.mem_of_getElem? (i := 5) (by decide +kernel))) (hts (.initialized RJx4a65c) (List.mem_of_getElem? (i := 6) (by decide +kernel))) hK hI rfl jdJx4a65c (by show _ ≤ 12; omega) (by show _ ≤ 106; omega) dX6_init_5 (fun q1 H hq1 hI => ?_)
  have hw := hw q1 hq1
  refine lv_dup hx hb dX6_init_8 rfl ?_
  refine j_goz hI (va_runI (As := []) (rest := [va_rf (some q1), va_rf (some b)]) ⟨hx, hb, hml, hown, hts⟩ (kJx4a65c_init_da8c8 l hfl D z q1  (va_up μ q1 (some (.inr (2, jfJx4a65c)))) H.size _) (cwI 0 hts gX6_init_Jx4a65c_init_da8c8 rfl rfl rfl (hts (.initialized RJx4a65c) (List.mem_of_getElem? (i := 6) (by decide +kernel))) (hts (.methodLink RX6 9 yJx4a65c_init_da8c8) (List.mem_of_getElem? (i := 15) (by decide +kernel))) (hts (.instanceMethod yJx4a65c_init_da8c8) (List.mem_of_getElem? (i := 16) (by decide +kernel))) rfl (by decide +kernel) ⟨Nat.le_of_ble_eq_true rfl, Nat.le_of_ble_eq_true rfl⟩) (j_prS2z hK hG hI hw) rfl rfl hl.1 rfl (lv_room (Nat.le_of_ble_eq_true rfl)) dX6_init_9 ⟨by show _ ≤ 12; omega, by show _ ≤ 106; omega⟩) (fun u2 μ3 H locs hw hI => ?_)
  refine W.eq (g2 := F0 m 12 ls [va_rf (some q1), va_rf (some b)]) rfl ?_
  obtain ⟨μ4, hμ4, hw⟩ := hw
  refine j_putFz (C := RX6) (T := TX6) (N := 5) (ci := 9) (r := (some b)) (v := va_rf (some q1)) hx hb hfX6 tyX6 tyX6_ok nmX6 hown hK hI rfl 3 (by decide) (hts (.fieldLink RX6 10 "CashPools$Pool" "members" "Ljava/util/ArrayList;") (List.mem_of_getElem? (i := 7) (by decide +kernel))) (fun _ h => h) rfl hnm rfl (tyX6_ok 3 (by decide)) (jnr _ (some q1)) (jfr _ (some q1)) hμ4 dX6_init_12 (fun H locs hI => ?_)
  refine j_aload_n (r := (some b)) hx hb dX6_init_15 rfl (lv_at hl 0 rfl) ?_
  refine j_newz (C := RJx4a65c) (T := TJx4a65c) (N := 3) (ci := 2) (fs := jfJx4a65c) hx hb hfJx4a65c tyJx4a65c tyJx4a65c_ok hown (hts (.classLink RX6 7 RJx4a65c) (List.mem_of_getElem? (i := 4) (by decide +kernel))) (hts (.instantiable RJx4a65c 3) (List.mem_of_getElem? (i := 5) (by decide +kernel))) (hts (.initialized RJx4a65c) (List.mem_of_getElem? (i := 6) (by decide +kernel))) hK hI rfl jdJx4a65c (by show _ ≤ 12; omega) (by show _ ≤ 106; omega) dX6_init_16 (fun q5 H hq5 hI => ?_)
  have hw := hw q5 hq5
  refine lv_dup hx hb dX6_init_19 rfl ?_
  refine j_goz hI (va_runI (As := []) (rest := [va_rf (some q5), va_rf (some b)]) ⟨hx, hb, hml, hown, hts⟩ (kJx4a65c_init_da8c8 l hfl D z q5  (va_up μ4 q5 (some (.inr (2, jfJx4a65c)))) H.size _) (cwI 0 hts gX6_init_Jx4a65c_init_da8c8 rfl rfl rfl (hts (.initialized RJx4a65c) (List.mem_of_getElem? (i := 6) (by decide +kernel))) (hts (.methodLink RX6 9 yJx4a65c_init_da8c8) (List.mem_of_getElem? (i := 15) (by decide +kernel))) (hts (.instanceMethod yJx4a65c_init_da8c8) (List.mem_of_getElem? (i := 16) (by decide +kernel))) rfl (by decide +kernel) ⟨Nat.le_of_ble_eq_true rfl, Nat.le_of_ble_eq_true rfl⟩) (j_prS2z hK hG hI hw) rfl rfl hl.1 rfl (lv_room (Nat.le_of_ble_eq_true rfl)) dX6_init_20 ⟨by show _ ≤ 12; omega, by show _ ≤ 106; omega⟩) (fun u6 μ7 H locs hw hI => ?_)
  refine W.eq (g2 := F0 m 23 ls [va_rf (some q5), va_rf (some b)]) rfl ?_
  obtain ⟨μ8, hμ8, hw⟩ := hw
  refine j_putFz (C := RX6) (T := TX6) (N := 5) (ci := 9) (r := (some b)) (v := va_rf (some q5)) hx hb hfX6 tyX6 tyX6_ok nmX6 hown hK hI rfl 4 (by decide) (hts (.fieldLink RX6 16 "CashPools$Pool" "ranked" "Ljava/util/ArrayList;") (List.mem_of_getElem? (i := 8) (by decide +kernel))) (fun _ h => h) rfl hnm rfl (tyX6_ok 4 (by decide)) (jnr _ (some q5)) (jfr _ (some q5)) hμ8 dX6_init_23 (fun H locs hI => ?_)
  refine j_aload_n (r := (some b)) hx hb dX6_init_26 rfl (lv_at hl 0 rfl) ?_
  refine lv_iload_n hx hb dX6_init_27 rfl (lv_at hl 1 rfl) ?_
  obtain ⟨μ9, hμ9, hw⟩ := hw
  refine j_putFz (C := RX6) (T := TX6) (N := 5) (ci := 9) (r := (some b)) (v := .int x1) hx hb hfX6 tyX6 tyX6_ok nmX6 hown hK hI rfl 0 (by decide) (hts (.fieldLink RX6 19 "CashPools$Pool" "number" "I") (List.mem_of_getElem? (i := 9) (by decide +kernel))) (fun _ h => h) rfl hnm rfl (tyX6_ok 0 (by decide)) rfl rfl hμ9 dX6_init_28 (fun H locs hI => ?_)
  refine j_aload_n (r := (some b)) hx hb dX6_init_31 rfl (lv_at hl 0 rfl) ?_
  refine j_newz (C := RX7) (T := TX7) (N := 10) (ci := 10) (fs := jfX7) hx hb hfX7 tyX7 tyX7_ok hown (hts (.classLink RX6 23 RX7) (List.mem_of_getElem? (i := 10) (by decide +kernel))) (hts (.instantiable RX7 10) (List.mem_of_getElem? (i := 11) (by decide +kernel))) (hts (.initialized RX7) (List.mem_of_getElem? (i := 12) (by decide +kernel))) hK hI rfl jdX7 (by show _ ≤ 12; omega) (by show _ ≤ 106; omega) dX6_init_32 (fun q10 H hq10 hI => ?_)
  have hw := hw q10 hq10
  refine lv_dup hx hb dX6_init_35 rfl ?_
  refine lv_iload_n hx hb dX6_init_36 rfl (lv_at hl 2 rfl) ?_
  refine lv_iconst (v := (1)) hx hb dX6_init_37 (by decide) ?_
  refine j_goz hI (va_runI (As := [.int x2, .int (1 : Int32)]) (rest := [va_rf (some q10), va_rf (some b)]) ⟨hx, hb, hml, hown, hts⟩ (kX7_init l hfl D z q10 x2 (1 : Int32) (va_up μ9 q10 (some (.inr (10, jfX7)))) H.size _) (cwI 2 hts gX6_init_X7_init rfl rfl rfl (hts (.initialized RX7) (List.mem_of_getElem? (i := 12) (by decide +kernel))) (hts (.methodLink RX6 25 yX7_init) (List.mem_of_getElem? (i := 30) (by decide +kernel))) (hts (.instanceMethod yX7_init) (List.mem_of_getElem? (i := 31) (by decide +kernel))) rfl (by decide +kernel) ⟨Nat.le_of_ble_eq_true rfl, Nat.le_of_ble_eq_true rfl⟩) (j_prS2z hK hG hI hw) rfl rfl hl.1 rfl (lv_room (Nat.le_of_ble_eq_true rfl)) dX6_init_38 ⟨by show _ ≤ 12; omega, by show _ ≤ 106; omega⟩) (fun u11 μ12 H locs hw hI => ?_)
  refine W.eq (g2 := F0 m 41 ls [va_rf (some q10), va_rf (some b)]) rfl ?_
  obtain ⟨μ13, hμ13, hw⟩ := hw
  refine j_putFz (C := RX6) (T := TX6) (N := 5) (ci := 9) (r := (some b)) (v := va_rf (some q10)) hx hb hfX6 tyX6 tyX6_ok nmX6 hown hK hI rfl 1 (by decide) (hts (.fieldLink RX6 28 "CashPools$Pool" "credit" "LCashPools$Side;") (List.mem_of_getElem? (i := 13) (by decide +kernel))) (fun _ h => h) rfl hnm rfl (tyX6_ok 1 (by decide)) (jnr _ (some q10)) (jfr _ (some q10)) hμ13 dX6_init_41 (fun H locs hI => ?_)
  refine j_aload_n (r := (some b)) hx hb dX6_init_44 rfl (lv_at hl 0 rfl) ?_
  refine j_newz (C := RX7) (T := TX7) (N := 10) (ci := 10) (fs := jfX7) hx hb hfX7 tyX7 tyX7_ok hown (hts (.classLink RX6 23 RX7) (List.mem_of_getElem? (i := 10) (by decide +kernel))) (hts (.instantiable RX7 10) (List.mem_of_getElem? (i := 11) (by decide +kernel))) (hts (.initialized RX7) (List.mem_of_getElem? (i := 12) (by decide +kernel))) hK hI rfl jdX7 (by show _ ≤ 12; omega) (by show _ ≤ 106; omega) dX6_init_45 (fun q14 H hq14 hI => ?_)
  have hw := hw q14 hq14
  refine lv_dup hx hb dX6_init_48 rfl ?_
  refine lv_iload_n hx hb dX6_init_49 rfl (lv_at hl 3 rfl) ?_
  refine lv_iconst (v := (-1)) hx hb dX6_init_50 (by decide) ?_
  refine j_goz hI (va_runI (As := [.int x3, .int (-1 : Int32)]) (rest := [va_rf (some q14), va_rf (some b)]) ⟨hx, hb, hml, hown, hts⟩ (kX7_init l hfl D z q14 x3 (-1 : Int32) (va_up μ13 q14 (some (.inr (10, jfX7)))) H.size _) (cwI 2 hts gX6_init_X7_init rfl rfl rfl (hts (.initialized RX7) (List.mem_of_getElem? (i := 12) (by decide +kernel))) (hts (.methodLink RX6 25 yX7_init) (List.mem_of_getElem? (i := 30) (by decide +kernel))) (hts (.instanceMethod yX7_init) (List.mem_of_getElem? (i := 31) (by decide +kernel))) rfl (by decide +kernel) ⟨Nat.le_of_ble_eq_true rfl, Nat.le_of_ble_eq_true rfl⟩) (j_prS2z hK hG hI hw) rfl rfl hl.1 rfl (lv_room (Nat.le_of_ble_eq_true rfl)) dX6_init_51 ⟨by show _ ≤ 12; omega, by show _ ≤ 106; omega⟩) (fun u15 μ16 H locs hw hI => ?_)
  refine W.eq (g2 := F0 m 54 ls [va_rf (some q14), va_rf (some b)]) rfl ?_
  obtain ⟨μ17, hμ17, hw⟩ := hw
  refine j_putFz (C := RX6) (T := TX6) (N := 5) (ci := 9) (r := (some b)) (v := va_rf (some q14)) hx hb hfX6 tyX6 tyX6_ok nmX6 hown hK hI rfl 2 (by decide) (hts (.fieldLink RX6 32 "CashPools$Pool" "debit" "LCashPools$Side;") (List.mem_of_getElem? (i := 14) (by decide +kernel))) (fun _ h => h) rfl hnm rfl (tyX6_ok 2 (by decide)) (jnr _ (some q14)) (jfr _ (some q14)) hμ17 dX6_init_54 (fun H locs hI => ?_)
  exact j_vretz hx hb hr hlocks hI hw (by omega) (by omega) dX6_init_57
set_option maxHeartbeats 4000000 in
set_option maxRecDepth 100000 in
theorem kX6_init (l : Launch) (hfl : l.stackTraces = false) (D : jD) (z : Nat × Nat) (b : Nat) (x1 : Int32) (x2 : Int32) (x3 : Int32) (μ : jM) (sz : Nat) (Q : Unit → jM → Prop) : Met l yX6_init wsX6_init rmX6_init (jPre2z D z μ sz [.ref b, .int x1, .int x2, .int x3] (wX6_init z b x1 x2 x3 μ Q)) (jRz jfV Q D z (jA z μ sz)) 12 106 (jA z μ sz) := by
  refine Met.ofW (cc := cX6_init) (maxL := 4) (ret := none) (by decide) rfl ?_
  intro p e s m args below meth c s₁ B hml hv
  obtain ⟨rfl, hsz, hH, hz0, hK, hG, hw⟩ := hv
  subst hsz
  have hX : jX2 D z (jA z μ s.heap.size) p l s m _ meth c yX6_init cX6_init 4 wsX6_init none := ⟨B.exec, B.bytes, hml, findClass_of_methodNamed B.named, atoms_spec (ws := wsX6_init) B.pre, B.returns, B.notSynchronized, (name_of_methodNamed B.named B.method).1, hK, hG, hfl⟩
  obtain ⟨ls, hg, hl⟩ : ∃ ls : Array Slot, entryFrame m ([.ref b, .int x1, .int x2, .int x3] : List Value).toArray 4 = F0 m 0 ls [] ∧ lv_has ls 4 [(0, va_rf (some b)), (1, .int x1), (2, .int x2), (3, .int x3)] := by
    exact ⟨_, lg_entry_eq .., lv_entry _ (n := 4) (Nat.le_of_ble_eq_true rfl)⟩
  rw [hg]
  exact kX6_init_0 hX hw (jIz.start hH hz0) (lv_sub hl [0, 1, 2, 3] rfl) (by decide) (by decide)
set_option maxHeartbeats 4000000 in
set_option maxRecDepth 100000 in
theorem kX0_init_0 {b : Nat} (hX : jX2 D z A p l s m args meth c yX0_init cX0_init 5 wsX0_init none) {Q : Unit → jM → Prop}  {x1 : Int32} {x2 : Option Nat} {x3 : Option Nat} {x4 : Option Nat} {μ : jM} {H : Heap} {locs : List Loc} {ls : Array Slot} {cells slots : Nat} (hw : wX0_init_0 z b Q x1 x2 x3 x4 μ) (hI : jIz D z A s.heap μ H locs) (hl : lv_has ls 5 [(0, va_rf (some b)), (1, .int x1), (2, va_rf x2), (3, va_rf x3), (4, va_rf x4)]) (hcn : cells + 1 ≤ 1) (hsn : slots + 3 ≤ 3) : W p l e rmX0_init s m args below meth c H locs cells slots (MQ below (jRz jfV Q D z A) args s 1 3 A) (F0 m 0 ls []) := by
  unfold wX0_init_0 at hw
  obtain ⟨hx, hb, hml, hown, hts, hr, hlocks, hnm, hK, hG, hfl⟩ := id hX
  have hown : s.vm.findClass RX0 = some m.cls := hown
  have hfJx4a65c : ∀ w ∈ wsJx4a65c0, w.before args s = true := fun w h => hts w (List.mem_cons_of_mem _ (List.mem_append_left _ (List.mem_append_right _ h)))
  have hfX0 : ∀ w ∈ wsX00, w.before args s = true := fun w h => hts w (List.mem_cons_of_mem _ (List.mem_append_right _ h))
  refine j_aload_n (r := (some b)) hx hb dX0_init_0 rfl (lv_at hl 0 rfl) ?_
  refine W.objInit hx hb hown (hts (.methodLink RX0 1 objectInit) (List.mem_of_getElem? (i := 1) (by decide +kernel))) (hts (.instanceMethod objectInit) (List.mem_of_getElem? (i := 2) (by decide +kernel))) (hts (.code objectInit ⟨#[0xb1]⟩ 1 none) (List.mem_of_getElem? (i := 3) (by decide +kernel))) rfl (by rw [hml]; exact hl.1) rfl dX0_init_1 (Nat.le_of_ble_eq_true rfl) (Nat.le_of_ble_eq_true rfl) ?_
  refine W.eq (g2 := F0 m 4 ls []) rfl ?_
  refine j_aload_n (r := (some b)) hx hb dX0_init_4 rfl (lv_at hl 0 rfl) ?_
  refine j_newz (C := RJx4a65c) (T := TJx4a65c) (N := 3) (ci := 2) (fs := jfJx4a65c) hx hb hfJx4a65c tyJx4a65c tyJx4a65c_ok hown (hts (.classLink RX0 7 RJx4a65c) (List.mem_of_getElem? (i := 4) (by decide +kernel))) (hts (.instantiable RJx4a65c 3) (List.mem_of_getElem? (i := 5) (by decide +kernel))) (hts (.initialized RJx4a65c) (List.mem_of_getElem? (i := 6) (by decide +kernel))) hK hI rfl jdJx4a65c (by show _ ≤ 1; omega) (by show _ ≤ 3; omega) dX0_init_5 (fun q1 H hq1 hI => ?_)
  have hw := hw q1 hq1
  refine lv_dup hx hb dX0_init_8 rfl ?_
  refine j_goz hI (va_runI (As := []) (rest := [va_rf (some q1), va_rf (some b)]) ⟨hx, hb, hml, hown, hts⟩ (kJx4a65c_init_da8c8 l hfl D z q1  (va_up μ q1 (some (.inr (2, jfJx4a65c)))) H.size _) (cwI 0 hts gX0_init_Jx4a65c_init_da8c8 rfl rfl rfl (hts (.initialized RJx4a65c) (List.mem_of_getElem? (i := 6) (by decide +kernel))) (hts (.methodLink RX0 9 yJx4a65c_init_da8c8) (List.mem_of_getElem? (i := 12) (by decide +kernel))) (hts (.instanceMethod yJx4a65c_init_da8c8) (List.mem_of_getElem? (i := 13) (by decide +kernel))) rfl (by decide +kernel) ⟨Nat.le_of_ble_eq_true rfl, Nat.le_of_ble_eq_true rfl⟩) (j_prS2z hK hG hI hw) rfl rfl hl.1 rfl (lv_room (Nat.le_of_ble_eq_true rfl)) dX0_init_9 ⟨by show _ ≤ 1; omega, by show _ ≤ 3; omega⟩) (fun u2 μ3 H locs hw hI => ?_)
  refine W.eq (g2 := F0 m 12 ls [va_rf (some q1), va_rf (some b)]) rfl ?_
  obtain ⟨μ4, hμ4, hw⟩ := hw
  refine j_putFz (C := RX0) (T := TX0) (N := 12) (ci := 3) (r := (some b)) (v := va_rf (some q1)) hx hb hfX0 tyX0 tyX0_ok nmX0 hown hK hI rfl 4 (by decide) (hts (.fieldLink RX0 10 "CashPools$Account" "children" "Ljava/util/ArrayList;") (List.mem_of_getElem? (i := 7) (by decide +kernel))) (fun _ h => h) rfl hnm rfl (tyX0_ok 4 (by decide)) (jnr _ (some q1)) (jfr _ (some q1)) hμ4 dX0_init_12 (fun H locs hI => ?_)
  refine j_aload_n (r := (some b)) hx hb dX0_init_15 rfl (lv_at hl 0 rfl) ?_
  refine lv_iload_n hx hb dX0_init_16 rfl (lv_at hl 1 rfl) ?_
  obtain ⟨μ5, hμ5, hw⟩ := hw
  refine j_putFz (C := RX0) (T := TX0) (N := 12) (ci := 3) (r := (some b)) (v := .int x1) hx hb hfX0 tyX0 tyX0_ok nmX0 hown hK hI rfl 0 (by decide) (hts (.fieldLink RX0 16 "CashPools$Account" "number" "I") (List.mem_of_getElem? (i := 8) (by decide +kernel))) (fun _ h => h) rfl hnm rfl (tyX0_ok 0 (by decide)) rfl rfl hμ5 dX0_init_17 (fun H locs hI => ?_)
  refine j_aload_n (r := (some b)) hx hb dX0_init_20 rfl (lv_at hl 0 rfl) ?_
  refine j_aload_n (r := x2) hx hb dX0_init_21 rfl (lv_at hl 2 rfl) ?_
  obtain ⟨μ6, hμ6, hw⟩ := hw
  refine j_putFz (C := RX0) (T := TX0) (N := 12) (ci := 3) (r := (some b)) (v := va_rf x2) hx hb hfX0 tyX0 tyX0_ok nmX0 hown hK hI rfl 1 (by decide) (hts (.fieldLink RX0 20 "CashPools$Account" "parent" "LCashPools$Account;") (List.mem_of_getElem? (i := 9) (by decide +kernel))) (fun _ h => h) rfl hnm rfl (tyX0_ok 1 (by decide)) (jnr _ x2) (jfr _ x2) hμ6 dX0_init_22 (fun H locs hI => ?_)
  refine j_aload_n (r := (some b)) hx hb dX0_init_25 rfl (lv_at hl 0 rfl) ?_
  refine j_aload_n (r := x3) hx hb dX0_init_26 rfl (lv_at hl 3 rfl) ?_
  obtain ⟨μ7, hμ7, hw⟩ := hw
  refine j_putFz (C := RX0) (T := TX0) (N := 12) (ci := 3) (r := (some b)) (v := va_rf x3) hx hb hfX0 tyX0 tyX0_ok nmX0 hown hK hI rfl 2 (by decide) (hts (.fieldLink RX0 24 "CashPools$Account" "pool" "LCashPools$Pool;") (List.mem_of_getElem? (i := 10) (by decide +kernel))) (fun _ h => h) rfl hnm rfl (tyX0_ok 2 (by decide)) (jnr _ x3) (jfr _ x3) hμ7 dX0_init_27 (fun H locs hI => ?_)
  refine j_aload_n (r := (some b)) hx hb dX0_init_30 rfl (lv_at hl 0 rfl) ?_
  refine j_aload (r := x4) hx hb dX0_init_31 (lv_at hl 4 rfl) ?_
  obtain ⟨μ8, hμ8, hw⟩ := hw
  refine j_putFz (C := RX0) (T := TX0) (N := 12) (ci := 3) (r := (some b)) (v := va_rf x4) hx hb hfX0 tyX0 tyX0_ok nmX0 hown hK hI rfl 3 (by decide) (hts (.fieldLink RX0 28 "CashPools$Account" "bank" "LCashPools$Bank;") (List.mem_of_getElem? (i := 11) (by decide +kernel))) (fun _ h => h) rfl hnm rfl (tyX0_ok 3 (by decide)) (jnr _ x4) (jfr _ x4) hμ8 dX0_init_33 (fun H locs hI => ?_)
  exact j_vretz hx hb hr hlocks hI hw (by omega) (by omega) dX0_init_36
set_option maxHeartbeats 4000000 in
set_option maxRecDepth 100000 in
theorem kX0_init (l : Launch) (hfl : l.stackTraces = false) (D : jD) (z : Nat × Nat) (b : Nat) (x1 : Int32) (x2 : Option Nat) (x3 : Option Nat) (x4 : Option Nat) (μ : jM) (sz : Nat) (Q : Unit → jM → Prop) : Met l yX0_init wsX0_init rmX0_init (jPre2z D z μ sz [.ref b, .int x1, va_rf x2, va_rf x3, va_rf x4] (wX0_init z b x1 x2 x3 x4 μ Q)) (jRz jfV Q D z (jA z μ sz)) 1 3 (jA z μ sz) := by
  refine Met.ofW (cc := cX0_init) (maxL := 5) (ret := none) (by decide) rfl ?_
  intro p e s m args below meth c s₁ B hml hv
  obtain ⟨rfl, hsz, hH, hz0, hK, hG, hw⟩ := hv
  subst hsz
  have hX : jX2 D z (jA z μ s.heap.size) p l s m _ meth c yX0_init cX0_init 5 wsX0_init none := ⟨B.exec, B.bytes, hml, findClass_of_methodNamed B.named, atoms_spec (ws := wsX0_init) B.pre, B.returns, B.notSynchronized, (name_of_methodNamed B.named B.method).1, hK, hG, hfl⟩
  obtain ⟨ls, hg, hl⟩ : ∃ ls : Array Slot, entryFrame m ([.ref b, .int x1, va_rf x2, va_rf x3, va_rf x4] : List Value).toArray 5 = F0 m 0 ls [] ∧ lv_has ls 5 [(0, va_rf (some b)), (1, .int x1), (2, va_rf x2), (3, va_rf x3), (4, va_rf x4)] := by
    cases x2 <;> cases x3 <;> cases x4 <;> exact ⟨_, lg_entry_eq .., lv_entry _ (n := 5) (Nat.le_of_ble_eq_true rfl)⟩
  rw [hg]
  exact kX0_init_0 hX hw (jIz.start hH hz0) (lv_sub hl [0, 1, 2, 3, 4] rfl) (by decide) (by decide)
set_option maxHeartbeats 4000000 in
set_option maxRecDepth 100000 in
theorem kX3_enter_0 {b : Nat} (hX : jX2 D z A p l s m args meth c yX3_enter cX3_enter 2 wsX3_enter none) {Q : Unit → jM → Prop}  {x1 : Option Nat} {μ : jM} {H : Heap} {locs : List Loc} {ls : Array Slot} {cells slots : Nat} (hw : wX3_enter_0 z b Q x1 μ) (hI : jIz D z A s.heap μ H locs) (hl : lv_has ls 2 [(0, va_rf (some b)), (1, va_rf x1)]) (hcn : cells + 2 ≤ 2) (hsn : slots + 64 ≤ 64) : W p l e rmX3_enter s m args below meth c H locs cells slots (MQ below (jRz jfV Q D z A) args s 2 64 A) (F0 m 0 ls []) := by
  unfold wX3_enter_0 at hw
  obtain ⟨hx, hb, hml, hown, hts, hr, hlocks, hnm, hK, hG, hfl⟩ := id hX
  have hown : s.vm.findClass RX3 = some m.cls := hown
  have hfX0 : ∀ w ∈ wsX00, w.before args s = true := fun w h => hts w (List.mem_cons_of_mem _ (List.mem_append_left _ (List.mem_append_left _ (List.mem_append_right _ h))))
  have hfX3 : ∀ w ∈ wsX30, w.before args s = true := fun w h => hts w (List.mem_cons_of_mem _ (List.mem_append_left _ (List.mem_append_left _ (List.mem_append_left _ (List.mem_append_right _ h)))))
  have hfX6 : ∀ w ∈ wsX60, w.before args s = true := fun w h => hts w (List.mem_cons_of_mem _ (List.mem_append_left _ (List.mem_append_right _ h)))
  refine j_aload_n (r := (some b)) hx hb dX3_enter_0 rfl (lv_at hl 0 rfl) ?_
  obtain ⟨v1, hv1, hw⟩ := hw
  refine j_getz (C := RX3) (T := TX3) (N := 8) (ci := 6) (r := (some b)) (v := va_rf v1) hx hb hfX3 hown hK hI rfl 0 (by decide) (hts (.fieldLink RX3 12 "CashPools$Desk" "everyAccount" "Ljava/util/ArrayList;") (List.mem_of_getElem? (i := 1) (by decide +kernel))) (fun _ h => h) hv1 dX3_enter_1 ?_
  refine j_aload_n (r := x1) hx hb dX3_enter_4 rfl (lv_at hl 1 rfl) ?_
  obtain ⟨b4, ⟨hrb4, hfs⟩, hw⟩ := hw
  refine j_goz hI (va_runV (As := [va_rf x1]) (rest := []) ⟨hx, hb, hml, hown, hts⟩ (kJx4a65c_add_9ea2d l hfl D z b4 x1 μ H.size _) (cwV 1 hts gX3_enter_Jx4a65c_add_9ea2d rfl rfl rfl (by decide +kernel) ⟨Nat.le_of_ble_eq_true rfl, Nat.le_of_ble_eq_true rfl⟩) (j_prV2z hK hG hI hw (ci := 2) rfl hfs) rfl rfl hl.1 (by rw [hrb4]; rfl) (lv_room (Nat.le_of_ble_eq_true rfl)) dX3_enter_5 ⟨by show _ ≤ 2; omega, by show _ ≤ 64; omega⟩) (fun v2 μ3 H locs hw hI => ?_)
  refine W.eq (g2 := F0 m 8 ls [.int v2]) rfl ?_
  refine lv_pop hx hb dX3_enter_8 rfl ?_
  refine j_aload_n (r := x1) hx hb dX3_enter_9 rfl (lv_at hl 1 rfl) ?_
  obtain ⟨v5, hv5, hw⟩ := hw
  refine j_getz (C := RX0) (T := TX0) (N := 12) (ci := 3) (r := x1) (v := va_rf v5) hx hb hfX0 hown hK hI rfl 2 (by decide) (hts (.fieldLink RX3 64 "CashPools$Account" "pool" "LCashPools$Pool;") (List.mem_of_getElem? (i := 2) (by decide +kernel))) (fun _ h => h) hv5 dX3_enter_10 ?_
  obtain ⟨v6, hv6, hw⟩ := hw
  refine j_getz (C := RX6) (T := TX6) (N := 5) (ci := 9) (r := v5) (v := va_rf v6) hx hb hfX6 hown hK hI rfl 3 (by decide) (hts (.fieldLink RX3 71 "CashPools$Pool" "members" "Ljava/util/ArrayList;") (List.mem_of_getElem? (i := 3) (by decide +kernel))) (fun _ h => h) hv6 dX3_enter_13 ?_
  refine j_aload_n (r := x1) hx hb dX3_enter_16 rfl (lv_at hl 1 rfl) ?_
  obtain ⟨b9, ⟨hrb9, hfs⟩, hw⟩ := hw
  refine j_goz hI (va_runV (As := [va_rf x1]) (rest := []) ⟨hx, hb, hml, hown, hts⟩ (kJx4a65c_add_9ea2d l hfl D z b9 x1 μ3 H.size _) (cwV 1 hts gX3_enter_Jx4a65c_add_9ea2d rfl rfl rfl (by decide +kernel) ⟨Nat.le_of_ble_eq_true rfl, Nat.le_of_ble_eq_true rfl⟩) (j_prV2z hK hG hI hw (ci := 2) rfl hfs) rfl rfl hl.1 (by rw [hrb9]; rfl) (lv_room (Nat.le_of_ble_eq_true rfl)) dX3_enter_17 ⟨by show _ ≤ 2; omega, by show _ ≤ 64; omega⟩) (fun v7 μ8 H locs hw hI => ?_)
  refine W.eq (g2 := F0 m 20 ls [.int v7]) rfl ?_
  refine lv_pop hx hb dX3_enter_20 rfl ?_
  exact j_vretz hx hb hr hlocks hI hw (by omega) (by omega) dX3_enter_21
set_option maxHeartbeats 4000000 in
set_option maxRecDepth 100000 in
theorem kX3_enter (l : Launch) (hfl : l.stackTraces = false) (D : jD) (z : Nat × Nat) (b : Nat) (x1 : Option Nat) (μ : jM) (sz : Nat) (Q : Unit → jM → Prop) : Met l yX3_enter wsX3_enter rmX3_enter (jPre2z D z μ sz [.ref b, va_rf x1] (wX3_enter z b x1 μ Q)) (jRz jfV Q D z (jA z μ sz)) 2 64 (jA z μ sz) := by
  refine Met.ofW (cc := cX3_enter) (maxL := 2) (ret := none) (by decide) rfl ?_
  intro p e s m args below meth c s₁ B hml hv
  obtain ⟨rfl, hsz, hH, hz0, hK, hG, hw⟩ := hv
  subst hsz
  have hX : jX2 D z (jA z μ s.heap.size) p l s m _ meth c yX3_enter cX3_enter 2 wsX3_enter none := ⟨B.exec, B.bytes, hml, findClass_of_methodNamed B.named, atoms_spec (ws := wsX3_enter) B.pre, B.returns, B.notSynchronized, (name_of_methodNamed B.named B.method).1, hK, hG, hfl⟩
  obtain ⟨ls, hg, hl⟩ : ∃ ls : Array Slot, entryFrame m ([.ref b, va_rf x1] : List Value).toArray 2 = F0 m 0 ls [] ∧ lv_has ls 2 [(0, va_rf (some b)), (1, va_rf x1)] := by
    cases x1 <;> exact ⟨_, lg_entry_eq .., lv_entry _ (n := 2) (Nat.le_of_ble_eq_true rfl)⟩
  rw [hg]
  exact kX3_enter_0 hX hw (jIz.start hH hz0) (lv_sub hl [0, 1] rfl) (by decide) (by decide)
set_option maxHeartbeats 4000000 in
set_option maxRecDepth 100000 in
theorem kX3_openPool_0 {b : Nat} (hX : jX2 D z A p l s m args meth c yX3_openPool cX3_openPool 7 wsX3_openPool (some .int)) {Q : Int32 → jM → Prop}  {x1 : Option Nat} {x2 : Int32} {x3 : Int32} {μ : jM} {H : Heap} {locs : List Loc} {ls : Array Slot} {cells slots : Nat} (hw : wX3_openPool_0 z b Q x1 x2 x3 μ) (hI : jIz D z A s.heap μ H locs) (hl : lv_has ls 7 [(0, va_rf (some b)), (1, va_rf x1), (2, .int x2), (3, .int x3)]) (hcn : cells + 18 ≤ 18) (hsn : slots + 222 ≤ 222) : W p l e rmX3_openPool s m args below meth c H locs cells slots (MQ below (jRz jfI Q D z A) args s 18 222 A) (F0 m 0 ls []) := by
  unfold wX3_openPool_0 at hw
  obtain ⟨hx, hb, hml, hown, hts, hr, hlocks, hnm, hK, hG, hfl⟩ := id hX
  have hown : s.vm.findClass RX3 = some m.cls := hown
  have hfX0 : ∀ w ∈ wsX00, w.before args s = true := fun w h => hts w (List.mem_cons_of_mem _ (List.mem_append_left _ (List.mem_append_left _ (List.mem_append_right _ h))))
  have hfX3 : ∀ w ∈ wsX30, w.before args s = true := fun w h => hts w (List.mem_cons_of_mem _ (List.mem_append_left _ (List.mem_append_left _ (List.mem_append_left _ (List.mem_append_left _ (List.mem_append_right _ h))))))
  have hfX6 : ∀ w ∈ wsX60, w.before args s = true := fun w h => hts w (List.mem_cons_of_mem _ (List.mem_append_left _ (List.mem_append_left _ (List.mem_append_left _ (List.mem_append_right _ h)))))
  refine j_aload_n (r := (some b)) hx hb dX3_openPool_0 rfl (lv_at hl 0 rfl) ?_
  obtain ⟨v1, hv1, hw⟩ := hw
  refine j_getz (C := RX3) (T := TX3) (N := 8) (ci := 6) (r := (some b)) (v := va_rf v1) hx hb hfX3 hown hK hI rfl 0 (by decide) (hts (.fieldLink RX3 12 "CashPools$Desk" "everyAccount" "Ljava/util/ArrayList;") (List.mem_of_getElem? (i := 1) (by decide +kernel))) (fun _ h => h) hv1 dX3_openPool_1 ?_
  obtain ⟨b4, ⟨hrb4, hfs⟩, hw⟩ := hw
  refine j_goz hI (va_runV (As := []) (rest := []) ⟨hx, hb, hml, hown, hts⟩ (kJx4a65c_size_8abf5 l hfl D z b4  μ H.size _) (cwV 0 hts gX3_openPool_Jx4a65c_size_8abf5 rfl rfl rfl (by decide +kernel) ⟨Nat.le_of_ble_eq_true rfl, Nat.le_of_ble_eq_true rfl⟩) (j_prV2z hK hG hI hw (ci := 2) rfl hfs) rfl rfl hl.1 (by rw [hrb4]; rfl) (lv_room (Nat.le_of_ble_eq_true rfl)) dX3_openPool_4 ⟨by show _ ≤ 18; omega, by show _ ≤ 222; omega⟩) (fun v2 μ3 H locs hw hI => ?_)
  refine W.eq (g2 := F0 m 7 ls [.int v2]) rfl ?_
  refine lv_istore (lv' := [(4, .int v2), (0, va_rf (some b)), (1, va_rf x1), (2, .int x2), (3, .int x3)]) hx hb dX3_openPool_7 hl (by decide) rfl (fun ls hl => ?_)
  refine j_newz (C := RX6) (T := TX6) (N := 5) (ci := 9) (fs := jfX6) hx hb hfX6 tyX6 tyX6_ok hown (hts (.classLink RX3 50 RX6) (List.mem_of_getElem? (i := 2) (by decide +kernel))) (hts (.instantiable RX6 5) (List.mem_of_getElem? (i := 3) (by decide +kernel))) (hts (.initialized RX6) (List.mem_of_getElem? (i := 4) (by decide +kernel))) hK hI rfl jdX6 (by show _ ≤ 18; omega) (by show _ ≤ 222; omega) dX3_openPool_9 (fun q5 H hq5 hI => ?_)
  have hw := hw q5 hq5
  refine lv_dup hx hb dX3_openPool_12 rfl ?_
  refine lv_iload hx hb dX3_openPool_13 (lv_at hl 0 rfl) ?_
  refine lv_iload_n hx hb dX3_openPool_15 rfl (lv_at hl 3 rfl) ?_
  refine lv_iload_n hx hb dX3_openPool_16 rfl (lv_at hl 4 rfl) ?_
  refine j_goz hI (va_runI (As := [.int v2, .int x2, .int x3]) (rest := [va_rf (some q5)]) ⟨hx, hb, hml, hown, hts⟩ (kX6_init l hfl D z q5 v2 x2 x3 (va_up μ3 q5 (some (.inr (9, jfX6)))) H.size _) (cwI 3 hts gX3_openPool_X6_init rfl rfl rfl (hts (.initialized RX6) (List.mem_of_getElem? (i := 4) (by decide +kernel))) (hts (.methodLink RX3 52 yX6_init) (List.mem_of_getElem? (i := 15) (by decide +kernel))) (hts (.instanceMethod yX6_init) (List.mem_of_getElem? (i := 16) (by decide +kernel))) rfl (by decide +kernel) ⟨Nat.le_of_ble_eq_true rfl, Nat.le_of_ble_eq_true rfl⟩) (j_prS2z hK hG hI hw) rfl rfl hl.1 rfl (lv_room (Nat.le_of_ble_eq_true rfl)) dX3_openPool_17 ⟨by show _ ≤ 18; omega, by show _ ≤ 222; omega⟩) (fun u6 μ7 H locs hw hI => ?_)
  refine W.eq (g2 := F0 m 20 ls [va_rf (some q5)]) rfl ?_
  refine j_astore (r := (some q5)) (lv' := [(5, va_rf (some q5)), (4, .int v2), (0, va_rf (some b)), (1, va_rf x1), (2, .int x2), (3, .int x3)]) hx hb dX3_openPool_20 hl (by decide) rfl (fun ls hl => ?_)
  refine j_newz (C := RX0) (T := TX0) (N := 12) (ci := 3) (fs := jfX0) hx hb hfX0 tyX0 tyX0_ok hown (hts (.classLink RX3 55 RX0) (List.mem_of_getElem? (i := 5) (by decide +kernel))) (hts (.instantiable RX0 12) (List.mem_of_getElem? (i := 6) (by decide +kernel))) (hts (.initialized RX0) (List.mem_of_getElem? (i := 7) (by decide +kernel))) hK hI rfl jdX0 (by show _ ≤ 18; omega) (by show _ ≤ 222; omega) dX3_openPool_22 (fun q8 H hq8 hI => ?_)
  have hw := hw q8 hq8
  refine lv_dup hx hb dX3_openPool_25 rfl ?_
  refine lv_iload hx hb dX3_openPool_26 (lv_at hl 1 rfl) ?_
  refine j_null hx hb dX3_openPool_28 ?_
  refine j_aload (r := (some q5)) hx hb dX3_openPool_29 (lv_at hl 0 rfl) ?_
  refine j_aload_n (r := x1) hx hb dX3_openPool_31 rfl (lv_at hl 3 rfl) ?_
  refine j_goz hI (va_runI (As := [.int v2, va_rf none, va_rf (some q5), va_rf x1]) (rest := [va_rf (some q8)]) ⟨hx, hb, hml, hown, hts⟩ (kX0_init l hfl D z q8 v2 none (some q5) x1 (va_up μ7 q8 (some (.inr (3, jfX0)))) H.size _) (cwI 4 hts gX3_openPool_X0_init rfl rfl rfl (hts (.initialized RX0) (List.mem_of_getElem? (i := 7) (by decide +kernel))) (hts (.methodLink RX3 57 yX0_init) (List.mem_of_getElem? (i := 57) (by decide +kernel))) (hts (.instanceMethod yX0_init) (List.mem_of_getElem? (i := 58) (by decide +kernel))) rfl (by decide +kernel) ⟨Nat.le_of_ble_eq_true rfl, Nat.le_of_ble_eq_true rfl⟩) (j_prS2z hK hG hI hw) rfl rfl hl.1 rfl (lv_room (Nat.le_of_ble_eq_true rfl)) dX3_openPool_32 ⟨by show _ ≤ 18; omega, by show _ ≤ 222; omega⟩) (fun u9 μ10 H locs hw hI => ?_)
  refine W.eq (g2 := F0 m 35 ls [va_rf (some q8)]) rfl ?_
  refine j_astore (r := (some q8)) (lv' := [(6, va_rf (some q8)), (5, va_rf (some q5)), (4, .int v2), (0, va_rf (some b)), (1, va_rf x1), (2, .int x2), (3, .int x3)]) hx hb dX3_openPool_35 hl (by decide) rfl (fun ls hl => ?_)
  refine j_aload_n (r := (some b)) hx hb dX3_openPool_37 rfl (lv_at hl 3 rfl) ?_
  obtain ⟨v11, hv11, hw⟩ := hw
  refine j_getz (C := RX3) (T := TX3) (N := 8) (ci := 6) (r := (some b)) (v := va_rf v11) hx hb hfX3 hown hK hI rfl 1 (by decide) (hts (.fieldLink RX3 18 "CashPools$Desk" "tops" "Ljava/util/ArrayList;") (List.mem_of_getElem? (i := 8) (by decide +kernel))) (fun _ h => h) hv11 dX3_openPool_38 ?_
  refine j_aload (r := (some q8)) hx hb dX3_openPool_41 (lv_at hl 0 rfl) ?_
  obtain ⟨b14, ⟨hrb14, hfs⟩, hw⟩ := hw
  refine j_goz hI (va_runV (As := [va_rf (some q8)]) (rest := []) ⟨hx, hb, hml, hown, hts⟩ (kJx4a65c_add_9ea2d l hfl D z b14 (some q8) μ10 H.size _) (cwV 1 hts gX3_openPool_Jx4a65c_add_9ea2d rfl rfl rfl (by decide +kernel) ⟨Nat.le_of_ble_eq_true rfl, Nat.le_of_ble_eq_true rfl⟩) (j_prV2z hK hG hI hw (ci := 2) rfl hfs) rfl rfl hl.1 (by rw [hrb14]; rfl) (lv_room (Nat.le_of_ble_eq_true rfl)) dX3_openPool_43 ⟨by show _ ≤ 18; omega, by show _ ≤ 222; omega⟩) (fun v12 μ13 H locs hw hI => ?_)
  refine W.eq (g2 := F0 m 46 ls [.int v12]) rfl ?_
  refine lv_pop hx hb dX3_openPool_46 rfl ?_
  refine j_aload_n (r := (some b)) hx hb dX3_openPool_47 rfl (lv_at hl 3 rfl) ?_
  refine j_aload (r := (some q8)) hx hb dX3_openPool_48 (lv_at hl 0 rfl) ?_
  obtain ⟨hfs, hw⟩ := hw
  refine j_goz hI (va_runV (As := [va_rf (some q8)]) (rest := []) ⟨hx, hb, hml, hown, hts⟩ (kX3_enter l hfl D z b (some q8) μ13 H.size _) (cwV 1 hts gX3_openPool_X3_enter rfl rfl rfl (by decide +kernel) ⟨Nat.le_of_ble_eq_true rfl, Nat.le_of_ble_eq_true rfl⟩) (j_prV2z hK hG hI hw (ci := 6) rfl hfs) rfl rfl hl.1 rfl (lv_room (Nat.le_of_ble_eq_true rfl)) dX3_openPool_50 ⟨by show _ ≤ 18; omega, by show _ ≤ 222; omega⟩) (fun u15 μ16 H locs hw hI => ?_)
  refine W.eq (g2 := F0 m 53 ls []) rfl ?_
  refine lv_iload hx hb dX3_openPool_53 (lv_at hl 2 rfl) ?_
  exact j_iretz hx hb hr hlocks hI hw (by omega) (by omega) dX3_openPool_55
set_option maxHeartbeats 4000000 in
set_option maxRecDepth 100000 in
theorem kX3_openPool (l : Launch) (hfl : l.stackTraces = false) (D : jD) (z : Nat × Nat) (b : Nat) (x1 : Option Nat) (x2 : Int32) (x3 : Int32) (μ : jM) (sz : Nat) (Q : Int32 → jM → Prop) : Met l yX3_openPool wsX3_openPool rmX3_openPool (jPre2z D z μ sz [.ref b, va_rf x1, .int x2, .int x3] (wX3_openPool z b x1 x2 x3 μ Q)) (jRz jfI Q D z (jA z μ sz)) 18 222 (jA z μ sz) := by
  refine Met.ofW (cc := cX3_openPool) (maxL := 7) (ret := (some .int)) (by decide) rfl ?_
  intro p e s m args below meth c s₁ B hml hv
  obtain ⟨rfl, hsz, hH, hz0, hK, hG, hw⟩ := hv
  subst hsz
  have hX : jX2 D z (jA z μ s.heap.size) p l s m _ meth c yX3_openPool cX3_openPool 7 wsX3_openPool (some .int) := ⟨B.exec, B.bytes, hml, findClass_of_methodNamed B.named, atoms_spec (ws := wsX3_openPool) B.pre, B.returns, B.notSynchronized, (name_of_methodNamed B.named B.method).1, hK, hG, hfl⟩
  obtain ⟨ls, hg, hl⟩ : ∃ ls : Array Slot, entryFrame m ([.ref b, va_rf x1, .int x2, .int x3] : List Value).toArray 7 = F0 m 0 ls [] ∧ lv_has ls 7 [(0, va_rf (some b)), (1, va_rf x1), (2, .int x2), (3, .int x3)] := by
    cases x1 <;> exact ⟨_, lg_entry_eq .., lv_entry _ (n := 7) (Nat.le_of_ble_eq_true rfl)⟩
  rw [hg]
  exact kX3_openPool_0 hX hw (jIz.start hH hz0) (lv_sub hl [0, 1, 2, 3] rfl) (by decide) (by decide)
set_option maxHeartbeats 4000000 in
set_option maxRecDepth 100000 in
theorem kX9_addPool_0 {b : Nat} (hX : jX2 D z A p l s m args meth c yX9_addPool cX9_addPool 5 wsX9_addPool (some .int)) {Q : Int32 → jM → Prop}  {x1 : Int32} {x2 : Int32} {x3 : Int32} {μ : jM} {H : Heap} {locs : List Loc} {ls : Array Slot} {cells slots : Nat} (hw : wX9_addPool_0 z b Q jN x1 x2 x3 μ) (hI : jIz D z A s.heap μ H locs) (hl : lv_has ls 5 [(0, va_rf (some b)), (1, .int x1), (2, .int x2), (3, .int x3)]) (hcn : cells + 18 ≤ 18) (hsn : slots + 222 ≤ 222) : W p l e rmX9_addPool s m args below meth c H locs cells slots (MQ below (jRz jfI Q D z A) args s 18 222 A) (F0 m 0 ls []) := by
  unfold wX9_addPool_0 at hw
  obtain ⟨hx, hb, hml, hown, hts, hr, hlocks, hnm, hK, hG, hfl⟩ := id hX
  have hown : s.vm.findClass RX9 = some m.cls := hown
  have hfX9 : ∀ w ∈ wsX90, w.before args s = true := fun w h => hts w (List.mem_cons_of_mem _ (List.mem_append_left _ (List.mem_append_left _ (List.mem_append_left _ (List.mem_append_left _ (List.mem_append_left _ (List.mem_append_left _ (List.mem_append_left _ (List.mem_append_right _ h)))))))))
  refine j_aload_n (r := (some b)) hx hb dX9_addPool_0 rfl (lv_at hl 0 rfl) ?_
  refine lv_iload_n hx hb dX9_addPool_1 rfl (lv_at hl 1 rfl) ?_
  obtain ⟨hfs, hw⟩ := hw
  refine j_goz hI (va_runV (As := [.int x1]) (rest := []) ⟨hx, hb, hml, hown, hts⟩ (kX9_bankAt l hfl D z b x1 μ H.size _) (cwV 1 hts gX9_addPool_X9_bankAt rfl rfl rfl (by decide +kernel) ⟨Nat.le_of_ble_eq_true rfl, Nat.le_of_ble_eq_true rfl⟩) (j_prV2z hK hG hI hw (ci := 11) rfl hfs) rfl rfl hl.1 rfl (lv_room (Nat.le_of_ble_eq_true rfl)) dX9_addPool_2 ⟨by show _ ≤ 18; omega, by show _ ≤ 222; omega⟩) (fun v1 μ2 H locs hw hI => ?_)
  refine W.eq (g2 := F0 m 5 ls [va_rf v1]) rfl ?_
  refine j_astore (r := v1) (lv' := [(4, va_rf v1), (0, va_rf (some b)), (1, .int x1), (2, .int x2), (3, .int x3)]) hx hb dX9_addPool_5 hl (by decide) rfl (fun ls hl => ?_)
  refine lv_iload_n hx hb dX9_addPool_7 rfl (lv_at hl 3 rfl) ?_
  refine lv_iconst (v := (0)) hx hb dX9_addPool_8 (by decide) ?_
  refine lv_sipush (v := (1000)) hx hb dX9_addPool_9 (by decide) ?_
  refine j_goz hI (va_runS (As := [.int x2, .int (0 : Int32), .int (1000 : Int32)]) (rest := []) ⟨hx, hb, hml, hown, hts⟩ (kX9_requireWithin l hfl D z x2 (0 : Int32) (1000 : Int32) μ2 H.size _) (va_cwS 3 hts gX9_addPool_X9_requireWithin rfl rfl rfl (by decide +kernel) ⟨Nat.le_of_ble_eq_true rfl, Nat.le_of_ble_eq_true rfl⟩) (j_prS2z hK hG hI hw) rfl rfl hl.1 rfl (lv_room (Nat.le_of_ble_eq_true rfl)) dX9_addPool_12 ⟨by show _ ≤ 18; omega, by show _ ≤ 222; omega⟩) (fun u3 μ4 H locs hw hI => ?_)
  refine W.eq (g2 := F0 m 15 ls []) rfl ?_
  refine lv_iload_n hx hb dX9_addPool_15 rfl (lv_at hl 4 rfl) ?_
  refine lv_iconst (v := (0)) hx hb dX9_addPool_16 (by decide) ?_
  refine lv_sipush (v := (1000)) hx hb dX9_addPool_17 (by decide) ?_
  refine j_goz hI (va_runS (As := [.int x3, .int (0 : Int32), .int (1000 : Int32)]) (rest := []) ⟨hx, hb, hml, hown, hts⟩ (kX9_requireWithin l hfl D z x3 (0 : Int32) (1000 : Int32) μ4 H.size _) (va_cwS 3 hts gX9_addPool_X9_requireWithin rfl rfl rfl (by decide +kernel) ⟨Nat.le_of_ble_eq_true rfl, Nat.le_of_ble_eq_true rfl⟩) (j_prS2z hK hG hI hw) rfl rfl hl.1 rfl (lv_room (Nat.le_of_ble_eq_true rfl)) dX9_addPool_20 ⟨by show _ ≤ 18; omega, by show _ ≤ 222; omega⟩) (fun u5 μ6 H locs hw hI => ?_)
  refine W.eq (g2 := F0 m 23 ls []) rfl ?_
  refine j_aload_n (r := (some b)) hx hb dX9_addPool_23 rfl (lv_at hl 1 rfl) ?_
  obtain ⟨hfs, hw⟩ := hw
  refine j_goz hI (va_runV (As := []) (rest := []) ⟨hx, hb, hml, hown, hts⟩ (kX9_requireAccountLeft l hfl D z b  μ6 H.size _) (cwV 0 hts gX9_addPool_X9_requireAccountLeft rfl rfl rfl (by decide +kernel) ⟨Nat.le_of_ble_eq_true rfl, Nat.le_of_ble_eq_true rfl⟩) (j_prV2z hK hG hI hw (ci := 11) rfl hfs) rfl rfl hl.1 rfl (lv_room (Nat.le_of_ble_eq_true rfl)) dX9_addPool_24 ⟨by show _ ≤ 18; omega, by show _ ≤ 222; omega⟩) (fun u7 μ8 H locs hw hI => ?_)
  refine W.eq (g2 := F0 m 27 ls []) rfl ?_
  refine j_aload_n (r := (some b)) hx hb dX9_addPool_27 rfl (lv_at hl 1 rfl) ?_
  obtain ⟨v9, hv9, hw⟩ := hw
  refine j_getz (C := RX9) (T := TX9) (N := 1) (ci := 11) (r := (some b)) (v := va_rf v9) hx hb hfX9 hown hK hI rfl 0 (by decide) (hts (.fieldLink RX9 10 "CashPools" "desk" "LCashPools$Desk;") (List.mem_of_getElem? (i := 1) (by decide +kernel))) (fun _ h => h) hv9 dX9_addPool_28 ?_
  refine j_aload (r := v1) hx hb dX9_addPool_31 (lv_at hl 0 rfl) ?_
  refine lv_iload_n hx hb dX9_addPool_33 rfl (lv_at hl 3 rfl) ?_
  refine lv_iload_n hx hb dX9_addPool_34 rfl (lv_at hl 4 rfl) ?_
  obtain ⟨b12, ⟨hrb12, hfs⟩, hw⟩ := hw
  refine j_goz hI (va_runV (As := [va_rf v1, .int x2, .int x3]) (rest := []) ⟨hx, hb, hml, hown, hts⟩ (kX3_openPool l hfl D z b12 v1 x2 x3 μ8 H.size _) (cwV 3 hts gX9_addPool_X3_openPool rfl rfl rfl (by decide +kernel) ⟨Nat.le_of_ble_eq_true rfl, Nat.le_of_ble_eq_true rfl⟩) (j_prV2z hK hG hI hw (ci := 6) rfl hfs) rfl rfl hl.1 (by rw [hrb12]; rfl) (lv_room (Nat.le_of_ble_eq_true rfl)) dX9_addPool_35 ⟨by show _ ≤ 18; omega, by show _ ≤ 222; omega⟩) (fun v10 μ11 H locs hw hI => ?_)
  refine W.eq (g2 := F0 m 38 ls [.int v10]) rfl ?_
  exact j_iretz hx hb hr hlocks hI hw (by omega) (by omega) dX9_addPool_38
set_option maxHeartbeats 4000000 in
set_option maxRecDepth 100000 in
theorem kX9_addPool (l : Launch) (hfl : l.stackTraces = false) (D : jD) (z : Nat × Nat) (b : Nat) (x1 : Int32) (x2 : Int32) (x3 : Int32) (μ : jM) (sz : Nat) (Q : Int32 → jM → Prop) : Met l yX9_addPool wsX9_addPool rmX9_addPool (jPre2z D z μ sz [.ref b, .int x1, .int x2, .int x3] (wX9_addPool z b x1 x2 x3 μ Q jN)) (jRz jfI Q D z (jA z μ sz)) 18 222 (jA z μ sz) := by
  refine Met.ofW (cc := cX9_addPool) (maxL := 5) (ret := (some .int)) (by decide) rfl ?_
  intro p e s m args below meth c s₁ B hml hv
  obtain ⟨rfl, hsz, hH, hz0, hK, hG, hw⟩ := hv
  subst hsz
  have hX : jX2 D z (jA z μ s.heap.size) p l s m _ meth c yX9_addPool cX9_addPool 5 wsX9_addPool (some .int) := ⟨B.exec, B.bytes, hml, findClass_of_methodNamed B.named, atoms_spec (ws := wsX9_addPool) B.pre, B.returns, B.notSynchronized, (name_of_methodNamed B.named B.method).1, hK, hG, hfl⟩
  obtain ⟨ls, hg, hl⟩ : ∃ ls : Array Slot, entryFrame m ([.ref b, .int x1, .int x2, .int x3] : List Value).toArray 5 = F0 m 0 ls [] ∧ lv_has ls 5 [(0, va_rf (some b)), (1, .int x1), (2, .int x2), (3, .int x3)] := by
    exact ⟨_, lg_entry_eq .., lv_entry _ (n := 5) (Nat.le_of_ble_eq_true rfl)⟩
  rw [hg]
  exact kX9_addPool_0 hX hw (jIz.start hH hz0) (lv_sub hl [0, 1, 2, 3] rfl) (by decide) (by decide)
set_option maxHeartbeats 4000000 in
set_option maxRecDepth 100000 in
theorem kX9_accountAt_0 {b : Nat} (hX : jX2 D z A p l s m args meth c yX9_accountAt cX9_accountAt 2 wsX9_accountAt (some (.object "CashPools$Account"))) {Q : Option Nat → jM → Prop}  {x1 : Int32} {μ : jM} {H : Heap} {locs : List Loc} {ls : Array Slot} {cells slots : Nat} (hw : wX9_accountAt_0 z b Q jN x1 μ) (hI : jIz D z A s.heap μ H locs) (hl : lv_has ls 2 [(0, va_rf (some b)), (1, .int x1)]) (hcn : cells + 0 ≤ 0) (hsn : slots + 0 ≤ 0) : W p l e rmX9_accountAt s m args below meth c H locs cells slots (MQ below (jRz jfR Q D z A) args s 0 0 A) (F0 m 0 ls []) := by
  unfold wX9_accountAt_0 at hw
  obtain ⟨hx, hb, hml, hown, hts, hr, hlocks, hnm, hK, hG, hfl⟩ := id hX
  have hown : s.vm.findClass RX9 = some m.cls := hown
  have hfX3 : ∀ w ∈ wsX30, w.before args s = true := fun w h => hts w (List.mem_cons_of_mem _ (List.mem_append_left _ (List.mem_append_left _ (List.mem_append_right _ h))))
  have hfX9 : ∀ w ∈ wsX90, w.before args s = true := fun w h => hts w (List.mem_cons_of_mem _ (List.mem_append_left _ (List.mem_append_left _ (List.mem_append_left _ (List.mem_append_right _ h)))))
  refine lv_iload_n hx hb dX9_accountAt_0 rfl (lv_at hl 1 rfl) ?_
  refine lv_if_lt (tgt := 18) hx hb dX9_accountAt_1 (by decide) (fun hc => ?_) (fun hc => ?_)
  · have hw := hw.1 hc
    exact (show False from hw).elim
  · have hw := hw.2 hc
    refine lv_iload_n hx hb dX9_accountAt_4 rfl (lv_at hl 1 rfl) ?_
    refine j_aload_n (r := (some b)) hx hb dX9_accountAt_5 rfl (lv_at hl 0 rfl) ?_
    obtain ⟨v1, hv1, hw⟩ := hw
    refine j_getz (C := RX9) (T := TX9) (N := 1) (ci := 11) (r := (some b)) (v := va_rf v1) hx hb hfX9 hown hK hI rfl 0 (by decide) (hts (.fieldLink RX9 10 "CashPools" "desk" "LCashPools$Desk;") (List.mem_of_getElem? (i := 3) (by decide +kernel))) (fun _ h => h) hv1 dX9_accountAt_6 ?_
    obtain ⟨v2, hv2, hw⟩ := hw
    refine j_getz (C := RX3) (T := TX3) (N := 8) (ci := 6) (r := v1) (v := va_rf v2) hx hb hfX3 hown hK hI rfl 0 (by decide) (hts (.fieldLink RX9 148 "CashPools$Desk" "everyAccount" "Ljava/util/ArrayList;") (List.mem_of_getElem? (i := 4) (by decide +kernel))) (fun _ h => h) hv2 dX9_accountAt_9 ?_
    obtain ⟨b5, ⟨hrb5, hfs⟩, hw⟩ := hw
    refine j_goz hI (va_runV (As := []) (rest := [.int x1]) ⟨hx, hb, hml, hown, hts⟩ (kJx4a65c_size_8abf5 l hfl D z b5  μ H.size _) (cwV 0 hts gX9_accountAt_Jx4a65c_size_8abf5 rfl rfl rfl (by decide +kernel) ⟨Nat.le_of_ble_eq_true rfl, Nat.le_of_ble_eq_true rfl⟩) (j_prV2z hK hG hI hw (ci := 2) rfl hfs) rfl rfl hl.1 (by rw [hrb5]; rfl) (lv_room (Nat.le_of_ble_eq_true rfl)) dX9_accountAt_12 ⟨by show _ ≤ 0; omega, by show _ ≤ 0; omega⟩) (fun v3 μ4 H locs hw hI => ?_)
    refine W.eq (g2 := F0 m 15 ls [.int v3, .int x1]) rfl ?_
    refine lv_icmp_lt (tgt := 28) hx hb dX9_accountAt_15 (by decide) (fun hc => ?_) (fun hc => ?_)
    · have hw := hw.1 hc
      refine j_aload_n (r := (some b)) hx hb dX9_accountAt_28 rfl (lv_at hl 0 rfl) ?_
      obtain ⟨v6, hv6, hw⟩ := hw
      refine j_getz (C := RX9) (T := TX9) (N := 1) (ci := 11) (r := (some b)) (v := va_rf v6) hx hb hfX9 hown hK hI rfl 0 (by decide) (hts (.fieldLink RX9 10 "CashPools" "desk" "LCashPools$Desk;") (List.mem_of_getElem? (i := 3) (by decide +kernel))) (fun _ h => h) hv6 dX9_accountAt_29 ?_
      obtain ⟨v7, hv7, hw⟩ := hw
      refine j_getz (C := RX3) (T := TX3) (N := 8) (ci := 6) (r := v6) (v := va_rf v7) hx hb hfX3 hown hK hI rfl 0 (by decide) (hts (.fieldLink RX9 148 "CashPools$Desk" "everyAccount" "Ljava/util/ArrayList;") (List.mem_of_getElem? (i := 4) (by decide +kernel))) (fun _ h => h) hv7 dX9_accountAt_32 ?_
      refine lv_iload_n hx hb dX9_accountAt_35 rfl (lv_at hl 1 rfl) ?_
      obtain ⟨b10, ⟨hrb10, hfs⟩, hw⟩ := hw
      refine j_goz hI (va_runV (As := [.int x1]) (rest := []) ⟨hx, hb, hml, hown, hts⟩ (kJx4a65c_get_915e3 l hfl D z b10 x1 μ4 H.size _) (cwV 1 hts gX9_accountAt_Jx4a65c_get_915e3 rfl rfl rfl (by decide +kernel) ⟨Nat.le_of_ble_eq_true rfl, Nat.le_of_ble_eq_true rfl⟩) (j_prV2z hK hG hI hw (ci := 2) rfl hfs) rfl rfl hl.1 (by rw [hrb10]; rfl) (lv_room (Nat.le_of_ble_eq_true rfl)) dX9_accountAt_36 ⟨by show _ ≤ 0; omega, by show _ ≤ 0; omega⟩) (fun v8 μ9 H locs hw hI => ?_)
      refine W.eq (g2 := F0 m 39 ls [va_rf v8]) rfl ?_
      obtain ⟨h11, hw⟩ := hw
      refine j_castz (C := RX0) (T := TX0) (N := 12) (ci := 3) (r := v8) hx hb hown (hts (.classLink RX9 42 "CashPools$Account") (List.mem_of_getElem? (i := 5) (by decide +kernel))) hK hI rfl h11 dX9_accountAt_39 ?_
      exact j_aretz (v := v8) hx hb hr (Or.inl ⟨_, rfl⟩) hlocks hI hw (by omega) (by omega) dX9_accountAt_42
    · have hw := hw.2 hc
      exact (show False from hw).elim
set_option maxHeartbeats 4000000 in
set_option maxRecDepth 100000 in
theorem kX9_accountAt (l : Launch) (hfl : l.stackTraces = false) (D : jD) (z : Nat × Nat) (b : Nat) (x1 : Int32) (μ : jM) (sz : Nat) (Q : Option Nat → jM → Prop) : Met l yX9_accountAt wsX9_accountAt rmX9_accountAt (jPre2z D z μ sz [.ref b, .int x1] (wX9_accountAt z b x1 μ Q jN)) (jRz jfR Q D z (jA z μ sz)) 0 0 (jA z μ sz) := by
  refine Met.ofW (cc := cX9_accountAt) (maxL := 2) (ret := (some (.object "CashPools$Account"))) (by decide) rfl ?_
  intro p e s m args below meth c s₁ B hml hv
  obtain ⟨rfl, hsz, hH, hz0, hK, hG, hw⟩ := hv
  subst hsz
  have hX : jX2 D z (jA z μ s.heap.size) p l s m _ meth c yX9_accountAt cX9_accountAt 2 wsX9_accountAt (some (.object "CashPools$Account")) := ⟨B.exec, B.bytes, hml, findClass_of_methodNamed B.named, atoms_spec (ws := wsX9_accountAt) B.pre, B.returns, B.notSynchronized, (name_of_methodNamed B.named B.method).1, hK, hG, hfl⟩
  obtain ⟨ls, hg, hl⟩ : ∃ ls : Array Slot, entryFrame m ([.ref b, .int x1] : List Value).toArray 2 = F0 m 0 ls [] ∧ lv_has ls 2 [(0, va_rf (some b)), (1, .int x1)] := by
    exact ⟨_, lg_entry_eq .., lv_entry _ (n := 2) (Nat.le_of_ble_eq_true rfl)⟩
  rw [hg]
  exact kX9_accountAt_0 hX hw (jIz.start hH hz0) (lv_sub hl [0, 1] rfl) (by decide) (by decide)
set_option maxHeartbeats 4000000 in
set_option maxRecDepth 100000 in
theorem kX3_openAccount_0 {b : Nat} (hX : jX2 D z A p l s m args meth c yX3_openAccount cX3_openAccount 5 wsX3_openAccount (some .int)) {Q : Int32 → jM → Prop}  {x1 : Option Nat} {x2 : Option Nat} {μ : jM} {H : Heap} {locs : List Loc} {ls : Array Slot} {cells slots : Nat} (hw : wX3_openAccount_0 z b Q x1 x2 μ) (hI : jIz D z A s.heap μ H locs) (hl : lv_has ls 5 [(0, va_rf (some b)), (1, va_rf x1), (2, va_rf x2)]) (hcn : cells + 5 ≤ 5) (hsn : slots + 111 ≤ 111) : W p l e rmX3_openAccount s m args below meth c H locs cells slots (MQ below (jRz jfI Q D z A) args s 5 111 A) (F0 m 0 ls []) := by
  unfold wX3_openAccount_0 at hw
  obtain ⟨hx, hb, hml, hown, hts, hr, hlocks, hnm, hK, hG, hfl⟩ := id hX
  have hown : s.vm.findClass RX3 = some m.cls := hown
  have hfX0 : ∀ w ∈ wsX00, w.before args s = true := fun w h => hts w (List.mem_cons_of_mem _ (List.mem_append_left _ (List.mem_append_left _ (List.mem_append_right _ h))))
  have hfX3 : ∀ w ∈ wsX30, w.before args s = true := fun w h => hts w (List.mem_cons_of_mem _ (List.mem_append_left _ (List.mem_append_left _ (List.mem_append_left _ (List.mem_append_right _ h)))))
  refine j_aload_n (r := (some b)) hx hb dX3_openAccount_0 rfl (lv_at hl 0 rfl) ?_
  obtain ⟨v1, hv1, hw⟩ := hw
  refine j_getz (C := RX3) (T := TX3) (N := 8) (ci := 6) (r := (some b)) (v := va_rf v1) hx hb hfX3 hown hK hI rfl 0 (by decide) (hts (.fieldLink RX3 12 "CashPools$Desk" "everyAccount" "Ljava/util/ArrayList;") (List.mem_of_getElem? (i := 1) (by decide +kernel))) (fun _ h => h) hv1 dX3_openAccount_1 ?_
  obtain ⟨b4, ⟨hrb4, hfs⟩, hw⟩ := hw
  refine j_goz hI (va_runV (As := []) (rest := []) ⟨hx, hb, hml, hown, hts⟩ (kJx4a65c_size_8abf5 l hfl D z b4  μ H.size _) (cwV 0 hts gX3_openAccount_Jx4a65c_size_8abf5 rfl rfl rfl (by decide +kernel) ⟨Nat.le_of_ble_eq_true rfl, Nat.le_of_ble_eq_true rfl⟩) (j_prV2z hK hG hI hw (ci := 2) rfl hfs) rfl rfl hl.1 (by rw [hrb4]; rfl) (lv_room (Nat.le_of_ble_eq_true rfl)) dX3_openAccount_4 ⟨by show _ ≤ 5; omega, by show _ ≤ 111; omega⟩) (fun v2 μ3 H locs hw hI => ?_)
  refine W.eq (g2 := F0 m 7 ls [.int v2]) rfl ?_
  refine j_istore_nA (r := x2) (F := fun w => [(0, va_rf (some b)), (1, va_rf x1), (2, w)]) (F2 := fun w => [(3, .int v2), (0, va_rf (some b)), (1, va_rf x1), (2, w)]) hx hb dX3_openAccount_7 rfl hl (by decide) (fun w hw => by rcases hw with rfl | ⟨_, rfl⟩ <;> rfl) (fun ls hl => ?_)
  refine j_newz (C := RX0) (T := TX0) (N := 12) (ci := 3) (fs := jfX0) hx hb hfX0 tyX0 tyX0_ok hown (hts (.classLink RX3 55 RX0) (List.mem_of_getElem? (i := 2) (by decide +kernel))) (hts (.instantiable RX0 12) (List.mem_of_getElem? (i := 3) (by decide +kernel))) (hts (.initialized RX0) (List.mem_of_getElem? (i := 4) (by decide +kernel))) hK hI rfl jdX0 (by show _ ≤ 5; omega) (by show _ ≤ 111; omega) dX3_openAccount_8 (fun q5 H hq5 hI => ?_)
  have hw := hw q5 hq5
  refine lv_dup hx hb dX3_openAccount_11 rfl ?_
  refine lv_iload_n hx hb dX3_openAccount_12 rfl (lv_at hl 0 rfl) ?_
  refine j_aload_n (r := x1) hx hb dX3_openAccount_13 rfl (lv_at hl 2 rfl) ?_
  refine j_aload_n (r := x1) hx hb dX3_openAccount_14 rfl (lv_at hl 2 rfl) ?_
  obtain ⟨v6, hv6, hw⟩ := hw
  refine j_getz (C := RX0) (T := TX0) (N := 12) (ci := 3) (r := x1) (v := va_rf v6) hx hb hfX0 hown hK hI rfl 2 (by decide) (hts (.fieldLink RX3 64 "CashPools$Account" "pool" "LCashPools$Pool;") (List.mem_of_getElem? (i := 5) (by decide +kernel))) (fun _ h => h) hv6 dX3_openAccount_15 ?_
  refine j_aload_n (r := x2) hx hb dX3_openAccount_18 rfl (lv_at hl 3 rfl) ?_
  refine j_goz hI (va_runI (As := [.int v2, va_rf x1, va_rf v6, va_rf x2]) (rest := [va_rf (some q5)]) ⟨hx, hb, hml, hown, hts⟩ (kX0_init l hfl D z q5 v2 x1 v6 x2 (va_up μ3 q5 (some (.inr (3, jfX0)))) H.size _) (cwI 4 hts gX3_openAccount_X0_init rfl rfl rfl (hts (.initialized RX0) (List.mem_of_getElem? (i := 4) (by decide +kernel))) (hts (.methodLink RX3 57 yX0_init) (List.mem_of_getElem? (i := 13) (by decide +kernel))) (hts (.instanceMethod yX0_init) (List.mem_of_getElem? (i := 14) (by decide +kernel))) rfl (by decide +kernel) ⟨Nat.le_of_ble_eq_true rfl, Nat.le_of_ble_eq_true rfl⟩) (j_prS2z hK hG hI hw) rfl rfl hl.1 rfl (lv_room (Nat.le_of_ble_eq_true rfl)) dX3_openAccount_19 ⟨by show _ ≤ 5; omega, by show _ ≤ 111; omega⟩) (fun u7 μ8 H locs hw hI => ?_)
  refine W.eq (g2 := F0 m 22 ls [va_rf (some q5)]) rfl ?_
  refine j_astore (r := (some q5)) (lv' := [(4, va_rf (some q5)), (3, .int v2), (0, va_rf (some b)), (1, va_rf x1), (2, va_rf x2)]) hx hb dX3_openAccount_22 hl (by decide) rfl (fun ls hl => ?_)
  refine j_aload_n (r := x1) hx hb dX3_openAccount_24 rfl (lv_at hl 3 rfl) ?_
  obtain ⟨v9, hv9, hw⟩ := hw
  refine j_getz (C := RX0) (T := TX0) (N := 12) (ci := 3) (r := x1) (v := va_rf v9) hx hb hfX0 hown hK hI rfl 4 (by decide) (hts (.fieldLink RX3 68 "CashPools$Account" "children" "Ljava/util/ArrayList;") (List.mem_of_getElem? (i := 6) (by decide +kernel))) (fun _ h => h) hv9 dX3_openAccount_25 ?_
  refine j_aload (r := (some q5)) hx hb dX3_openAccount_28 (lv_at hl 0 rfl) ?_
  obtain ⟨b12, ⟨hrb12, hfs⟩, hw⟩ := hw
  refine j_goz hI (va_runV (As := [va_rf (some q5)]) (rest := []) ⟨hx, hb, hml, hown, hts⟩ (kJx4a65c_add_9ea2d l hfl D z b12 (some q5) μ8 H.size _) (cwV 1 hts gX3_openAccount_Jx4a65c_add_9ea2d rfl rfl rfl (by decide +kernel) ⟨Nat.le_of_ble_eq_true rfl, Nat.le_of_ble_eq_true rfl⟩) (j_prV2z hK hG hI hw (ci := 2) rfl hfs) rfl rfl hl.1 (by rw [hrb12]; rfl) (lv_room (Nat.le_of_ble_eq_true rfl)) dX3_openAccount_30 ⟨by show _ ≤ 5; omega, by show _ ≤ 111; omega⟩) (fun v10 μ11 H locs hw hI => ?_)
  refine W.eq (g2 := F0 m 33 ls [.int v10]) rfl ?_
  refine lv_pop hx hb dX3_openAccount_33 rfl ?_
  refine j_aload_n (r := (some b)) hx hb dX3_openAccount_34 rfl (lv_at hl 2 rfl) ?_
  refine j_aload (r := (some q5)) hx hb dX3_openAccount_35 (lv_at hl 0 rfl) ?_
  obtain ⟨hfs, hw⟩ := hw
  refine j_goz hI (va_runV (As := [va_rf (some q5)]) (rest := []) ⟨hx, hb, hml, hown, hts⟩ (kX3_enter l hfl D z b (some q5) μ11 H.size _) (cwV 1 hts gX3_openAccount_X3_enter rfl rfl rfl (by decide +kernel) ⟨Nat.le_of_ble_eq_true rfl, Nat.le_of_ble_eq_true rfl⟩) (j_prV2z hK hG hI hw (ci := 6) rfl hfs) rfl rfl hl.1 rfl (lv_room (Nat.le_of_ble_eq_true rfl)) dX3_openAccount_37 ⟨by show _ ≤ 5; omega, by show _ ≤ 111; omega⟩) (fun u13 μ14 H locs hw hI => ?_)
  refine W.eq (g2 := F0 m 40 ls []) rfl ?_
  refine lv_iload_n hx hb dX3_openAccount_40 rfl (lv_at hl 1 rfl) ?_
  exact j_iretz hx hb hr hlocks hI hw (by omega) (by omega) dX3_openAccount_41
set_option maxHeartbeats 4000000 in
set_option maxRecDepth 100000 in
theorem kX3_openAccount (l : Launch) (hfl : l.stackTraces = false) (D : jD) (z : Nat × Nat) (b : Nat) (x1 : Option Nat) (x2 : Option Nat) (μ : jM) (sz : Nat) (Q : Int32 → jM → Prop) : Met l yX3_openAccount wsX3_openAccount rmX3_openAccount (jPre2z D z μ sz [.ref b, va_rf x1, va_rf x2] (wX3_openAccount z b x1 x2 μ Q)) (jRz jfI Q D z (jA z μ sz)) 5 111 (jA z μ sz) := by
  refine Met.ofW (cc := cX3_openAccount) (maxL := 5) (ret := (some .int)) (by decide) rfl ?_
  intro p e s m args below meth c s₁ B hml hv
  obtain ⟨rfl, hsz, hH, hz0, hK, hG, hw⟩ := hv
  subst hsz
  have hX : jX2 D z (jA z μ s.heap.size) p l s m _ meth c yX3_openAccount cX3_openAccount 5 wsX3_openAccount (some .int) := ⟨B.exec, B.bytes, hml, findClass_of_methodNamed B.named, atoms_spec (ws := wsX3_openAccount) B.pre, B.returns, B.notSynchronized, (name_of_methodNamed B.named B.method).1, hK, hG, hfl⟩
  obtain ⟨ls, hg, hl⟩ : ∃ ls : Array Slot, entryFrame m ([.ref b, va_rf x1, va_rf x2] : List Value).toArray 5 = F0 m 0 ls [] ∧ lv_has ls 5 [(0, va_rf (some b)), (1, va_rf x1), (2, va_rf x2)] := by
    cases x1 <;> cases x2 <;> exact ⟨_, lg_entry_eq .., lv_entry _ (n := 5) (Nat.le_of_ble_eq_true rfl)⟩
  rw [hg]
  exact kX3_openAccount_0 hX hw (jIz.start hH hz0) (lv_sub hl [0, 1, 2] rfl) (by decide) (by decide)
set_option maxHeartbeats 4000000 in
set_option maxRecDepth 100000 in
theorem kX9_addAccount_0 {b : Nat} (hX : jX2 D z A p l s m args meth c yX9_addAccount cX9_addAccount 5 wsX9_addAccount (some .int)) {Q : Int32 → jM → Prop}  {x1 : Int32} {x2 : Int32} {μ : jM} {H : Heap} {locs : List Loc} {ls : Array Slot} {cells slots : Nat} (hw : wX9_addAccount_0 z b Q jN x1 x2 μ) (hI : jIz D z A s.heap μ H locs) (hl : lv_has ls 5 [(0, va_rf (some b)), (1, .int x1), (2, .int x2)]) (hcn : cells + 5 ≤ 5) (hsn : slots + 111 ≤ 111) : W p l e rmX9_addAccount s m args below meth c H locs cells slots (MQ below (jRz jfI Q D z A) args s 5 111 A) (F0 m 0 ls []) := by
  unfold wX9_addAccount_0 at hw
  obtain ⟨hx, hb, hml, hown, hts, hr, hlocks, hnm, hK, hG, hfl⟩ := id hX
  have hown : s.vm.findClass RX9 = some m.cls := hown
  have hfX9 : ∀ w ∈ wsX90, w.before args s = true := fun w h => hts w (List.mem_cons_of_mem _ (List.mem_append_left _ (List.mem_append_left _ (List.mem_append_left _ (List.mem_append_left _ (List.mem_append_left _ (List.mem_append_left _ (List.mem_append_left _ (List.mem_append_right _ h)))))))))
  refine j_aload_n (r := (some b)) hx hb dX9_addAccount_0 rfl (lv_at hl 0 rfl) ?_
  refine lv_iload_n hx hb dX9_addAccount_1 rfl (lv_at hl 1 rfl) ?_
  obtain ⟨hfs, hw⟩ := hw
  refine j_goz hI (va_runV (As := [.int x1]) (rest := []) ⟨hx, hb, hml, hown, hts⟩ (kX9_accountAt l hfl D z b x1 μ H.size _) (cwV 1 hts gX9_addAccount_X9_accountAt rfl rfl rfl (by decide +kernel) ⟨Nat.le_of_ble_eq_true rfl, Nat.le_of_ble_eq_true rfl⟩) (j_prV2z hK hG hI hw (ci := 11) rfl hfs) rfl rfl hl.1 rfl (lv_room (Nat.le_of_ble_eq_true rfl)) dX9_addAccount_2 ⟨by show _ ≤ 5; omega, by show _ ≤ 111; omega⟩) (fun v1 μ2 H locs hw hI => ?_)
  refine W.eq (g2 := F0 m 5 ls [va_rf v1]) rfl ?_
  refine j_astore_n (r := v1) (lv' := [(3, va_rf v1), (0, va_rf (some b)), (1, .int x1), (2, .int x2)]) hx hb dX9_addAccount_5 rfl hl (by decide) rfl (fun ls hl => ?_)
  refine j_aload_n (r := (some b)) hx hb dX9_addAccount_6 rfl (lv_at hl 1 rfl) ?_
  refine lv_iload_n hx hb dX9_addAccount_7 rfl (lv_at hl 3 rfl) ?_
  obtain ⟨hfs, hw⟩ := hw
  refine j_goz hI (va_runV (As := [.int x2]) (rest := []) ⟨hx, hb, hml, hown, hts⟩ (kX9_bankAt l hfl D z b x2 μ2 H.size _) (cwV 1 hts gX9_addAccount_X9_bankAt rfl rfl rfl (by decide +kernel) ⟨Nat.le_of_ble_eq_true rfl, Nat.le_of_ble_eq_true rfl⟩) (j_prV2z hK hG hI hw (ci := 11) rfl hfs) rfl rfl hl.1 rfl (lv_room (Nat.le_of_ble_eq_true rfl)) dX9_addAccount_8 ⟨by show _ ≤ 5; omega, by show _ ≤ 111; omega⟩) (fun v3 μ4 H locs hw hI => ?_)
  refine W.eq (g2 := F0 m 11 ls [va_rf v3]) rfl ?_
  refine j_astoreA (r := v1) (r0 := v3) (F := fun w => [(3, w), (0, va_rf (some b)), (1, .int x1), (2, .int x2)]) (F2 := fun w => [(4, va_rf v3), (3, w), (0, va_rf (some b)), (1, .int x1), (2, .int x2)]) hx hb dX9_addAccount_11 hl (by decide) (fun w hw => by rcases hw with rfl | ⟨_, rfl⟩ <;> rfl) (fun ls hl => ?_)
  refine j_aload_n (r := (some b)) hx hb dX9_addAccount_13 rfl (lv_at hl 2 rfl) ?_
  obtain ⟨hfs, hw⟩ := hw
  refine j_goz hI (va_runV (As := []) (rest := []) ⟨hx, hb, hml, hown, hts⟩ (kX9_requireAccountLeft l hfl D z b  μ4 H.size _) (cwV 0 hts gX9_addAccount_X9_requireAccountLeft rfl rfl rfl (by decide +kernel) ⟨Nat.le_of_ble_eq_true rfl, Nat.le_of_ble_eq_true rfl⟩) (j_prV2z hK hG hI hw (ci := 11) rfl hfs) rfl rfl hl.1 rfl (lv_room (Nat.le_of_ble_eq_true rfl)) dX9_addAccount_14 ⟨by show _ ≤ 5; omega, by show _ ≤ 111; omega⟩) (fun u5 μ6 H locs hw hI => ?_)
  refine W.eq (g2 := F0 m 17 ls []) rfl ?_
  refine j_aload_n (r := (some b)) hx hb dX9_addAccount_17 rfl (lv_at hl 2 rfl) ?_
  obtain ⟨v7, hv7, hw⟩ := hw
  refine j_getz (C := RX9) (T := TX9) (N := 1) (ci := 11) (r := (some b)) (v := va_rf v7) hx hb hfX9 hown hK hI rfl 0 (by decide) (hts (.fieldLink RX9 10 "CashPools" "desk" "LCashPools$Desk;") (List.mem_of_getElem? (i := 1) (by decide +kernel))) (fun _ h => h) hv7 dX9_addAccount_18 ?_
  refine j_aload_n (r := v1) hx hb dX9_addAccount_21 rfl (lv_at hl 1 rfl) ?_
  refine j_aload (r := v3) hx hb dX9_addAccount_22 (lv_at hl 0 rfl) ?_
  obtain ⟨b10, ⟨hrb10, hfs⟩, hw⟩ := hw
  refine j_goz hI (va_runV (As := [va_rf v1, va_rf v3]) (rest := []) ⟨hx, hb, hml, hown, hts⟩ (kX3_openAccount l hfl D z b10 v1 v3 μ6 H.size _) (cwV 2 hts gX9_addAccount_X3_openAccount rfl rfl rfl (by decide +kernel) ⟨Nat.le_of_ble_eq_true rfl, Nat.le_of_ble_eq_true rfl⟩) (j_prV2z hK hG hI hw (ci := 6) rfl hfs) rfl rfl hl.1 (by rw [hrb10]; rfl) (lv_room (Nat.le_of_ble_eq_true rfl)) dX9_addAccount_24 ⟨by show _ ≤ 5; omega, by show _ ≤ 111; omega⟩) (fun v8 μ9 H locs hw hI => ?_)
  refine W.eq (g2 := F0 m 27 ls [.int v8]) rfl ?_
  exact j_iretz hx hb hr hlocks hI hw (by omega) (by omega) dX9_addAccount_27
set_option maxHeartbeats 4000000 in
set_option maxRecDepth 100000 in
theorem kX9_addAccount (l : Launch) (hfl : l.stackTraces = false) (D : jD) (z : Nat × Nat) (b : Nat) (x1 : Int32) (x2 : Int32) (μ : jM) (sz : Nat) (Q : Int32 → jM → Prop) : Met l yX9_addAccount wsX9_addAccount rmX9_addAccount (jPre2z D z μ sz [.ref b, .int x1, .int x2] (wX9_addAccount z b x1 x2 μ Q jN)) (jRz jfI Q D z (jA z μ sz)) 5 111 (jA z μ sz) := by
  refine Met.ofW (cc := cX9_addAccount) (maxL := 5) (ret := (some .int)) (by decide) rfl ?_
  intro p e s m args below meth c s₁ B hml hv
  obtain ⟨rfl, hsz, hH, hz0, hK, hG, hw⟩ := hv
  subst hsz
  have hX : jX2 D z (jA z μ s.heap.size) p l s m _ meth c yX9_addAccount cX9_addAccount 5 wsX9_addAccount (some .int) := ⟨B.exec, B.bytes, hml, findClass_of_methodNamed B.named, atoms_spec (ws := wsX9_addAccount) B.pre, B.returns, B.notSynchronized, (name_of_methodNamed B.named B.method).1, hK, hG, hfl⟩
  obtain ⟨ls, hg, hl⟩ : ∃ ls : Array Slot, entryFrame m ([.ref b, .int x1, .int x2] : List Value).toArray 5 = F0 m 0 ls [] ∧ lv_has ls 5 [(0, va_rf (some b)), (1, .int x1), (2, .int x2)] := by
    exact ⟨_, lg_entry_eq .., lv_entry _ (n := 5) (Nat.le_of_ble_eq_true rfl)⟩
  rw [hg]
  exact kX9_addAccount_0 hX hw (jIz.start hH hz0) (lv_sub hl [0, 1, 2] rfl) (by decide) (by decide)
set_option maxHeartbeats 4000000 in
set_option maxRecDepth 100000 in
theorem kL_makes_36 (hX : jX2 D z A p l s m args meth c yL_makes cL_makes 7 wsL_makes (some .int)) {Q : Int32 → jM → Prop}  {x0 : Option Nat} {x1 : Option Nat} {x2 : Int32} {x3 : Int32} {x4 : Int32} {x5 : Int32} {t0 : Int32} {μ : jM} {H : Heap} {locs : List Loc} {ls : Array Slot} {cells slots : Nat} (hw : wL_makes_36 z Q x0 x1 x2 x3 x4 x5 t0 μ) (hI : jIz D z A s.heap μ H locs) (hl : lv_has ls 7 [(0, va_rf x0), (1, va_rf x1), (2, .int x2), (3, .int x3), (4, .int x4), (5, .int x5)]) (hcn : cells + 18 ≤ 18) (hsn : slots + 222 ≤ 222) : W p l e rmL_makes s m args below meth c H locs cells slots (MQ below (jRz jfI Q D z A) args s 18 222 A) (F0 m 36 ls [.int t0]) := by
  unfold wL_makes_36 at hw
  obtain ⟨hx, hb, hml, hown, hts, hr, hlocks, hnm, hK, hG, hfl⟩ := id hX
  have hown : s.vm.findClass RL = some m.cls := hown
  refine lv_istore (lv' := [(6, .int t0), (0, va_rf x0), (1, va_rf x1), (2, .int x2), (3, .int x3), (4, .int x4), (5, .int x5)]) hx hb dL_makes_36 hl (by decide) rfl (fun ls hl => ?_)
  refine j_aload_n (r := x1) hx hb dL_makes_38 rfl (lv_at hl 2 rfl) ?_
  refine lv_iconst (v := (0)) hx hb dL_makes_39 (by decide) ?_
  refine lv_iload hx hb dL_makes_40 (lv_at hl 5 rfl) ?_
  refine lv_iconst (v := (1)) hx hb dL_makes_42 (by decide) ?_
  refine lv_iadd hx hb dL_makes_43 ?_
  obtain ⟨μ1, hμ1, hw⟩ := hw
  refine j_iastz (r := x1) hx hb hK hI hμ1 dL_makes_44 (fun H locs hI => ?_)
  refine j_aload_n (r := x1) hx hb dL_makes_45 rfl (lv_at hl 2 rfl) ?_
  refine lv_iconst (v := (2)) hx hb dL_makes_46 (by decide) ?_
  refine lv_iload hx hb dL_makes_47 (lv_at hl 5 rfl) ?_
  refine lv_imul hx hb dL_makes_49 ?_
  refine lv_iconst (v := (2)) hx hb dL_makes_50 (by decide) ?_
  refine lv_iadd hx hb dL_makes_51 ?_
  refine lv_iload_n hx hb dL_makes_52 rfl (lv_at hl 3 rfl) ?_
  refine lv_bipush (v := (10)) hx hb dL_makes_53 (by decide) ?_
  refine lv_idiv hx hb dL_makes_55 (by decide) ?_
  refine lv_iconst (v := (4)) hx hb dL_makes_56 (by decide) ?_
  refine lv_irem hx hb dL_makes_57 (by decide) ?_
  obtain ⟨μ2, hμ2, hw⟩ := hw
  refine j_iastz (r := x1) hx hb hK hI hμ2 dL_makes_58 (fun H locs hI => ?_)
  refine j_aload_n (r := x1) hx hb dL_makes_59 rfl (lv_at hl 2 rfl) ?_
  refine lv_iconst (v := (2)) hx hb dL_makes_60 (by decide) ?_
  refine lv_iload hx hb dL_makes_61 (lv_at hl 5 rfl) ?_
  refine lv_imul hx hb dL_makes_63 ?_
  refine lv_iconst (v := (3)) hx hb dL_makes_64 (by decide) ?_
  refine lv_iadd hx hb dL_makes_65 ?_
  refine lv_iload hx hb dL_makes_66 (lv_at hl 0 rfl) ?_
  obtain ⟨μ3, hμ3, hw⟩ := hw
  refine j_iastz (r := x1) hx hb hK hI hμ3 dL_makes_68 (fun H locs hI => ?_)
  refine lv_iload hx hb dL_makes_69 (lv_at hl 6 rfl) ?_
  refine lv_if_eq (tgt := 103) hx hb dL_makes_71 (by decide) (fun hc => ?_) (fun hc => ?_)
  · have hw := hw.1 hc
    refine j_aload_n (r := x0) hx hb dL_makes_103 rfl (lv_at hl 1 rfl) ?_
    refine lv_iload hx hb dL_makes_104 (lv_at hl 0 rfl) ?_
    refine lv_iload_n hx hb dL_makes_106 rfl (lv_at hl 3 rfl) ?_
    refine lv_bipush (v := (10)) hx hb dL_makes_107 (by decide) ?_
    refine lv_idiv hx hb dL_makes_109 (by decide) ?_
    refine lv_iconst (v := (4)) hx hb dL_makes_110 (by decide) ?_
    refine lv_irem hx hb dL_makes_111 (by decide) ?_
    obtain ⟨b6, ⟨hrb6, hfs⟩, hw⟩ := hw
    refine j_goz hI (va_runV (As := [.int t0, .int ((x2 / (10 : Int32)) - (x2 / (10 : Int32)) / (4 : Int32) * (4 : Int32))]) (rest := []) ⟨hx, hb, hml, hown, hts⟩ (kX9_addAccount l hfl D z b6 t0 ((x2 / (10 : Int32)) - (x2 / (10 : Int32)) / (4 : Int32) * (4 : Int32)) μ3 H.size _) (cwV 2 hts gL_makes_X9_addAccount rfl rfl rfl (by decide +kernel) ⟨Nat.le_of_ble_eq_true rfl, Nat.le_of_ble_eq_true rfl⟩) (j_prV2z hK hG hI hw (ci := 11) rfl hfs) rfl rfl hl.1 (by rw [hrb6]; rfl) (lv_room (Nat.le_of_ble_eq_true rfl)) dL_makes_112 ⟨by show _ ≤ 18; omega, by show _ ≤ 222; omega⟩) (fun v4 μ5 H locs hw hI => ?_)
    refine W.eq (g2 := F0 m 115 ls [.int v4]) rfl ?_
    exact j_iretz hx hb hr hlocks hI hw (by omega) (by omega) dL_makes_115
  · have hw := hw.2 hc
    refine j_aload_n (r := x0) hx hb dL_makes_74 rfl (lv_at hl 1 rfl) ?_
    refine lv_iload_n hx hb dL_makes_75 rfl (lv_at hl 3 rfl) ?_
    refine lv_bipush (v := (10)) hx hb dL_makes_76 (by decide) ?_
    refine lv_idiv hx hb dL_makes_78 (by decide) ?_
    refine lv_iconst (v := (4)) hx hb dL_makes_79 (by decide) ?_
    refine lv_irem hx hb dL_makes_80 (by decide) ?_
    refine lv_iload_n hx hb dL_makes_81 rfl (lv_at hl 3 rfl) ?_
    refine lv_bipush (v := (40)) hx hb dL_makes_82 (by decide) ?_
    refine lv_idiv hx hb dL_makes_84 (by decide) ?_
    refine lv_sipush (v := (1001)) hx hb dL_makes_85 (by decide) ?_
    refine lv_irem hx hb dL_makes_88 (by decide) ?_
    refine lv_iload_n hx hb dL_makes_89 rfl (lv_at hl 4 rfl) ?_
    refine lv_bipush (v := (40)) hx hb dL_makes_90 (by decide) ?_
    refine lv_idiv hx hb dL_makes_92 (by decide) ?_
    refine lv_sipush (v := (1001)) hx hb dL_makes_93 (by decide) ?_
    refine lv_irem hx hb dL_makes_96 (by decide) ?_
    obtain ⟨b9, ⟨hrb9, hfs⟩, hw⟩ := hw
    refine j_goz hI (va_runV (As := [.int ((x2 / (10 : Int32)) - (x2 / (10 : Int32)) / (4 : Int32) * (4 : Int32)), .int ((x2 / (40 : Int32)) - (x2 / (40 : Int32)) / (1001 : Int32) * (1001 : Int32)), .int ((x3 / (40 : Int32)) - (x3 / (40 : Int32)) / (1001 : Int32) * (1001 : Int32))]) (rest := []) ⟨hx, hb, hml, hown, hts⟩ (kX9_addPool l hfl D z b9 ((x2 / (10 : Int32)) - (x2 / (10 : Int32)) / (4 : Int32) * (4 : Int32)) ((x2 / (40 : Int32)) - (x2 / (40 : Int32)) / (1001 : Int32) * (1001 : Int32)) ((x3 / (40 : Int32)) - (x3 / (40 : Int32)) / (1001 : Int32) * (1001 : Int32)) μ3 H.size _) (cwV 3 hts gL_makes_X9_addPool rfl rfl rfl (by decide +kernel) ⟨Nat.le_of_ble_eq_true rfl, Nat.le_of_ble_eq_true rfl⟩) (j_prV2z hK hG hI hw (ci := 11) rfl hfs) rfl rfl hl.1 (by rw [hrb9]; rfl) (lv_room (Nat.le_of_ble_eq_true rfl)) dL_makes_97 ⟨by show _ ≤ 18; omega, by show _ ≤ 222; omega⟩) (fun v7 μ8 H locs hw hI => ?_)
    refine W.eq (g2 := F0 m 100 ls [.int v7]) rfl ?_
    refine lv_goto (tgt := 115) hx hb dL_makes_100 (by decide) ?_
    exact j_iretz hx hb hr hlocks hI hw (by omega) (by omega) dL_makes_115
set_option maxHeartbeats 4000000 in
set_option maxRecDepth 100000 in
theorem kL_makes_21 (hX : jX2 D z A p l s m args meth c yL_makes cL_makes 7 wsL_makes (some .int)) {Q : Int32 → jM → Prop}  {x0 : Option Nat} {x1 : Option Nat} {x2 : Int32} {x3 : Int32} {x4 : Int32} {t0 : Int32} {μ : jM} {H : Heap} {locs : List Loc} {ls : Array Slot} {cells slots : Nat} (hw : wL_makes_21 z Q x0 x1 x2 x3 x4 t0 μ) (hI : jIz D z A s.heap μ H locs) (hl : lv_has ls 7 [(0, va_rf x0), (1, va_rf x1), (2, .int x2), (3, .int x3), (4, .int x4)]) (hcn : cells + 18 ≤ 18) (hsn : slots + 222 ≤ 222) : W p l e rmL_makes s m args below meth c H locs cells slots (MQ below (jRz jfI Q D z A) args s 18 222 A) (F0 m 21 ls [.int t0]) := by
  unfold wL_makes_21 at hw
  obtain ⟨hx, hb, hml, hown, hts, hr, hlocks, hnm, hK, hG, hfl⟩ := id hX
  have hown : s.vm.findClass RL = some m.cls := hown
  refine lv_istore (lv' := [(5, .int t0), (0, va_rf x0), (1, va_rf x1), (2, .int x2), (3, .int x3), (4, .int x4)]) hx hb dL_makes_21 hl (by decide) rfl (fun ls hl => ?_)
  refine lv_iload hx hb dL_makes_23 (lv_at hl 0 rfl) ?_
  refine lv_if_eq (tgt := 32) hx hb dL_makes_25 (by decide) (fun hc => ?_) (fun hc => ?_)
  · have hw := hw.1 hc
    refine lv_iload_n hx hb dL_makes_32 rfl (lv_at hl 3 rfl) ?_
    refine lv_iload hx hb dL_makes_33 (lv_at hl 5 rfl) ?_
    obtain ⟨h1, hw⟩ := hw
    refine lv_irem hx hb dL_makes_35 h1 ?_
    exact kL_makes_36 hX  hw hI (lv_sub hl [1, 2, 3, 4, 5, 0] rfl) (by omega) (by omega)
  · have hw := hw.2 hc
    refine lv_iconst (v := (-1)) hx hb dL_makes_28 (by decide) ?_
    refine lv_goto (tgt := 36) hx hb dL_makes_29 (by decide) ?_
    exact kL_makes_36 hX  hw hI (lv_sub hl [1, 2, 3, 4, 5, 0] rfl) (by omega) (by omega)
set_option maxHeartbeats 4000000 in
set_option maxRecDepth 100000 in
theorem kL_makes_16 (hX : jX2 D z A p l s m args meth c yL_makes cL_makes 7 wsL_makes (some .int)) {Q : Int32 → jM → Prop}  {x0 : Option Nat} {x1 : Option Nat} {x2 : Int32} {x3 : Int32} {x4 : Int32} {μ : jM} {H : Heap} {locs : List Loc} {ls : Array Slot} {cells slots : Nat} (hw : wL_makes_16 z Q x0 x1 x2 x3 x4 μ) (hI : jIz D z A s.heap μ H locs) (hl : lv_has ls 7 [(0, va_rf x0), (1, va_rf x1), (2, .int x2), (3, .int x3), (4, .int x4)]) (hcn : cells + 18 ≤ 18) (hsn : slots + 222 ≤ 222) : W p l e rmL_makes s m args below meth c H locs cells slots (MQ below (jRz jfI Q D z A) args s 18 222 A) (F0 m 16 ls []) := by
  unfold wL_makes_16 at hw
  obtain ⟨hx, hb, hml, hown, hts, hr, hlocks, hnm, hK, hG, hfl⟩ := id hX
  have hown : s.vm.findClass RL = some m.cls := hown
  refine lv_iconst (v := (1)) hx hb dL_makes_16 (by decide) ?_
  refine lv_goto (tgt := 21) hx hb dL_makes_17 (by decide) ?_
  exact kL_makes_21 hX  hw hI (lv_sub hl [0, 1, 2, 3, 4] rfl) (by omega) (by omega)
set_option maxHeartbeats 4000000 in
set_option maxRecDepth 100000 in
theorem kL_makes_0 (hX : jX2 D z A p l s m args meth c yL_makes cL_makes 7 wsL_makes (some .int)) {Q : Int32 → jM → Prop}  {x0 : Option Nat} {x1 : Option Nat} {x2 : Int32} {x3 : Int32} {μ : jM} {H : Heap} {locs : List Loc} {ls : Array Slot} {cells slots : Nat} (hw : wL_makes_0 z Q x0 x1 x2 x3 μ) (hI : jIz D z A s.heap μ H locs) (hl : lv_has ls 7 [(0, va_rf x0), (1, va_rf x1), (2, .int x2), (3, .int x3)]) (hcn : cells + 18 ≤ 18) (hsn : slots + 222 ≤ 222) : W p l e rmL_makes s m args below meth c H locs cells slots (MQ below (jRz jfI Q D z A) args s 18 222 A) (F0 m 0 ls []) := by
  unfold wL_makes_0 at hw
  obtain ⟨hx, hb, hml, hown, hts, hr, hlocks, hnm, hK, hG, hfl⟩ := id hX
  have hown : s.vm.findClass RL = some m.cls := hown
  refine j_aload_n (r := x1) hx hb dL_makes_0 rfl (lv_at hl 1 rfl) ?_
  refine lv_iconst (v := (0)) hx hb dL_makes_1 (by decide) ?_
  obtain ⟨v1, hv1, hw⟩ := hw
  refine j_ialdz (r := x1) hx hb hK hI hv1 dL_makes_2 ?_
  refine lv_istore (lv' := [(4, .int v1), (0, va_rf x0), (1, va_rf x1), (2, .int x2), (3, .int x3)]) hx hb dL_makes_3 hl (by decide) rfl (fun ls hl => ?_)
  refine lv_iload hx hb dL_makes_5 (lv_at hl 0 rfl) ?_
  refine lv_if_eq (tgt := 16) hx hb dL_makes_7 (by decide) (fun hc => ?_) (fun hc => ?_)
  · have hw := hw.1 hc
    exact kL_makes_16 hX  hw hI (lv_sub hl [1, 2, 3, 4, 0] rfl) (by omega) (by omega)
  · have hw := hw.2 hc
    refine lv_iload_n hx hb dL_makes_10 rfl (lv_at hl 4 rfl) ?_
    refine lv_iconst (v := (4)) hx hb dL_makes_11 (by decide) ?_
    refine lv_irem hx hb dL_makes_12 (by decide) ?_
    refine lv_if_ne (tgt := 20) hx hb dL_makes_13 (by decide) (fun hc => ?_) (fun hc => ?_)
    · have hw := hw.1 hc
      refine lv_iconst (v := (0)) hx hb dL_makes_20 (by decide) ?_
      exact kL_makes_21 hX  hw hI (lv_sub hl [1, 2, 3, 4, 0] rfl) (by omega) (by omega)
    · have hw := hw.2 hc
      exact kL_makes_16 hX  hw hI (lv_sub hl [1, 2, 3, 4, 0] rfl) (by omega) (by omega)
set_option maxHeartbeats 4000000 in
set_option maxRecDepth 100000 in
theorem kL_makes (l : Launch) (hfl : l.stackTraces = false) (D : jD) (z : Nat × Nat) (x0 : Option Nat) (x1 : Option Nat) (x2 : Int32) (x3 : Int32) (μ : jM) (sz : Nat) (Q : Int32 → jM → Prop) : Met l yL_makes wsL_makes rmL_makes (jPre2z D z μ sz [va_rf x0, va_rf x1, .int x2, .int x3] (wL_makes z x0 x1 x2 x3 μ Q)) (jRz jfI Q D z (jA z μ sz)) 18 222 (jA z μ sz) := by
  refine Met.ofW (cc := cL_makes) (maxL := 7) (ret := (some .int)) (by decide) rfl ?_
  intro p e s m args below meth c s₁ B hml hv
  obtain ⟨rfl, hsz, hH, hz0, hK, hG, hw⟩ := hv
  subst hsz
  have hX : jX2 D z (jA z μ s.heap.size) p l s m _ meth c yL_makes cL_makes 7 wsL_makes (some .int) := ⟨B.exec, B.bytes, hml, findClass_of_methodNamed B.named, atoms_spec (ws := wsL_makes) B.pre, B.returns, B.notSynchronized, (name_of_methodNamed B.named B.method).1, hK, hG, hfl⟩
  obtain ⟨ls, hg, hl⟩ : ∃ ls : Array Slot, entryFrame m ([va_rf x0, va_rf x1, .int x2, .int x3] : List Value).toArray 7 = F0 m 0 ls [] ∧ lv_has ls 7 [(0, va_rf x0), (1, va_rf x1), (2, .int x2), (3, .int x3)] := by
    cases x0 <;> cases x1 <;> exact ⟨_, lg_entry_eq .., lv_entry _ (n := 7) (Nat.le_of_ble_eq_true rfl)⟩
  rw [hg]
  exact kL_makes_0 hX hw (jIz.start hH hz0) (lv_sub hl [0, 1, 2, 3] rfl) (by decide) (by decide)
set_option maxHeartbeats 4000000 in
set_option maxRecDepth 100000 in
theorem kL_parent_0 (hX : jX2 D z A p l s m args meth c yL_parent cL_parent 2 wsL_parent (some .int)) {Q : Int32 → jM → Prop}  {x0 : Option Nat} {x1 : Int32} {μ : jM} {H : Heap} {locs : List Loc} {ls : Array Slot} {cells slots : Nat} (hw : wL_parent_0 z Q x0 x1 μ) (hI : jIz D z A s.heap μ H locs) (hl : lv_has ls 2 [(0, va_rf x0), (1, .int x1)]) (hcn : cells + 0 ≤ 0) (hsn : slots + 0 ≤ 0) : W p l e rmL_parent s m args below meth c H locs cells slots (MQ below (jRz jfI Q D z A) args s 0 0 A) (F0 m 0 ls []) := by
  unfold wL_parent_0 at hw
  obtain ⟨hx, hb, hml, hown, hts, hr, hlocks, hnm, hK, hG, hfl⟩ := id hX
  have hown : s.vm.findClass RL = some m.cls := hown
  refine j_aload_n (r := x0) hx hb dL_parent_0 rfl (lv_at hl 0 rfl) ?_
  refine lv_iconst (v := (2)) hx hb dL_parent_1 (by decide) ?_
  refine lv_iload_n hx hb dL_parent_2 rfl (lv_at hl 1 rfl) ?_
  refine lv_imul hx hb dL_parent_3 ?_
  refine lv_iconst (v := (3)) hx hb dL_parent_4 (by decide) ?_
  refine lv_iadd hx hb dL_parent_5 ?_
  obtain ⟨v1, hv1, hw⟩ := hw
  refine j_ialdz (r := x0) hx hb hK hI hv1 dL_parent_6 ?_
  exact j_iretz hx hb hr hlocks hI hw (by omega) (by omega) dL_parent_7
set_option maxHeartbeats 4000000 in
set_option maxRecDepth 100000 in
theorem kL_parent (l : Launch) (hfl : l.stackTraces = false) (D : jD) (z : Nat × Nat) (x0 : Option Nat) (x1 : Int32) (μ : jM) (sz : Nat) (Q : Int32 → jM → Prop) : Met l yL_parent wsL_parent rmL_parent (jPre2z D z μ sz [va_rf x0, .int x1] (wL_parent z x0 x1 μ Q)) (jRz jfI Q D z (jA z μ sz)) 0 0 (jA z μ sz) := by
  refine Met.ofW (cc := cL_parent) (maxL := 2) (ret := (some .int)) (by decide) rfl ?_
  intro p e s m args below meth c s₁ B hml hv
  obtain ⟨rfl, hsz, hH, hz0, hK, hG, hw⟩ := hv
  subst hsz
  have hX : jX2 D z (jA z μ s.heap.size) p l s m _ meth c yL_parent cL_parent 2 wsL_parent (some .int) := ⟨B.exec, B.bytes, hml, findClass_of_methodNamed B.named, atoms_spec (ws := wsL_parent) B.pre, B.returns, B.notSynchronized, (name_of_methodNamed B.named B.method).1, hK, hG, hfl⟩
  obtain ⟨ls, hg, hl⟩ : ∃ ls : Array Slot, entryFrame m ([va_rf x0, .int x1] : List Value).toArray 2 = F0 m 0 ls [] ∧ lv_has ls 2 [(0, va_rf x0), (1, .int x1)] := by
    cases x0 <;> exact ⟨_, lg_entry_eq .., lv_entry _ (n := 2) (Nat.le_of_ble_eq_true rfl)⟩
  rw [hg]
  exact kL_parent_0 hX hw (jIz.start hH hz0) (lv_sub hl [0, 1] rfl) (by decide) (by decide)
set_option maxHeartbeats 4000000 in
set_option maxRecDepth 100000 in
theorem kX9_setFloor_0 {b : Nat} (hX : jX2 D z A p l s m args meth c yX9_setFloor cX9_setFloor 5 wsX9_setFloor (some .int)) {Q : Int32 → jM → Prop}  {x1 : Int32} {x2 : Int32} {μ : jM} {H : Heap} {locs : List Loc} {ls : Array Slot} {cells slots : Nat} (hw : wX9_setFloor_0 z b Q jN x1 x2 μ) (hI : jIz D z A s.heap μ H locs) (hl : lv_has ls 5 [(0, va_rf (some b)), (1, .int x1), (2, .int x2)]) (hcn : cells + 0 ≤ 0) (hsn : slots + 0 ≤ 0) : W p l e rmX9_setFloor s m args below meth c H locs cells slots (MQ below (jRz jfI Q D z A) args s 0 0 A) (F0 m 0 ls []) := by
  unfold wX9_setFloor_0 at hw
  obtain ⟨hx, hb, hml, hown, hts, hr, hlocks, hnm, hK, hG, hfl⟩ := id hX
  have hown : s.vm.findClass RX9 = some m.cls := hown
  have hfX0 : ∀ w ∈ wsX00, w.before args s = true := fun w h => hts w (List.mem_cons_of_mem _ (List.mem_append_left _ (List.mem_append_left _ (List.mem_append_left _ (List.mem_append_left _ (List.mem_append_left _ (List.mem_append_right _ h)))))))
  refine j_aload_n (r := (some b)) hx hb dX9_setFloor_0 rfl (lv_at hl 0 rfl) ?_
  refine lv_iload_n hx hb dX9_setFloor_1 rfl (lv_at hl 1 rfl) ?_
  obtain ⟨hfs, hw⟩ := hw
  refine j_goz hI (va_runV (As := [.int x1]) (rest := []) ⟨hx, hb, hml, hown, hts⟩ (kX9_accountAt l hfl D z b x1 μ H.size _) (cwV 1 hts gX9_setFloor_X9_accountAt rfl rfl rfl (by decide +kernel) ⟨Nat.le_of_ble_eq_true rfl, Nat.le_of_ble_eq_true rfl⟩) (j_prV2z hK hG hI hw (ci := 11) rfl hfs) rfl rfl hl.1 rfl (lv_room (Nat.le_of_ble_eq_true rfl)) dX9_setFloor_2 ⟨by show _ ≤ 0; omega, by show _ ≤ 0; omega⟩) (fun v1 μ2 H locs hw hI => ?_)
  refine W.eq (g2 := F0 m 5 ls [va_rf v1]) rfl ?_
  refine j_astore_n (r := v1) (lv' := [(3, va_rf v1), (0, va_rf (some b)), (1, .int x1), (2, .int x2)]) hx hb dX9_setFloor_5 rfl hl (by decide) rfl (fun ls hl => ?_)
  refine lv_iload_n hx hb dX9_setFloor_6 rfl (lv_at hl 3 rfl) ?_
  refine lv_ldc (v := (-1000000)) hx hb hown (hts (.constant RX9 39 (-1000000)) (List.mem_of_getElem? (i := 1) (by decide +kernel))) dX9_setFloor_7 ?_
  refine lv_ldc (v := (1000000)) hx hb hown (hts (.constant RX9 40 (1000000)) (List.mem_of_getElem? (i := 2) (by decide +kernel))) dX9_setFloor_9 ?_
  refine j_goz hI (va_runS (As := [.int x2, .int (-1000000 : Int32), .int (1000000 : Int32)]) (rest := []) ⟨hx, hb, hml, hown, hts⟩ (kX9_requireWithin l hfl D z x2 (-1000000 : Int32) (1000000 : Int32) μ2 H.size _) (va_cwS 3 hts gX9_setFloor_X9_requireWithin rfl rfl rfl (by decide +kernel) ⟨Nat.le_of_ble_eq_true rfl, Nat.le_of_ble_eq_true rfl⟩) (j_prS2z hK hG hI hw) rfl rfl hl.1 rfl (lv_room (Nat.le_of_ble_eq_true rfl)) dX9_setFloor_11 ⟨by show _ ≤ 0; omega, by show _ ≤ 0; omega⟩) (fun u3 μ4 H locs hw hI => ?_)
  refine W.eq (g2 := F0 m 14 ls []) rfl ?_
  refine j_aload_n (r := v1) hx hb dX9_setFloor_14 rfl (lv_at hl 0 rfl) ?_
  obtain ⟨v5, hv5, hw⟩ := hw
  refine j_getz (C := RX0) (T := TX0) (N := 12) (ci := 3) (r := v1) (v := .int v5) hx hb hfX0 hown hK hI rfl 7 (by decide) (hts (.fieldLink RX9 61 "CashPools$Account" "floor" "I") (List.mem_of_getElem? (i := 3) (by decide +kernel))) (fun _ h => h) hv5 dX9_setFloor_15 ?_
  refine j_istoreA (r := v1) (F := fun w => [(3, w), (0, va_rf (some b)), (1, .int x1), (2, .int x2)]) (F2 := fun w => [(4, .int v5), (3, w), (0, va_rf (some b)), (1, .int x1), (2, .int x2)]) hx hb dX9_setFloor_18 hl (by decide) (fun w hw => by rcases hw with rfl | ⟨_, rfl⟩ <;> rfl) (fun ls hl => ?_)
  refine j_aload_n (r := v1) hx hb dX9_setFloor_20 rfl (lv_at hl 1 rfl) ?_
  refine lv_iload_n hx hb dX9_setFloor_21 rfl (lv_at hl 4 rfl) ?_
  obtain ⟨μ6, hμ6, hw⟩ := hw
  refine j_putz (C := RX0) (T := TX0) (N := 12) (ci := 3) (r := v1) (v := .int x2) hx hb hfX0 tyX0 tyX0_ok nmX0 hown hK hI rfl 7 (by decide) (hts (.fieldLink RX9 61 "CashPools$Account" "floor" "I") (List.mem_of_getElem? (i := 3) (by decide +kernel))) (fun _ h => h) rfl (tyX0_ok 7 (by decide)) rfl rfl hμ6 dX9_setFloor_22 (fun H locs hI => ?_)
  refine lv_iload hx hb dX9_setFloor_25 (lv_at hl 0 rfl) ?_
  exact j_iretz hx hb hr hlocks hI hw (by omega) (by omega) dX9_setFloor_27
set_option maxHeartbeats 4000000 in
set_option maxRecDepth 100000 in
theorem kX9_setFloor (l : Launch) (hfl : l.stackTraces = false) (D : jD) (z : Nat × Nat) (b : Nat) (x1 : Int32) (x2 : Int32) (μ : jM) (sz : Nat) (Q : Int32 → jM → Prop) : Met l yX9_setFloor wsX9_setFloor rmX9_setFloor (jPre2z D z μ sz [.ref b, .int x1, .int x2] (wX9_setFloor z b x1 x2 μ Q jN)) (jRz jfI Q D z (jA z μ sz)) 0 0 (jA z μ sz) := by
  refine Met.ofW (cc := cX9_setFloor) (maxL := 5) (ret := (some .int)) (by decide) rfl ?_
  intro p e s m args below meth c s₁ B hml hv
  obtain ⟨rfl, hsz, hH, hz0, hK, hG, hw⟩ := hv
  subst hsz
  have hX : jX2 D z (jA z μ s.heap.size) p l s m _ meth c yX9_setFloor cX9_setFloor 5 wsX9_setFloor (some .int) := ⟨B.exec, B.bytes, hml, findClass_of_methodNamed B.named, atoms_spec (ws := wsX9_setFloor) B.pre, B.returns, B.notSynchronized, (name_of_methodNamed B.named B.method).1, hK, hG, hfl⟩
  obtain ⟨ls, hg, hl⟩ : ∃ ls : Array Slot, entryFrame m ([.ref b, .int x1, .int x2] : List Value).toArray 5 = F0 m 0 ls [] ∧ lv_has ls 5 [(0, va_rf (some b)), (1, .int x1), (2, .int x2)] := by
    exact ⟨_, lg_entry_eq .., lv_entry _ (n := 5) (Nat.le_of_ble_eq_true rfl)⟩
  rw [hg]
  exact kX9_setFloor_0 hX hw (jIz.start hH hz0) (lv_sub hl [0, 1, 2] rfl) (by decide) (by decide)
set_option maxHeartbeats 4000000 in
set_option maxRecDepth 100000 in
theorem kX9_setRule_0 {b : Nat} (hX : jX2 D z A p l s m args meth c yX9_setRule cX9_setRule 6 wsX9_setRule (some .int)) {Q : Int32 → jM → Prop}  {x1 : Int32} {x2 : Int32} {x3 : Int32} {μ : jM} {H : Heap} {locs : List Loc} {ls : Array Slot} {cells slots : Nat} (hw : wX9_setRule_0 z b Q jN x1 x2 x3 μ) (hI : jIz D z A s.heap μ H locs) (hl : lv_has ls 6 [(0, va_rf (some b)), (1, .int x1), (2, .int x2), (3, .int x3)]) (hcn : cells + 0 ≤ 0) (hsn : slots + 0 ≤ 0) : W p l e rmX9_setRule s m args below meth c H locs cells slots (MQ below (jRz jfI Q D z A) args s 0 0 A) (F0 m 0 ls []) := by
  unfold wX9_setRule_0 at hw
  obtain ⟨hx, hb, hml, hown, hts, hr, hlocks, hnm, hK, hG, hfl⟩ := id hX
  have hown : s.vm.findClass RX9 = some m.cls := hown
  have hfX0 : ∀ w ∈ wsX00, w.before args s = true := fun w h => hts w (List.mem_cons_of_mem _ (List.mem_append_left _ (List.mem_append_left _ (List.mem_append_left _ (List.mem_append_left _ (List.mem_append_left _ (List.mem_append_left _ (List.mem_append_right _ h))))))))
  refine j_aload_n (r := (some b)) hx hb dX9_setRule_0 rfl (lv_at hl 0 rfl) ?_
  refine lv_iload_n hx hb dX9_setRule_1 rfl (lv_at hl 1 rfl) ?_
  obtain ⟨hfs, hw⟩ := hw
  refine j_goz hI (va_runV (As := [.int x1]) (rest := []) ⟨hx, hb, hml, hown, hts⟩ (kX9_accountAt l hfl D z b x1 μ H.size _) (cwV 1 hts gX9_setRule_X9_accountAt rfl rfl rfl (by decide +kernel) ⟨Nat.le_of_ble_eq_true rfl, Nat.le_of_ble_eq_true rfl⟩) (j_prV2z hK hG hI hw (ci := 11) rfl hfs) rfl rfl hl.1 rfl (lv_room (Nat.le_of_ble_eq_true rfl)) dX9_setRule_2 ⟨by show _ ≤ 0; omega, by show _ ≤ 0; omega⟩) (fun v1 μ2 H locs hw hI => ?_)
  refine W.eq (g2 := F0 m 5 ls [va_rf v1]) rfl ?_
  refine j_astore (r := v1) (lv' := [(4, va_rf v1), (0, va_rf (some b)), (1, .int x1), (2, .int x2), (3, .int x3)]) hx hb dX9_setRule_5 hl (by decide) rfl (fun ls hl => ?_)
  refine lv_iload_n hx hb dX9_setRule_7 rfl (lv_at hl 3 rfl) ?_
  refine lv_iconst (v := (0)) hx hb dX9_setRule_8 (by decide) ?_
  refine lv_iconst (v := (3)) hx hb dX9_setRule_9 (by decide) ?_
  refine j_goz hI (va_runS (As := [.int x2, .int (0 : Int32), .int (3 : Int32)]) (rest := []) ⟨hx, hb, hml, hown, hts⟩ (kX9_requireWithin l hfl D z x2 (0 : Int32) (3 : Int32) μ2 H.size _) (va_cwS 3 hts gX9_setRule_X9_requireWithin rfl rfl rfl (by decide +kernel) ⟨Nat.le_of_ble_eq_true rfl, Nat.le_of_ble_eq_true rfl⟩) (j_prS2z hK hG hI hw) rfl rfl hl.1 rfl (lv_room (Nat.le_of_ble_eq_true rfl)) dX9_setRule_10 ⟨by show _ ≤ 0; omega, by show _ ≤ 0; omega⟩) (fun u3 μ4 H locs hw hI => ?_)
  refine W.eq (g2 := F0 m 13 ls []) rfl ?_
  refine lv_iload_n hx hb dX9_setRule_13 rfl (lv_at hl 4 rfl) ?_
  refine lv_ldc (v := (-1000000)) hx hb hown (hts (.constant RX9 39 (-1000000)) (List.mem_of_getElem? (i := 3) (by decide +kernel))) dX9_setRule_14 ?_
  refine lv_ldc (v := (1000000)) hx hb hown (hts (.constant RX9 40 (1000000)) (List.mem_of_getElem? (i := 4) (by decide +kernel))) dX9_setRule_16 ?_
  refine j_goz hI (va_runS (As := [.int x3, .int (-1000000 : Int32), .int (1000000 : Int32)]) (rest := []) ⟨hx, hb, hml, hown, hts⟩ (kX9_requireWithin l hfl D z x3 (-1000000 : Int32) (1000000 : Int32) μ4 H.size _) (va_cwS 3 hts gX9_setRule_X9_requireWithin rfl rfl rfl (by decide +kernel) ⟨Nat.le_of_ble_eq_true rfl, Nat.le_of_ble_eq_true rfl⟩) (j_prS2z hK hG hI hw) rfl rfl hl.1 rfl (lv_room (Nat.le_of_ble_eq_true rfl)) dX9_setRule_18 ⟨by show _ ≤ 0; omega, by show _ ≤ 0; omega⟩) (fun u5 μ6 H locs hw hI => ?_)
  refine W.eq (g2 := F0 m 21 ls []) rfl ?_
  refine j_aload (r := v1) hx hb dX9_setRule_21 (lv_at hl 0 rfl) ?_
  obtain ⟨v7, hv7, hw⟩ := hw
  refine j_getz (C := RX0) (T := TX0) (N := 12) (ci := 3) (r := v1) (v := va_rf v7) hx hb hfX0 hown hK hI rfl 1 (by decide) (hts (.fieldLink RX9 41 "CashPools$Account" "parent" "LCashPools$Account;") (List.mem_of_getElem? (i := 5) (by decide +kernel))) (fun _ h => h) hv7 dX9_setRule_23 ?_
  refine j_ifnonnull (r := v7) (tgt := 39) hx hb dX9_setRule_26 (by decide) (fun hc => ?_) (fun hc => ?_)
  · have hw := hw.1 hc
    refine j_aload (r := v1) hx hb dX9_setRule_39 (lv_at hl 0 rfl) ?_
    obtain ⟨v8, hv8, hw⟩ := hw
    refine j_getz (C := RX0) (T := TX0) (N := 12) (ci := 3) (r := v1) (v := .int v8) hx hb hfX0 hown hK hI rfl 5 (by decide) (hts (.fieldLink RX9 54 "CashPools$Account" "rule" "I") (List.mem_of_getElem? (i := 6) (by decide +kernel))) (fun _ h => h) hv8 dX9_setRule_41 ?_
    refine j_istoreA (r := v1) (F := fun w => [(4, w), (0, va_rf (some b)), (1, .int x1), (2, .int x2), (3, .int x3)]) (F2 := fun w => [(5, .int v8), (4, w), (0, va_rf (some b)), (1, .int x1), (2, .int x2), (3, .int x3)]) hx hb dX9_setRule_44 hl (by decide) (fun w hw => by rcases hw with rfl | ⟨_, rfl⟩ <;> rfl) (fun ls hl => ?_)
    refine j_aload (r := v1) hx hb dX9_setRule_46 (lv_at hl 1 rfl) ?_
    refine lv_iload_n hx hb dX9_setRule_48 rfl (lv_at hl 4 rfl) ?_
    obtain ⟨μ9, hμ9, hw⟩ := hw
    refine j_putz (C := RX0) (T := TX0) (N := 12) (ci := 3) (r := v1) (v := .int x2) hx hb hfX0 tyX0 tyX0_ok nmX0 hown hK hI rfl 5 (by decide) (hts (.fieldLink RX9 54 "CashPools$Account" "rule" "I") (List.mem_of_getElem? (i := 6) (by decide +kernel))) (fun _ h => h) rfl (tyX0_ok 5 (by decide)) rfl rfl hμ9 dX9_setRule_49 (fun H locs hI => ?_)
    refine j_aload (r := v1) hx hb dX9_setRule_52 (lv_at hl 1 rfl) ?_
    refine lv_iload_n hx hb dX9_setRule_54 rfl (lv_at hl 5 rfl) ?_
    obtain ⟨μ10, hμ10, hw⟩ := hw
    refine j_putz (C := RX0) (T := TX0) (N := 12) (ci := 3) (r := v1) (v := .int x3) hx hb hfX0 tyX0 tyX0_ok nmX0 hown hK hI rfl 6 (by decide) (hts (.fieldLink RX9 58 "CashPools$Account" "target" "I") (List.mem_of_getElem? (i := 7) (by decide +kernel))) (fun _ h => h) rfl (tyX0_ok 6 (by decide)) rfl rfl hμ10 dX9_setRule_55 (fun H locs hI => ?_)
    refine lv_iload hx hb dX9_setRule_58 (lv_at hl 0 rfl) ?_
    exact j_iretz hx hb hr hlocks hI hw (by omega) (by omega) dX9_setRule_60
  · have hw := hw.2 hc
    exact (show False from hw).elim
set_option maxHeartbeats 4000000 in
set_option maxRecDepth 100000 in
theorem kX9_setRule (l : Launch) (hfl : l.stackTraces = false) (D : jD) (z : Nat × Nat) (b : Nat) (x1 : Int32) (x2 : Int32) (x3 : Int32) (μ : jM) (sz : Nat) (Q : Int32 → jM → Prop) : Met l yX9_setRule wsX9_setRule rmX9_setRule (jPre2z D z μ sz [.ref b, .int x1, .int x2, .int x3] (wX9_setRule z b x1 x2 x3 μ Q jN)) (jRz jfI Q D z (jA z μ sz)) 0 0 (jA z μ sz) := by
  refine Met.ofW (cc := cX9_setRule) (maxL := 6) (ret := (some .int)) (by decide) rfl ?_
  intro p e s m args below meth c s₁ B hml hv
  obtain ⟨rfl, hsz, hH, hz0, hK, hG, hw⟩ := hv
  subst hsz
  have hX : jX2 D z (jA z μ s.heap.size) p l s m _ meth c yX9_setRule cX9_setRule 6 wsX9_setRule (some .int) := ⟨B.exec, B.bytes, hml, findClass_of_methodNamed B.named, atoms_spec (ws := wsX9_setRule) B.pre, B.returns, B.notSynchronized, (name_of_methodNamed B.named B.method).1, hK, hG, hfl⟩
  obtain ⟨ls, hg, hl⟩ : ∃ ls : Array Slot, entryFrame m ([.ref b, .int x1, .int x2, .int x3] : List Value).toArray 6 = F0 m 0 ls [] ∧ lv_has ls 6 [(0, va_rf (some b)), (1, .int x1), (2, .int x2), (3, .int x3)] := by
    exact ⟨_, lg_entry_eq .., lv_entry _ (n := 6) (Nat.le_of_ble_eq_true rfl)⟩
  rw [hg]
  exact kX9_setRule_0 hX hw (jIz.start hH hz0) (lv_sub hl [0, 1, 2, 3] rfl) (by decide) (by decide)
end
