section
variable {p : Program} {l : Launch} {e : Env} {s : State} {m : MethodId} {args : Array Value} {below : List Frame} {meth : Method} {c : Code} {D : jD} {z : Nat × Nat} {A : Nat → Prop}
set_option maxHeartbeats 4000000 in
set_option maxRecDepth 100000 in
theorem kL_scheduled_0 (hX : jX2 D z A p l s m args meth c yL_scheduled cL_scheduled 6 wsL_scheduled (some .int)) (htab : c.exceptionTable.toList = ([⟨0, 11, 14, 21⟩, ⟨0, 11, 18, 13⟩] : List ExceptionTableEntry)) {Q : Int32 → jM → Prop}  {x0 : Option Nat} {x1 : Int32} {x2 : Int32} {x3 : Int32} {x4 : Option Nat} {μ : jM} {H : Heap} {locs : List Loc} {ls : Array Slot} {cells slots : Nat} (hw : wL_scheduled_0 z Q x0 x1 x2 x3 x4 μ) (hI : jIz D z A s.heap μ H locs) (hl : lv_has ls 6 [(0, va_rf x0), (1, .int x1), (2, .int x2), (3, .int x3), (4, va_rf x4)]) (hcn : cells + 3 ≤ 3) (hsn : slots + 18 ≤ 18) : W p l e rmL_scheduled s m args below meth c H locs cells slots (vx_MQ below (jRz jfI Q D z A) (jXCz (fun _ _ => False) D z A) args s 3 18 A) (F0 m 0 ls []) := by
  unfold wL_scheduled_0 at hw
  obtain ⟨hx, hb, hml, hown, hts, hr, hlocks, hnm, hK, hG, hfl⟩ := id hX
  have hown : s.vm.findClass RL = some m.cls := hown
  refine j_aload (r := x4) hx hb dL_scheduled_0 (lv_at hl 4 rfl) ?_
  refine lv_iconst (v := (0)) hx hb dL_scheduled_2 (by decide) ?_
  refine j_aload_n (r := x0) hx hb dL_scheduled_3 rfl (lv_at hl 0 rfl) ?_
  refine lv_iload_n hx hb dL_scheduled_4 rfl (lv_at hl 1 rfl) ?_
  refine lv_iload_n hx hb dL_scheduled_5 rfl (lv_at hl 2 rfl) ?_
  refine lv_iload_n hx hb dL_scheduled_6 rfl (lv_at hl 3 rfl) ?_
  obtain ⟨b3, ⟨hrb3, hfs⟩, hw⟩ := hw
  refine j_goXz hI (vx_runV (As := [.int x1, .int x2, .int x3]) (rest := [.int (0 : Int32), va_rf x4]) ⟨hx, hb, hml, hown, hts⟩ (kX9_scheduled l hfl D z b3 x1 x2 x3 μ H.size _ _) (cwV 3 hts gL_scheduled_X9_scheduled rfl rfl rfl (by decide +kernel) ⟨Nat.le_of_ble_eq_true rfl, Nat.le_of_ble_eq_true rfl⟩) (j_prV2z hK hG hI hw (ci := 11) rfl hfs) rfl rfl hl.1 (by rw [hrb3]; rfl) (lv_room (by simp only [List.map, List.sum_cons, List.sum_nil, jrc, jci, jcl, jcr, jcn]; exact Nat.le_of_ble_eq_true rfl)) dL_scheduled_7 ⟨by show _ ≤ 3; omega, by show _ ≤ 18; omega⟩) (fun E ce q9 μX H locs hw hI hce hcv hcl => ?_) (fun v1 μ2 H locs hw hI => ?_)
  · rcases hw.2.2 with rfl | rfl
    · have hw := hw.1 rfl
      refine vx_catch hown [] ⟨0, 11, 14, 21⟩ [⟨0, 11, 18, 13⟩] (name := "java/lang/IndexOutOfBoundsException") htab (fun z hz => absurd hz List.not_mem_nil) (by decide) (by decide) (hts (.classLink RL 21 "java/lang/IndexOutOfBoundsException") (List.mem_of_getElem? (i := 1) (by decide +kernel))) (va_Nw.use rfl (hG.2.2.2.2.2.2.2.2.1 _ (by decide +kernel))) hce hcv hcl ?_
      refine W.eq (g2 := F0 m 14 ls [va_rf (some q9)]) rfl ?_
      refine j_astoreA (r := x4) (r0 := (some q9)) (F := fun w => [(0, va_rf x0), (1, .int x1), (2, .int x2), (3, .int x3), (4, w)]) (F2 := fun w => [(5, va_rf (some q9)), (0, va_rf x0), (1, .int x1), (2, .int x2), (3, .int x3), (4, w)]) hx hb dL_scheduled_14 hl (by decide) (fun w hw => by rcases hw with rfl | ⟨_, rfl⟩ <;> rfl) (fun ls hl => ?_)
      refine lv_iconst (v := (1)) hx hb dL_scheduled_16 (by decide) ?_
      exact vx_ret (j_iretz hx hb hr hlocks hI hw (by omega) (by omega) dL_scheduled_17)
    · have hw := hw.2.1 rfl
      refine vx_catch hown [⟨0, 11, 14, 21⟩] ⟨0, 11, 18, 13⟩ [] (name := "java/lang/IllegalArgumentException") htab (List.forall_mem_cons.mpr ⟨Or.inr ⟨by decide, "java/lang/IndexOutOfBoundsException", (hts (.classLink RL 21 "java/lang/IndexOutOfBoundsException") (List.mem_of_getElem? (i := 1) (by decide +kernel))), hG.2.2.2.2.2.2.2.2.2.1 _ (by decide +kernel) _ (by decide +kernel) (by decide +kernel)⟩, (fun z hz => absurd hz List.not_mem_nil)⟩) (by decide) (by decide) (hts (.classLink RL 13 "java/lang/IllegalArgumentException") (List.mem_of_getElem? (i := 2) (by decide +kernel))) (va_Nw.use rfl (hG.2.2.2.2.2.2.2.2.1 _ (by decide +kernel))) hce hcv hcl ?_
      refine W.eq (g2 := F0 m 18 ls [va_rf (some q9)]) rfl ?_
      refine j_astoreA (r := x4) (r0 := (some q9)) (F := fun w => [(0, va_rf x0), (1, .int x1), (2, .int x2), (3, .int x3), (4, w)]) (F2 := fun w => [(5, va_rf (some q9)), (0, va_rf x0), (1, .int x1), (2, .int x2), (3, .int x3), (4, w)]) hx hb dL_scheduled_18 hl (by decide) (fun w hw => by rcases hw with rfl | ⟨_, rfl⟩ <;> rfl) (fun ls hl => ?_)
      refine lv_iconst (v := (2)) hx hb dL_scheduled_20 (by decide) ?_
      exact vx_ret (j_iretz hx hb hr hlocks hI hw (by omega) (by omega) dL_scheduled_21)
  refine W.eq (g2 := F0 m 10 ls [.long v1, .int (0 : Int32), va_rf x4]) rfl ?_
  obtain ⟨μ4, hμ4, hw⟩ := hw
  refine j_lastz (r := x4) hx hb hK hI hμ4 dL_scheduled_10 (fun H locs hI => ?_)
  refine lv_goto (tgt := 22) hx hb dL_scheduled_11 (by decide) ?_
  refine lv_iconst (v := (0)) hx hb dL_scheduled_22 (by decide) ?_
  exact vx_ret (j_iretz hx hb hr hlocks hI hw (by omega) (by omega) dL_scheduled_23)
set_option maxHeartbeats 4000000 in
set_option maxRecDepth 100000 in
theorem kL_scheduled (l : Launch) (hfl : l.stackTraces = false) (D : jD) (z : Nat × Nat) (x0 : Option Nat) (x1 : Int32) (x2 : Int32) (x3 : Int32) (x4 : Option Nat) (μ : jM) (sz : Nat) (Q : Int32 → jM → Prop) : vx_Met l yL_scheduled wsL_scheduled rmL_scheduled (jPre2z D z μ sz [va_rf x0, .int x1, .int x2, .int x3, va_rf x4] (wL_scheduled z x0 x1 x2 x3 x4 μ Q)) (jRz jfI Q D z (jA z μ sz)) (jXCz (fun _ _ => False) D z (jA z μ sz)) 3 18 (jA z μ sz) := by
  refine vx_ofWH (cc := cL_scheduled) (maxL := 6) (ret := (some .int)) (by decide) rfl ?_
  intro p e s m args below meth c s₁ B hml hv
  obtain ⟨rfl, hsz, hH, hz0, hK, hG, hw⟩ := hv
  subst hsz
  have hX : jX2 D z (jA z μ s.heap.size) p l s m _ meth c yL_scheduled cL_scheduled 6 wsL_scheduled (some .int) := ⟨B.exec, B.bytes, hml, findClass_of_methodNamed B.named, atoms_spec (ws := wsL_scheduled) B.pre, B.returns, B.notSynchronized, (name_of_methodNamed B.named B.method).1, hK, hG, hfl⟩
  obtain ⟨ls, hg, hl⟩ : ∃ ls : Array Slot, entryFrame m ([va_rf x0, .int x1, .int x2, .int x3, va_rf x4] : List Value).toArray 6 = F0 m 0 ls [] ∧ lv_has ls 6 [(0, va_rf x0), (1, .int x1), (2, .int x2), (3, .int x3), (4, va_rf x4)] := by
    cases x0 <;> cases x4 <;> exact ⟨_, lg_entry_eq .., lv_entry _ (n := 6) (Nat.le_of_ble_eq_true rfl)⟩
  rw [hg]
  exact kL_scheduled_0 hX ((vx_table (x := yL_scheduled) B (atoms_spec (ws := wsL_scheduled) B.pre _ (List.mem_of_getElem? (i := 0) rfl))).trans rfl) hw (jIz.start hH hz0) (lv_sub hl [0, 1, 2, 3, 4] rfl) (by decide) (by decide)
set_option maxHeartbeats 4000000 in
set_option maxRecDepth 100000 in
theorem kX9_poolOf_0 {b : Nat} (hX : jX2 D z A p l s m args meth c yX9_poolOf cX9_poolOf 2 wsX9_poolOf (some .int)) (hno : ∀ x ∈ c.exceptionTable.toList, False) {Q : Int32 → jM → Prop} {X : String → jM → Prop}  {x1 : Int32} {μ : jM} {H : Heap} {locs : List Loc} {ls : Array Slot} {cells slots : Nat} (hw : wX9_poolOf_0 z b Q X x1 μ) (hI : jIz D z A s.heap μ H locs) (hl : lv_has ls 2 [(0, va_rf (some b)), (1, .int x1)]) (hcn : cells + 1 ≤ 1) (hsn : slots + 6 ≤ 6) : W p l e rmX9_poolOf s m args below meth c H locs cells slots (vx_MQ below (jRz jfI Q D z A) (jXCz X D z A) args s 1 6 A) (F0 m 0 ls []) := by
  unfold wX9_poolOf_0 at hw
  obtain ⟨hx, hb, hml, hown, hts, hr, hlocks, hnm, hK, hG, hfl⟩ := id hX
  have hown : s.vm.findClass RX9 = some m.cls := hown
  have hfX0 : ∀ w ∈ wsX00, w.before args s = true := fun w h => hts w (List.mem_cons_of_mem _ (List.mem_append_left _ (List.mem_append_left _ (List.mem_append_left _ (List.mem_append_left _ (List.mem_append_left _ (List.mem_append_right _ h)))))))
  have hfX6 : ∀ w ∈ wsX60, w.before args s = true := fun w h => hts w (List.mem_cons_of_mem _ (List.mem_append_left _ (List.mem_append_left _ (List.mem_append_left _ (List.mem_append_left _ (List.mem_append_right _ h))))))
  refine j_aload_n (r := (some b)) hx hb dX9_poolOf_0 rfl (lv_at hl 0 rfl) ?_
  refine lv_iload_n hx hb dX9_poolOf_1 rfl (lv_at hl 1 rfl) ?_
  obtain ⟨hfs, hw⟩ := hw
  refine j_goXz hI (vx_runV (As := [.int x1]) (rest := []) ⟨hx, hb, hml, hown, hts⟩ (kX9_accountAt l hfl D z b x1 μ H.size _ _) (cwV 1 hts gX9_poolOf_X9_accountAt rfl rfl rfl (by decide +kernel) ⟨Nat.le_of_ble_eq_true rfl, Nat.le_of_ble_eq_true rfl⟩) (j_prV2z hK hG hI hw (ci := 11) rfl hfs) rfl rfl hl.1 rfl (lv_room (Nat.le_of_ble_eq_true rfl)) dX9_poolOf_2 ⟨by show _ ≤ 1; omega, by show _ ≤ 6; omega⟩) (fun E ce q9 μX H locs hw hI hce hcv hcl => ?_) (fun v1 μ2 H locs hw hI => ?_)
  · exact j_outz hno hlocks hI hce hcv hcl hw (by omega) (by omega)
  refine W.eq (g2 := F0 m 5 ls [va_rf v1]) rfl ?_
  obtain ⟨v3, hv3, hw⟩ := hw
  refine j_getz (C := RX0) (T := TX0) (N := 12) (ci := 3) (r := v1) (v := va_rf v3) hx hb hfX0 hown hK hI rfl 2 (by decide) (hts (.fieldLink RX9 151 "CashPools$Account" "pool" "LCashPools$Pool;") (List.mem_of_getElem? (i := 1) (by decide +kernel))) (fun _ h => h) hv3 dX9_poolOf_5 ?_
  obtain ⟨v4, hv4, hw⟩ := hw
  refine j_getz (C := RX6) (T := TX6) (N := 5) (ci := 9) (r := v3) (v := .int v4) hx hb hfX6 hown hK hI rfl 0 (by decide) (hts (.fieldLink RX9 155 "CashPools$Pool" "number" "I") (List.mem_of_getElem? (i := 2) (by decide +kernel))) (fun _ h => h) hv4 dX9_poolOf_8 ?_
  exact vx_ret (j_iretz hx hb hr hlocks hI hw (by omega) (by omega) dX9_poolOf_11)
set_option maxHeartbeats 4000000 in
set_option maxRecDepth 100000 in
theorem kX9_poolOf (l : Launch) (hfl : l.stackTraces = false) (D : jD) (z : Nat × Nat) (b : Nat) (x1 : Int32) (μ : jM) (sz : Nat) (Q : Int32 → jM → Prop) (X : String → jM → Prop) : vx_Met l yX9_poolOf wsX9_poolOf rmX9_poolOf (jPre2z D z μ sz [.ref b, .int x1] (wX9_poolOf z b x1 μ Q X)) (jRz jfI Q D z (jA z μ sz)) (jXCz X D z (jA z μ sz)) 1 6 (jA z μ sz) := by
  refine vx_ofW (cc := cX9_poolOf) (maxL := 2) (ret := (some .int)) (by decide) rfl ?_
  intro p e s m args below meth c s₁ B hml hno hv
  obtain ⟨rfl, hsz, hH, hz0, hK, hG, hw⟩ := hv
  subst hsz
  have hX : jX2 D z (jA z μ s.heap.size) p l s m _ meth c yX9_poolOf cX9_poolOf 2 wsX9_poolOf (some .int) := ⟨B.exec, B.bytes, hml, findClass_of_methodNamed B.named, atoms_spec (ws := wsX9_poolOf) B.pre, B.returns, B.notSynchronized, (name_of_methodNamed B.named B.method).1, hK, hG, hfl⟩
  obtain ⟨ls, hg, hl⟩ : ∃ ls : Array Slot, entryFrame m ([.ref b, .int x1] : List Value).toArray 2 = F0 m 0 ls [] ∧ lv_has ls 2 [(0, va_rf (some b)), (1, .int x1)] := by
    exact ⟨_, lg_entry_eq .., lv_entry _ (n := 2) (Nat.le_of_ble_eq_true rfl)⟩
  rw [hg]
  exact kX9_poolOf_0 hX hno hw (jIz.start hH hz0) (lv_sub hl [0, 1] rfl) (by decide) (by decide)
set_option maxHeartbeats 4000000 in
set_option maxRecDepth 100000 in
theorem kL_poolOf_0 (hX : jX2 D z A p l s m args meth c yL_poolOf cL_poolOf 4 wsL_poolOf (some .int)) (htab : c.exceptionTable.toList = ([⟨0, 9, 12, 21⟩] : List ExceptionTableEntry)) {Q : Int32 → jM → Prop}  {x0 : Option Nat} {x1 : Int32} {x2 : Option Nat} {μ : jM} {H : Heap} {locs : List Loc} {ls : Array Slot} {cells slots : Nat} (hw : wL_poolOf_0 z Q x0 x1 x2 μ) (hI : jIz D z A s.heap μ H locs) (hl : lv_has ls 4 [(0, va_rf x0), (1, .int x1), (2, va_rf x2)]) (hcn : cells + 1 ≤ 1) (hsn : slots + 6 ≤ 6) : W p l e rmL_poolOf s m args below meth c H locs cells slots (vx_MQ below (jRz jfI Q D z A) (jXCz (fun _ _ => False) D z A) args s 1 6 A) (F0 m 0 ls []) := by
  unfold wL_poolOf_0 at hw
  obtain ⟨hx, hb, hml, hown, hts, hr, hlocks, hnm, hK, hG, hfl⟩ := id hX
  have hown : s.vm.findClass RL = some m.cls := hown
  refine j_aload_n (r := x2) hx hb dL_poolOf_0 rfl (lv_at hl 2 rfl) ?_
  refine lv_iconst (v := (0)) hx hb dL_poolOf_1 (by decide) ?_
  refine j_aload_n (r := x0) hx hb dL_poolOf_2 rfl (lv_at hl 0 rfl) ?_
  refine lv_iload_n hx hb dL_poolOf_3 rfl (lv_at hl 1 rfl) ?_
  obtain ⟨b3, ⟨hrb3, hfs⟩, hw⟩ := hw
  refine j_goXz hI (vx_runV (As := [.int x1]) (rest := [.int (0 : Int32), va_rf x2]) ⟨hx, hb, hml, hown, hts⟩ (kX9_poolOf l hfl D z b3 x1 μ H.size _ _) (cwV 1 hts gL_poolOf_X9_poolOf rfl rfl rfl (by decide +kernel) ⟨Nat.le_of_ble_eq_true rfl, Nat.le_of_ble_eq_true rfl⟩) (j_prV2z hK hG hI hw (ci := 11) rfl hfs) rfl rfl hl.1 (by rw [hrb3]; rfl) (lv_room (by simp only [List.map, List.sum_cons, List.sum_nil, jrc, jci, jcl, jcr, jcn]; exact Nat.le_of_ble_eq_true rfl)) dL_poolOf_4 ⟨by show _ ≤ 1; omega, by show _ ≤ 6; omega⟩) (fun E ce q9 μX H locs hw hI hce hcv hcl => ?_) (fun v1 μ2 H locs hw hI => ?_)
  · obtain ⟨hw, rfl⟩ := hw
    · have hw := hw rfl
      refine vx_catch hown [] ⟨0, 9, 12, 21⟩ [] (name := "java/lang/IndexOutOfBoundsException") htab (fun z hz => absurd hz List.not_mem_nil) (by decide) (by decide) (hts (.classLink RL 21 "java/lang/IndexOutOfBoundsException") (List.mem_of_getElem? (i := 1) (by decide +kernel))) (va_Nw.use rfl (hG.2.2.2.2.2.2.2.2.1 _ (by decide +kernel))) hce hcv hcl ?_
      refine W.eq (g2 := F0 m 12 ls [va_rf (some q9)]) rfl ?_
      refine j_astore_nA (r := x2) (r0 := (some q9)) (F := fun w => [(0, va_rf x0), (1, .int x1), (2, w)]) (F2 := fun w => [(3, va_rf (some q9)), (0, va_rf x0), (1, .int x1), (2, w)]) hx hb dL_poolOf_12 rfl hl (by decide) (fun w hw => by rcases hw with rfl | ⟨_, rfl⟩ <;> rfl) (fun ls hl => ?_)
      refine lv_iconst (v := (1)) hx hb dL_poolOf_13 (by decide) ?_
      exact vx_ret (j_iretz hx hb hr hlocks hI hw (by omega) (by omega) dL_poolOf_14)
  refine W.eq (g2 := F0 m 7 ls [.int v1, .int (0 : Int32), va_rf x2]) rfl ?_
  refine lv_i2l hx hb dL_poolOf_7 rfl ?_
  obtain ⟨μ4, hμ4, hw⟩ := hw
  refine j_lastz (r := x2) hx hb hK hI hμ4 dL_poolOf_8 (fun H locs hI => ?_)
  refine lv_goto (tgt := 15) hx hb dL_poolOf_9 (by decide) ?_
  refine lv_iconst (v := (0)) hx hb dL_poolOf_15 (by decide) ?_
  exact vx_ret (j_iretz hx hb hr hlocks hI hw (by omega) (by omega) dL_poolOf_16)
set_option maxHeartbeats 4000000 in
set_option maxRecDepth 100000 in
theorem kL_poolOf (l : Launch) (hfl : l.stackTraces = false) (D : jD) (z : Nat × Nat) (x0 : Option Nat) (x1 : Int32) (x2 : Option Nat) (μ : jM) (sz : Nat) (Q : Int32 → jM → Prop) : vx_Met l yL_poolOf wsL_poolOf rmL_poolOf (jPre2z D z μ sz [va_rf x0, .int x1, va_rf x2] (wL_poolOf z x0 x1 x2 μ Q)) (jRz jfI Q D z (jA z μ sz)) (jXCz (fun _ _ => False) D z (jA z μ sz)) 1 6 (jA z μ sz) := by
  refine vx_ofWH (cc := cL_poolOf) (maxL := 4) (ret := (some .int)) (by decide) rfl ?_
  intro p e s m args below meth c s₁ B hml hv
  obtain ⟨rfl, hsz, hH, hz0, hK, hG, hw⟩ := hv
  subst hsz
  have hX : jX2 D z (jA z μ s.heap.size) p l s m _ meth c yL_poolOf cL_poolOf 4 wsL_poolOf (some .int) := ⟨B.exec, B.bytes, hml, findClass_of_methodNamed B.named, atoms_spec (ws := wsL_poolOf) B.pre, B.returns, B.notSynchronized, (name_of_methodNamed B.named B.method).1, hK, hG, hfl⟩
  obtain ⟨ls, hg, hl⟩ : ∃ ls : Array Slot, entryFrame m ([va_rf x0, .int x1, va_rf x2] : List Value).toArray 4 = F0 m 0 ls [] ∧ lv_has ls 4 [(0, va_rf x0), (1, .int x1), (2, va_rf x2)] := by
    cases x0 <;> cases x2 <;> exact ⟨_, lg_entry_eq .., lv_entry _ (n := 4) (Nat.le_of_ble_eq_true rfl)⟩
  rw [hg]
  exact kL_poolOf_0 hX ((vx_table (x := yL_poolOf) B (atoms_spec (ws := wsL_poolOf) B.pre _ (List.mem_of_getElem? (i := 0) rfl))).trans rfl) hw (jIz.start hH hz0) (lv_sub hl [0, 1, 2] rfl) (by decide) (by decide)
set_option maxHeartbeats 4000000 in
set_option maxRecDepth 100000 in
theorem kX9_balance_0 {b : Nat} (hX : jX2 D z A p l s m args meth c yX9_balance cX9_balance 2 wsX9_balance (some .long)) (hno : ∀ x ∈ c.exceptionTable.toList, False) {Q : Int64 → jM → Prop} {X : String → jM → Prop}  {x1 : Int32} {μ : jM} {H : Heap} {locs : List Loc} {ls : Array Slot} {cells slots : Nat} (hw : wX9_balance_0 z b Q X x1 μ) (hI : jIz D z A s.heap μ H locs) (hl : lv_has ls 2 [(0, va_rf (some b)), (1, .int x1)]) (hcn : cells + 1 ≤ 1) (hsn : slots + 6 ≤ 6) : W p l e rmX9_balance s m args below meth c H locs cells slots (vx_MQ below (jRz jfJ Q D z A) (jXCz X D z A) args s 1 6 A) (F0 m 0 ls []) := by
  unfold wX9_balance_0 at hw
  obtain ⟨hx, hb, hml, hown, hts, hr, hlocks, hnm, hK, hG, hfl⟩ := id hX
  have hown : s.vm.findClass RX9 = some m.cls := hown
  have hfX0 : ∀ w ∈ wsX00, w.before args s = true := fun w h => hts w (List.mem_cons_of_mem _ (List.mem_append_left _ (List.mem_append_left _ (List.mem_append_left _ (List.mem_append_left _ (List.mem_append_right _ h))))))
  refine j_aload_n (r := (some b)) hx hb dX9_balance_0 rfl (lv_at hl 0 rfl) ?_
  refine lv_iload_n hx hb dX9_balance_1 rfl (lv_at hl 1 rfl) ?_
  obtain ⟨hfs, hw⟩ := hw
  refine j_goXz hI (vx_runV (As := [.int x1]) (rest := []) ⟨hx, hb, hml, hown, hts⟩ (kX9_accountAt l hfl D z b x1 μ H.size _ _) (cwV 1 hts gX9_balance_X9_accountAt rfl rfl rfl (by decide +kernel) ⟨Nat.le_of_ble_eq_true rfl, Nat.le_of_ble_eq_true rfl⟩) (j_prV2z hK hG hI hw (ci := 11) rfl hfs) rfl rfl hl.1 rfl (lv_room (Nat.le_of_ble_eq_true rfl)) dX9_balance_2 ⟨by show _ ≤ 1; omega, by show _ ≤ 6; omega⟩) (fun E ce q9 μX H locs hw hI hce hcv hcl => ?_) (fun v1 μ2 H locs hw hI => ?_)
  · exact j_outz hno hlocks hI hce hcv hcl hw (by omega) (by omega)
  refine W.eq (g2 := F0 m 5 ls [va_rf v1]) rfl ?_
  obtain ⟨v3, hv3, hw⟩ := hw
  refine j_getz (C := RX0) (T := TX0) (N := 12) (ci := 3) (r := v1) (v := .long v3) hx hb hfX0 hown hK hI rfl 8 (by decide) (hts (.fieldLink RX9 119 "CashPools$Account" "cash" "J") (List.mem_of_getElem? (i := 1) (by decide +kernel))) (fun _ h => h) hv3 dX9_balance_5 ?_
  exact vx_ret (j_lretz hx hb hr hlocks hI hw (by omega) (by omega) dX9_balance_8)
set_option maxHeartbeats 4000000 in
set_option maxRecDepth 100000 in
theorem kX9_balance (l : Launch) (hfl : l.stackTraces = false) (D : jD) (z : Nat × Nat) (b : Nat) (x1 : Int32) (μ : jM) (sz : Nat) (Q : Int64 → jM → Prop) (X : String → jM → Prop) : vx_Met l yX9_balance wsX9_balance rmX9_balance (jPre2z D z μ sz [.ref b, .int x1] (wX9_balance z b x1 μ Q X)) (jRz jfJ Q D z (jA z μ sz)) (jXCz X D z (jA z μ sz)) 1 6 (jA z μ sz) := by
  refine vx_ofW (cc := cX9_balance) (maxL := 2) (ret := (some .long)) (by decide) rfl ?_
  intro p e s m args below meth c s₁ B hml hno hv
  obtain ⟨rfl, hsz, hH, hz0, hK, hG, hw⟩ := hv
  subst hsz
  have hX : jX2 D z (jA z μ s.heap.size) p l s m _ meth c yX9_balance cX9_balance 2 wsX9_balance (some .long) := ⟨B.exec, B.bytes, hml, findClass_of_methodNamed B.named, atoms_spec (ws := wsX9_balance) B.pre, B.returns, B.notSynchronized, (name_of_methodNamed B.named B.method).1, hK, hG, hfl⟩
  obtain ⟨ls, hg, hl⟩ : ∃ ls : Array Slot, entryFrame m ([.ref b, .int x1] : List Value).toArray 2 = F0 m 0 ls [] ∧ lv_has ls 2 [(0, va_rf (some b)), (1, .int x1)] := by
    exact ⟨_, lg_entry_eq .., lv_entry _ (n := 2) (Nat.le_of_ble_eq_true rfl)⟩
  rw [hg]
  exact kX9_balance_0 hX hno hw (jIz.start hH hz0) (lv_sub hl [0, 1] rfl) (by decide) (by decide)
set_option maxHeartbeats 4000000 in
set_option maxRecDepth 100000 in
theorem kL_balance_0 (hX : jX2 D z A p l s m args meth c yL_balance cL_balance 4 wsL_balance (some .int)) (htab : c.exceptionTable.toList = ([⟨0, 8, 11, 21⟩] : List ExceptionTableEntry)) {Q : Int32 → jM → Prop}  {x0 : Option Nat} {x1 : Int32} {x2 : Option Nat} {μ : jM} {H : Heap} {locs : List Loc} {ls : Array Slot} {cells slots : Nat} (hw : wL_balance_0 z Q x0 x1 x2 μ) (hI : jIz D z A s.heap μ H locs) (hl : lv_has ls 4 [(0, va_rf x0), (1, .int x1), (2, va_rf x2)]) (hcn : cells + 1 ≤ 1) (hsn : slots + 6 ≤ 6) : W p l e rmL_balance s m args below meth c H locs cells slots (vx_MQ below (jRz jfI Q D z A) (jXCz (fun _ _ => False) D z A) args s 1 6 A) (F0 m 0 ls []) := by
  unfold wL_balance_0 at hw
  obtain ⟨hx, hb, hml, hown, hts, hr, hlocks, hnm, hK, hG, hfl⟩ := id hX
  have hown : s.vm.findClass RL = some m.cls := hown
  refine j_aload_n (r := x2) hx hb dL_balance_0 rfl (lv_at hl 2 rfl) ?_
  refine lv_iconst (v := (0)) hx hb dL_balance_1 (by decide) ?_
  refine j_aload_n (r := x0) hx hb dL_balance_2 rfl (lv_at hl 0 rfl) ?_
  refine lv_iload_n hx hb dL_balance_3 rfl (lv_at hl 1 rfl) ?_
  obtain ⟨b3, ⟨hrb3, hfs⟩, hw⟩ := hw
  refine j_goXz hI (vx_runV (As := [.int x1]) (rest := [.int (0 : Int32), va_rf x2]) ⟨hx, hb, hml, hown, hts⟩ (kX9_balance l hfl D z b3 x1 μ H.size _ _) (cwV 1 hts gL_balance_X9_balance rfl rfl rfl (by decide +kernel) ⟨Nat.le_of_ble_eq_true rfl, Nat.le_of_ble_eq_true rfl⟩) (j_prV2z hK hG hI hw (ci := 11) rfl hfs) rfl rfl hl.1 (by rw [hrb3]; rfl) (lv_room (by simp only [List.map, List.sum_cons, List.sum_nil, jrc, jci, jcl, jcr, jcn]; exact Nat.le_of_ble_eq_true rfl)) dL_balance_4 ⟨by show _ ≤ 1; omega, by show _ ≤ 6; omega⟩) (fun E ce q9 μX H locs hw hI hce hcv hcl => ?_) (fun v1 μ2 H locs hw hI => ?_)
  · obtain ⟨hw, rfl⟩ := hw
    · have hw := hw rfl
      refine vx_catch hown [] ⟨0, 8, 11, 21⟩ [] (name := "java/lang/IndexOutOfBoundsException") htab (fun z hz => absurd hz List.not_mem_nil) (by decide) (by decide) (hts (.classLink RL 21 "java/lang/IndexOutOfBoundsException") (List.mem_of_getElem? (i := 1) (by decide +kernel))) (va_Nw.use rfl (hG.2.2.2.2.2.2.2.2.1 _ (by decide +kernel))) hce hcv hcl ?_
      refine W.eq (g2 := F0 m 11 ls [va_rf (some q9)]) rfl ?_
      refine j_astore_nA (r := x2) (r0 := (some q9)) (F := fun w => [(0, va_rf x0), (1, .int x1), (2, w)]) (F2 := fun w => [(3, va_rf (some q9)), (0, va_rf x0), (1, .int x1), (2, w)]) hx hb dL_balance_11 rfl hl (by decide) (fun w hw => by rcases hw with rfl | ⟨_, rfl⟩ <;> rfl) (fun ls hl => ?_)
      refine lv_iconst (v := (1)) hx hb dL_balance_12 (by decide) ?_
      exact vx_ret (j_iretz hx hb hr hlocks hI hw (by omega) (by omega) dL_balance_13)
  refine W.eq (g2 := F0 m 7 ls [.long v1, .int (0 : Int32), va_rf x2]) rfl ?_
  obtain ⟨μ4, hμ4, hw⟩ := hw
  refine j_lastz (r := x2) hx hb hK hI hμ4 dL_balance_7 (fun H locs hI => ?_)
  refine lv_goto (tgt := 14) hx hb dL_balance_8 (by decide) ?_
  refine lv_iconst (v := (0)) hx hb dL_balance_14 (by decide) ?_
  exact vx_ret (j_iretz hx hb hr hlocks hI hw (by omega) (by omega) dL_balance_15)
set_option maxHeartbeats 4000000 in
set_option maxRecDepth 100000 in
theorem kL_balance (l : Launch) (hfl : l.stackTraces = false) (D : jD) (z : Nat × Nat) (x0 : Option Nat) (x1 : Int32) (x2 : Option Nat) (μ : jM) (sz : Nat) (Q : Int32 → jM → Prop) : vx_Met l yL_balance wsL_balance rmL_balance (jPre2z D z μ sz [va_rf x0, .int x1, va_rf x2] (wL_balance z x0 x1 x2 μ Q)) (jRz jfI Q D z (jA z μ sz)) (jXCz (fun _ _ => False) D z (jA z μ sz)) 1 6 (jA z μ sz) := by
  refine vx_ofWH (cc := cL_balance) (maxL := 4) (ret := (some .int)) (by decide) rfl ?_
  intro p e s m args below meth c s₁ B hml hv
  obtain ⟨rfl, hsz, hH, hz0, hK, hG, hw⟩ := hv
  subst hsz
  have hX : jX2 D z (jA z μ s.heap.size) p l s m _ meth c yL_balance cL_balance 4 wsL_balance (some .int) := ⟨B.exec, B.bytes, hml, findClass_of_methodNamed B.named, atoms_spec (ws := wsL_balance) B.pre, B.returns, B.notSynchronized, (name_of_methodNamed B.named B.method).1, hK, hG, hfl⟩
  obtain ⟨ls, hg, hl⟩ : ∃ ls : Array Slot, entryFrame m ([va_rf x0, .int x1, va_rf x2] : List Value).toArray 4 = F0 m 0 ls [] ∧ lv_has ls 4 [(0, va_rf x0), (1, .int x1), (2, va_rf x2)] := by
    cases x0 <;> cases x2 <;> exact ⟨_, lg_entry_eq .., lv_entry _ (n := 4) (Nat.le_of_ble_eq_true rfl)⟩
  rw [hg]
  exact kL_balance_0 hX ((vx_table (x := yL_balance) B (atoms_spec (ws := wsL_balance) B.pre _ (List.mem_of_getElem? (i := 0) rfl))).trans rfl) hw (jIz.start hH hz0) (lv_sub hl [0, 1, 2] rfl) (by decide) (by decide)
set_option maxHeartbeats 4000000 in
set_option maxRecDepth 100000 in
theorem kX8_sumFrom_16 (hX : jX2 D z A p l s m args meth c yX8_sumFrom cX8_sumFrom 5 wsX8_sumFrom (some .long)) {Q : Int64 → jM → Prop} {nR : Nat} {RC : Option Nat → Int32 → jM → (Int64 → jM → Prop) → Prop} (hRC : ∀ (y0 : Option Nat) (y1 : Int32) (μ : jM) (sz : Nat) (Q : Int64 → jM → Prop), Met l yX8_sumFrom wsX8_sumFrom (rmX8_sumFrom nR) (jPre2z D z μ sz [va_rf y0, .int y1] (RC y0 y1 μ Q)) (jRz jfJ Q D z (jA z μ sz)) 0 0 (jA z μ sz)) (n : Nat) : ∀ {x0 : Option Nat} {x1 : Int32} {x2 : Int64} {x4 : Int32} {μ : jM} {H : Heap} {locs : List Loc} {ls : Array Slot} {cells slots : Nat}, wX8_sumFrom_16 z RC Q n x0 x1 x2 x4 μ → jIz D z A s.heap μ H locs → lv_has ls 5 [(0, va_rf x0), (1, .int x1), (2, .long x2), (4, .int x4)] → cells + 0 ≤ 0 → slots + 0 ≤ 0 → W p l e (rmX8_sumFrom (nR + 1)) s m args below meth c H locs cells slots (MQ below (jRz jfJ Q D z A) args s 0 0 A) (F0 m 16 ls []) := by
  induction n with
  | zero =>
    intros
    rename_i hw _ _ _ _
    exact (show False from hw).elim
  | succ n ih =>
    intro x0 x1 x2 x4 μ H locs ls cells slots hw hI hl hcn hsn
    have hw : wX8_sumFrom_16_b z RC Q (wX8_sumFrom_16 z RC Q n) x0 x1 x2 x4 μ := hw
    unfold wX8_sumFrom_16_b at hw
    obtain ⟨hx, hb, hml, hown, hts, hr, hlocks, hnm, hK, hG, hfl⟩ := id hX
    have hown : s.vm.findClass RX8 = some m.cls := hown
    have hfX0 : ∀ w ∈ wsX00, w.before args s = true := fun w h => hts w (List.mem_cons_of_mem _ (List.mem_append_left _ (List.mem_append_right _ h)))
    refine lv_iload hx hb dX8_sumFrom_16 (lv_at hl 3 rfl) ?_
    refine j_aload_n (r := x0) hx hb dX8_sumFrom_18 rfl (lv_at hl 0 rfl) ?_
    obtain ⟨v1, hv1, hw⟩ := hw
    refine j_getz (C := RX0) (T := TX0) (N := 12) (ci := 3) (r := x0) (v := va_rf v1) hx hb hfX0 hown hK hI rfl 4 (by decide) (hts (.fieldLink RX8 15 "CashPools$Account" "children" "Ljava/util/ArrayList;") (List.mem_of_getElem? (i := 2) (by decide +kernel))) (fun _ h => h) hv1 dX8_sumFrom_19 ?_
    obtain ⟨b4, ⟨hrb4, hfs⟩, hw⟩ := hw
    refine j_goz hI (va_runV (As := []) (rest := [.int x4]) ⟨hx, hb, hml, hown, hts⟩ (kJx4a65c_size_8abf5 l hfl D z b4  μ H.size _) (cwV 0 hts gX8_sumFrom_Jx4a65c_size_8abf5 rfl rfl rfl (by decide +kernel) ⟨by show 1 ≤ nR + 1 + 3; omega, by show 20 ≤ (nR + 1) * 24 + 64; omega⟩) (j_prV2z hK hG hI hw (ci := 2) rfl hfs) rfl rfl hl.1 (by rw [hrb4]; rfl) (lv_room (Nat.le_of_ble_eq_true rfl)) dX8_sumFrom_22 ⟨by show _ ≤ 0; omega, by show _ ≤ 0; omega⟩) (fun v2 μ3 H locs hw hI => ?_)
    refine W.eq (g2 := F0 m 25 ls [.int v2, .int x4]) rfl ?_
    refine lv_icmp_ge (tgt := 55) hx hb dX8_sumFrom_25 (by decide) (fun hc => ?_) (fun hc => ?_)
    · have hw := hw.1 hc
      refine lv_lload_n hx hb dX8_sumFrom_55 rfl (lv_at hl 2 rfl) ?_
      exact j_lretz hx hb hr hlocks hI hw (by omega) (by omega) dX8_sumFrom_56
    · have hw := hw.2 hc
      refine lv_lload_n hx hb dX8_sumFrom_28 rfl (lv_at hl 2 rfl) ?_
      refine j_aload_n (r := x0) hx hb dX8_sumFrom_29 rfl (lv_at hl 0 rfl) ?_
      obtain ⟨v5, hv5, hw⟩ := hw
      refine j_getz (C := RX0) (T := TX0) (N := 12) (ci := 3) (r := x0) (v := va_rf v5) hx hb hfX0 hown hK hI rfl 4 (by decide) (hts (.fieldLink RX8 15 "CashPools$Account" "children" "Ljava/util/ArrayList;") (List.mem_of_getElem? (i := 2) (by decide +kernel))) (fun _ h => h) hv5 dX8_sumFrom_30 ?_
      refine lv_iload hx hb dX8_sumFrom_33 (lv_at hl 3 rfl) ?_
      obtain ⟨b8, ⟨hrb8, hfs⟩, hw⟩ := hw
      refine j_goz hI (va_runV (As := [.int x4]) (rest := [.long x2]) ⟨hx, hb, hml, hown, hts⟩ (kJx4a65c_get_915e3 l hfl D z b8 x4 μ3 H.size _) (cwV 1 hts gX8_sumFrom_Jx4a65c_get_915e3 rfl rfl rfl (by decide +kernel) ⟨by show 3 ≤ nR + 1 + 3; omega, by show 64 ≤ (nR + 1) * 24 + 64; omega⟩) (j_prV2z hK hG hI hw (ci := 2) rfl hfs) rfl rfl hl.1 (by rw [hrb8]; rfl) (lv_room (Nat.le_of_ble_eq_true rfl)) dX8_sumFrom_35 ⟨by show _ ≤ 0; omega, by show _ ≤ 0; omega⟩) (fun v6 μ7 H locs hw hI => ?_)
      refine W.eq (g2 := F0 m 38 ls [va_rf v6, .long x2]) rfl ?_
      obtain ⟨h9, hw⟩ := hw
      refine j_castz (C := RX0) (T := TX0) (N := 12) (ci := 3) (r := v6) hx hb hown (hts (.classLink RX8 10 "CashPools$Account") (List.mem_of_getElem? (i := 3) (by decide +kernel))) hK hI rfl h9 dX8_sumFrom_38 ?_
      refine lv_iload_n hx hb dX8_sumFrom_41 rfl (lv_at hl 1 rfl) ?_
      refine lv_iconst (v := (1)) hx hb dX8_sumFrom_42 (by decide) ?_
      refine lv_iadd hx hb dX8_sumFrom_43 ?_
      refine j_goz hI (va_runS (As := [va_rf v6, .int (x1 + (1 : Int32))]) (rest := [.long x2]) ⟨hx, hb, hml, hown, hts⟩ (hRC v6 (x1 + (1 : Int32)) μ7 H.size _) (va_cwS 2 hts gX8_sumFrom_X8_sumFrom rfl rfl rfl (by decide +kernel) ⟨by show nR + 3 + 1 ≤ nR + 1 + 3; omega, by show 8 + (5 + 11) + (nR * 24 + 64) ≤ (nR + 1) * 24 + 64; omega⟩) (j_prS2z hK hG hI hw) rfl rfl hl.1 rfl (lv_room (Nat.le_of_ble_eq_true rfl)) dX8_sumFrom_44 ⟨by show _ ≤ 0; omega, by show _ ≤ 0; omega⟩) (fun v10 μ11 H locs hw hI => ?_)
      refine W.eq (g2 := F0 m 47 ls [.long v10, .long x2]) rfl ?_
      refine lv_ladd hx hb dX8_sumFrom_47 ?_
      refine lv_topl (fun v12 ev12 => ?_)
      have hw := hw v12 ev12
      refine lv_lstore_n (lv' := [(2, .long v12), (0, va_rf x0), (1, .int x1), (4, .int x4)]) hx hb dX8_sumFrom_48 rfl hl (by decide) rfl (fun ls hl => ?_)
      obtain ⟨v13, ev13⟩ : ∃ y : Int32, y = x4 + (1 : Int32) := ⟨_, rfl⟩
      have hw := hw v13 ev13
      refine lv_iinc (v := v13) (lv' := [(4, .int v13), (2, .long v12), (0, va_rf x0), (1, .int x1)]) hx hb dX8_sumFrom_49 hl (k := 3) rfl (by rw [ev13]; rfl) (by decide) rfl (fun ls hl => ?_)
      refine lv_goto (tgt := 16) hx hb dX8_sumFrom_52 (by decide) ?_
      exact ih hw hI (lv_sub hl [2, 3, 1, 0] rfl) (by omega) (by omega)
set_option maxHeartbeats 4000000 in
set_option maxRecDepth 100000 in
theorem kX8_sumFrom_0 (hX : jX2 D z A p l s m args meth c yX8_sumFrom cX8_sumFrom 5 wsX8_sumFrom (some .long)) {Q : Int64 → jM → Prop} {nR : Nat} {RC : Option Nat → Int32 → jM → (Int64 → jM → Prop) → Prop} (hRC : ∀ (y0 : Option Nat) (y1 : Int32) (μ : jM) (sz : Nat) (Q : Int64 → jM → Prop), Met l yX8_sumFrom wsX8_sumFrom (rmX8_sumFrom nR) (jPre2z D z μ sz [va_rf y0, .int y1] (RC y0 y1 μ Q)) (jRz jfJ Q D z (jA z μ sz)) 0 0 (jA z μ sz)) {x0 : Option Nat} {x1 : Int32} {μ : jM} {H : Heap} {locs : List Loc} {ls : Array Slot} {cells slots : Nat} (hw : wX8_sumFrom_0 z RC Q x0 x1 μ) (hI : jIz D z A s.heap μ H locs) (hl : lv_has ls 5 [(0, va_rf x0), (1, .int x1)]) (hcn : cells + 0 ≤ 0) (hsn : slots + 0 ≤ 0) : W p l e (rmX8_sumFrom (nR + 1)) s m args below meth c H locs cells slots (MQ below (jRz jfJ Q D z A) args s 0 0 A) (F0 m 0 ls []) := by
  unfold wX8_sumFrom_0 at hw
  obtain ⟨hx, hb, hml, hown, hts, hr, hlocks, hnm, hK, hG, hfl⟩ := id hX
  have hown : s.vm.findClass RX8 = some m.cls := hown
  have hfX0 : ∀ w ∈ wsX00, w.before args s = true := fun w h => hts w (List.mem_cons_of_mem _ (List.mem_append_left _ (List.mem_append_right _ h)))
  refine lv_iload_n hx hb dX8_sumFrom_0 rfl (lv_at hl 1 rfl) ?_
  refine lv_bipush (v := (10)) hx hb dX8_sumFrom_1 (by decide) ?_
  refine lv_icmp_le (tgt := 8) hx hb dX8_sumFrom_3 (by decide) (fun hc => ?_) (fun hc => ?_)
  · have hw := hw.1 hc
    refine j_aload_n (r := x0) hx hb dX8_sumFrom_8 rfl (lv_at hl 0 rfl) ?_
    obtain ⟨v1, hv1, hw⟩ := hw
    refine j_getz (C := RX0) (T := TX0) (N := 12) (ci := 3) (r := x0) (v := .long v1) hx hb hfX0 hown hK hI rfl 8 (by decide) (hts (.fieldLink RX8 9 "CashPools$Account" "cash" "J") (List.mem_of_getElem? (i := 1) (by decide +kernel))) (fun _ h => h) hv1 dX8_sumFrom_9 ?_
    refine lv_lstore_n (lv' := [(2, .long v1), (0, va_rf x0), (1, .int x1)]) hx hb dX8_sumFrom_12 rfl hl (by decide) rfl (fun ls hl => ?_)
    refine lv_iconst (v := (0)) hx hb dX8_sumFrom_13 (by decide) ?_
    refine lv_topi (fun v2 ev2 => ?_)
    have hw := hw v2 ev2
    refine lv_istore (lv' := [(4, .int v2), (2, .long v1), (0, va_rf x0), (1, .int x1)]) hx hb dX8_sumFrom_14 hl (by decide) rfl (fun ls hl => ?_)
    obtain ⟨n3, hw⟩ := hw
    exact kX8_sumFrom_16 hX hRC n3 hw hI (lv_sub hl [2, 3, 1, 0] rfl) (by omega) (by omega)
  · have hw := hw.2 hc
    refine lv_lconst (v := (0)) hx hb dX8_sumFrom_6 (by decide) ?_
    exact j_lretz hx hb hr hlocks hI hw (by omega) (by omega) dX8_sumFrom_7
set_option maxHeartbeats 4000000 in
set_option maxRecDepth 100000 in
theorem kX8_sumFrom_r (l : Launch) (hfl : l.stackTraces = false) (D : jD) (z : Nat × Nat) (n : Nat) : ∀ (x0 : Option Nat) (x1 : Int32) (μ : jM) (sz : Nat) (Q : Int64 → jM → Prop), Met l yX8_sumFrom wsX8_sumFrom (rmX8_sumFrom n) (jPre2z D z μ sz [va_rf x0, .int x1] (wX8_sumFrom z n x0 x1 μ Q)) (jRz jfJ Q D z (jA z μ sz)) 0 0 (jA z μ sz) := by
  induction n with
  | zero =>
    intro x0 x1 μ sz Q
    refine Met.ofW (cc := cX8_sumFrom) (maxL := 5) (ret := (some .long)) (by decide) rfl ?_
    intro p e s m args below meth c s₁ B hml hv
    obtain ⟨_, _, _, _, _, _, hw⟩ := hv
    exact (show False from hw).elim
  | succ n ih =>
    intro x0 x1 μ sz Q
    refine Met.ofW (cc := cX8_sumFrom) (maxL := 5) (ret := (some .long)) (by decide) rfl ?_
    intro p e s m args below meth c s₁ B hml hv
    obtain ⟨rfl, hsz, hH, hz0, hK, hG, hw⟩ := hv
    subst hsz
    have hX : jX2 D z (jA z μ s.heap.size) p l s m _ meth c yX8_sumFrom cX8_sumFrom 5 wsX8_sumFrom (some .long) := ⟨B.exec, B.bytes, hml, findClass_of_methodNamed B.named, atoms_spec (ws := wsX8_sumFrom) B.pre, B.returns, B.notSynchronized, (name_of_methodNamed B.named B.method).1, hK, hG, hfl⟩
    obtain ⟨ls, hg, hl⟩ : ∃ ls : Array Slot, entryFrame m ([va_rf x0, .int x1] : List Value).toArray 5 = F0 m 0 ls [] ∧ lv_has ls 5 [(0, va_rf x0), (1, .int x1)] := by
      cases x0 <;> exact ⟨_, lg_entry_eq .., lv_entry _ (n := 5) (Nat.le_of_ble_eq_true rfl)⟩
    rw [hg]
    exact kX8_sumFrom_0 hX ih hw (jIz.start hH hz0) (lv_sub hl [0, 1] rfl) (by decide) (by decide)
theorem kX8_sumFrom (l : Launch) (hfl : l.stackTraces = false) (D : jD) (z : Nat × Nat) (x0 : Option Nat) (x1 : Int32) (μ : jM) (sz : Nat) (Q : Int64 → jM → Prop) : Met l yX8_sumFrom wsX8_sumFrom (rmX8_sumFrom 12) (jPre2z D z μ sz [va_rf x0, .int x1] (wX8_sumFrom z 12 x0 x1 μ Q)) (jRz jfJ Q D z (jA z μ sz)) 0 0 (jA z μ sz) := kX8_sumFrom_r l hfl D z 12 x0 x1 μ sz Q
set_option maxHeartbeats 4000000 in
set_option maxRecDepth 100000 in
theorem kX9_total_0 {b : Nat} (hX : jX2 D z A p l s m args meth c yX9_total cX9_total 2 wsX9_total (some .long)) (hno : ∀ x ∈ c.exceptionTable.toList, False) {Q : Int64 → jM → Prop} {X : String → jM → Prop}  {x1 : Int32} {μ : jM} {H : Heap} {locs : List Loc} {ls : Array Slot} {cells slots : Nat} (hw : wX9_total_0 z b Q X x1 μ) (hI : jIz D z A s.heap μ H locs) (hl : lv_has ls 2 [(0, va_rf (some b)), (1, .int x1)]) (hcn : cells + 1 ≤ 1) (hsn : slots + 6 ≤ 6) : W p l e rmX9_total s m args below meth c H locs cells slots (vx_MQ below (jRz jfJ Q D z A) (jXCz X D z A) args s 1 6 A) (F0 m 0 ls []) := by
  unfold wX9_total_0 at hw
  obtain ⟨hx, hb, hml, hown, hts, hr, hlocks, hnm, hK, hG, hfl⟩ := id hX
  have hown : s.vm.findClass RX9 = some m.cls := hown
  refine j_aload_n (r := (some b)) hx hb dX9_total_0 rfl (lv_at hl 0 rfl) ?_
  refine lv_iload_n hx hb dX9_total_1 rfl (lv_at hl 1 rfl) ?_
  obtain ⟨hfs, hw⟩ := hw
  refine j_goXz hI (vx_runV (As := [.int x1]) (rest := []) ⟨hx, hb, hml, hown, hts⟩ (kX9_accountAt l hfl D z b x1 μ H.size _ _) (cwV 1 hts gX9_total_X9_accountAt rfl rfl rfl (by decide +kernel) ⟨Nat.le_of_ble_eq_true rfl, Nat.le_of_ble_eq_true rfl⟩) (j_prV2z hK hG hI hw (ci := 11) rfl hfs) rfl rfl hl.1 rfl (lv_room (Nat.le_of_ble_eq_true rfl)) dX9_total_2 ⟨by show _ ≤ 1; omega, by show _ ≤ 6; omega⟩) (fun E ce q9 μX H locs hw hI hce hcv hcl => ?_) (fun v1 μ2 H locs hw hI => ?_)
  · exact j_outz hno hlocks hI hce hcv hcl hw (by omega) (by omega)
  refine W.eq (g2 := F0 m 5 ls [va_rf v1]) rfl ?_
  refine lv_iconst (v := (0)) hx hb dX9_total_5 (by decide) ?_
  refine j_goz hI (va_runSN (As := [va_rf v1, .int (0 : Int32)]) (rest := []) ⟨hx, hb, hml, hown, hts⟩ (kX8_sumFrom l hfl D z v1 (0 : Int32) μ2 H.size _) ⟨va_cnB 2 hts gX9_total_X8_sumFrom_n160 rfl rfl rfl hG.2.2.2.2.2.2.2.2.2.2.2.1 (hts (.initialized RX8) (List.mem_of_getElem? (i := 35) (by decide +kernel))) (by decide +kernel) ⟨Nat.le_of_ble_eq_true rfl, Nat.le_of_ble_eq_true rfl⟩, (hts (.static yX8_sumFrom) (List.mem_of_getElem? (i := 34) (by decide +kernel))), trivial⟩ (j_prS2z hK hG hI hw) rfl rfl hl.1 rfl (lv_room (Nat.le_of_ble_eq_true rfl)) dX9_total_6 ⟨by show _ ≤ 1; omega, by show _ ≤ 6; omega⟩) (fun v3 μ4 H locs hw hI => ?_)
  refine W.eq (g2 := F0 m 9 ls [.long v3]) rfl ?_
  exact vx_ret (j_lretz hx hb hr hlocks hI hw (by omega) (by omega) dX9_total_9)
set_option maxHeartbeats 4000000 in
set_option maxRecDepth 100000 in
theorem kX9_total (l : Launch) (hfl : l.stackTraces = false) (D : jD) (z : Nat × Nat) (b : Nat) (x1 : Int32) (μ : jM) (sz : Nat) (Q : Int64 → jM → Prop) (X : String → jM → Prop) : vx_Met l yX9_total wsX9_total rmX9_total (jPre2z D z μ sz [.ref b, .int x1] (wX9_total z b x1 μ Q X)) (jRz jfJ Q D z (jA z μ sz)) (jXCz X D z (jA z μ sz)) 1 6 (jA z μ sz) := by
  refine vx_ofW (cc := cX9_total) (maxL := 2) (ret := (some .long)) (by decide) rfl ?_
  intro p e s m args below meth c s₁ B hml hno hv
  obtain ⟨rfl, hsz, hH, hz0, hK, hG, hw⟩ := hv
  subst hsz
  have hX : jX2 D z (jA z μ s.heap.size) p l s m _ meth c yX9_total cX9_total 2 wsX9_total (some .long) := ⟨B.exec, B.bytes, hml, findClass_of_methodNamed B.named, atoms_spec (ws := wsX9_total) B.pre, B.returns, B.notSynchronized, (name_of_methodNamed B.named B.method).1, hK, hG, hfl⟩
  obtain ⟨ls, hg, hl⟩ : ∃ ls : Array Slot, entryFrame m ([.ref b, .int x1] : List Value).toArray 2 = F0 m 0 ls [] ∧ lv_has ls 2 [(0, va_rf (some b)), (1, .int x1)] := by
    exact ⟨_, lg_entry_eq .., lv_entry _ (n := 2) (Nat.le_of_ble_eq_true rfl)⟩
  rw [hg]
  exact kX9_total_0 hX hno hw (jIz.start hH hz0) (lv_sub hl [0, 1] rfl) (by decide) (by decide)
set_option maxHeartbeats 4000000 in
set_option maxRecDepth 100000 in
theorem kL_total_0 (hX : jX2 D z A p l s m args meth c yL_total cL_total 4 wsL_total (some .int)) (htab : c.exceptionTable.toList = ([⟨0, 8, 11, 21⟩] : List ExceptionTableEntry)) {Q : Int32 → jM → Prop}  {x0 : Option Nat} {x1 : Int32} {x2 : Option Nat} {μ : jM} {H : Heap} {locs : List Loc} {ls : Array Slot} {cells slots : Nat} (hw : wL_total_0 z Q x0 x1 x2 μ) (hI : jIz D z A s.heap μ H locs) (hl : lv_has ls 4 [(0, va_rf x0), (1, .int x1), (2, va_rf x2)]) (hcn : cells + 1 ≤ 1) (hsn : slots + 6 ≤ 6) : W p l e rmL_total s m args below meth c H locs cells slots (vx_MQ below (jRz jfI Q D z A) (jXCz (fun _ _ => False) D z A) args s 1 6 A) (F0 m 0 ls []) := by
  unfold wL_total_0 at hw
  obtain ⟨hx, hb, hml, hown, hts, hr, hlocks, hnm, hK, hG, hfl⟩ := id hX
  have hown : s.vm.findClass RL = some m.cls := hown
  refine j_aload_n (r := x2) hx hb dL_total_0 rfl (lv_at hl 2 rfl) ?_
  refine lv_iconst (v := (0)) hx hb dL_total_1 (by decide) ?_
  refine j_aload_n (r := x0) hx hb dL_total_2 rfl (lv_at hl 0 rfl) ?_
  refine lv_iload_n hx hb dL_total_3 rfl (lv_at hl 1 rfl) ?_
  obtain ⟨b3, ⟨hrb3, hfs⟩, hw⟩ := hw
  refine j_goXz hI (vx_runV (As := [.int x1]) (rest := [.int (0 : Int32), va_rf x2]) ⟨hx, hb, hml, hown, hts⟩ (kX9_total l hfl D z b3 x1 μ H.size _ _) (cwV 1 hts gL_total_X9_total rfl rfl rfl (by decide +kernel) ⟨Nat.le_of_ble_eq_true rfl, Nat.le_of_ble_eq_true rfl⟩) (j_prV2z hK hG hI hw (ci := 11) rfl hfs) rfl rfl hl.1 (by rw [hrb3]; rfl) (lv_room (by simp only [List.map, List.sum_cons, List.sum_nil, jrc, jci, jcl, jcr, jcn]; exact Nat.le_of_ble_eq_true rfl)) dL_total_4 ⟨by show _ ≤ 1; omega, by show _ ≤ 6; omega⟩) (fun E ce q9 μX H locs hw hI hce hcv hcl => ?_) (fun v1 μ2 H locs hw hI => ?_)
  · obtain ⟨hw, rfl⟩ := hw
    · have hw := hw rfl
      refine vx_catch hown [] ⟨0, 8, 11, 21⟩ [] (name := "java/lang/IndexOutOfBoundsException") htab (fun z hz => absurd hz List.not_mem_nil) (by decide) (by decide) (hts (.classLink RL 21 "java/lang/IndexOutOfBoundsException") (List.mem_of_getElem? (i := 1) (by decide +kernel))) (va_Nw.use rfl (hG.2.2.2.2.2.2.2.2.1 _ (by decide +kernel))) hce hcv hcl ?_
      refine W.eq (g2 := F0 m 11 ls [va_rf (some q9)]) rfl ?_
      refine j_astore_nA (r := x2) (r0 := (some q9)) (F := fun w => [(0, va_rf x0), (1, .int x1), (2, w)]) (F2 := fun w => [(3, va_rf (some q9)), (0, va_rf x0), (1, .int x1), (2, w)]) hx hb dL_total_11 rfl hl (by decide) (fun w hw => by rcases hw with rfl | ⟨_, rfl⟩ <;> rfl) (fun ls hl => ?_)
      refine lv_iconst (v := (1)) hx hb dL_total_12 (by decide) ?_
      exact vx_ret (j_iretz hx hb hr hlocks hI hw (by omega) (by omega) dL_total_13)
  refine W.eq (g2 := F0 m 7 ls [.long v1, .int (0 : Int32), va_rf x2]) rfl ?_
  obtain ⟨μ4, hμ4, hw⟩ := hw
  refine j_lastz (r := x2) hx hb hK hI hμ4 dL_total_7 (fun H locs hI => ?_)
  refine lv_goto (tgt := 14) hx hb dL_total_8 (by decide) ?_
  refine lv_iconst (v := (0)) hx hb dL_total_14 (by decide) ?_
  exact vx_ret (j_iretz hx hb hr hlocks hI hw (by omega) (by omega) dL_total_15)
set_option maxHeartbeats 4000000 in
set_option maxRecDepth 100000 in
theorem kL_total (l : Launch) (hfl : l.stackTraces = false) (D : jD) (z : Nat × Nat) (x0 : Option Nat) (x1 : Int32) (x2 : Option Nat) (μ : jM) (sz : Nat) (Q : Int32 → jM → Prop) : vx_Met l yL_total wsL_total rmL_total (jPre2z D z μ sz [va_rf x0, .int x1, va_rf x2] (wL_total z x0 x1 x2 μ Q)) (jRz jfI Q D z (jA z μ sz)) (jXCz (fun _ _ => False) D z (jA z μ sz)) 1 6 (jA z μ sz) := by
  refine vx_ofWH (cc := cL_total) (maxL := 4) (ret := (some .int)) (by decide) rfl ?_
  intro p e s m args below meth c s₁ B hml hv
  obtain ⟨rfl, hsz, hH, hz0, hK, hG, hw⟩ := hv
  subst hsz
  have hX : jX2 D z (jA z μ s.heap.size) p l s m _ meth c yL_total cL_total 4 wsL_total (some .int) := ⟨B.exec, B.bytes, hml, findClass_of_methodNamed B.named, atoms_spec (ws := wsL_total) B.pre, B.returns, B.notSynchronized, (name_of_methodNamed B.named B.method).1, hK, hG, hfl⟩
  obtain ⟨ls, hg, hl⟩ : ∃ ls : Array Slot, entryFrame m ([va_rf x0, .int x1, va_rf x2] : List Value).toArray 4 = F0 m 0 ls [] ∧ lv_has ls 4 [(0, va_rf x0), (1, .int x1), (2, va_rf x2)] := by
    cases x0 <;> cases x2 <;> exact ⟨_, lg_entry_eq .., lv_entry _ (n := 4) (Nat.le_of_ble_eq_true rfl)⟩
  rw [hg]
  exact kL_total_0 hX ((vx_table (x := yL_total) B (atoms_spec (ws := wsL_total) B.pre _ (List.mem_of_getElem? (i := 0) rfl))).trans rfl) hw (jIz.start hH hz0) (lv_sub hl [0, 1, 2] rfl) (by decide) (by decide)
set_option maxHeartbeats 4000000 in
set_option maxRecDepth 100000 in
theorem kX9_exposure_0 {b : Nat} (hX : jX2 D z A p l s m args meth c yX9_exposure cX9_exposure 3 wsX9_exposure (some .long)) (hno : ∀ x ∈ c.exceptionTable.toList, False) {Q : Int64 → jM → Prop} {X : String → jM → Prop}  {x1 : Int32} {μ : jM} {H : Heap} {locs : List Loc} {ls : Array Slot} {cells slots : Nat} (hw : wX9_exposure_0 z b Q X x1 μ) (hI : jIz D z A s.heap μ H locs) (hl : lv_has ls 3 [(0, va_rf (some b)), (1, .int x1)]) (hcn : cells + 1 ≤ 1) (hsn : slots + 6 ≤ 6) : W p l e rmX9_exposure s m args below meth c H locs cells slots (vx_MQ below (jRz jfJ Q D z A) (jXCz X D z A) args s 1 6 A) (F0 m 0 ls []) := by
  unfold wX9_exposure_0 at hw
  obtain ⟨hx, hb, hml, hown, hts, hr, hlocks, hnm, hK, hG, hfl⟩ := id hX
  have hown : s.vm.findClass RX9 = some m.cls := hown
  have hfX1 : ∀ w ∈ wsX10, w.before args s = true := fun w h => hts w (List.mem_cons_of_mem _ (List.mem_append_left _ (List.mem_append_left _ (List.mem_append_left _ (List.mem_append_left _ (List.mem_append_right _ h))))))
  have hfX9 : ∀ w ∈ wsX90, w.before args s = true := fun w h => hts w (List.mem_cons_of_mem _ (List.mem_append_left _ (List.mem_append_left _ (List.mem_append_left _ (List.mem_append_left _ (List.mem_append_left _ (List.mem_append_right _ h)))))))
  refine j_aload_n (r := (some b)) hx hb dX9_exposure_0 rfl (lv_at hl 0 rfl) ?_
  refine lv_iload_n hx hb dX9_exposure_1 rfl (lv_at hl 1 rfl) ?_
  obtain ⟨hfs, hw⟩ := hw
  refine j_goXz hI (vx_runV (As := [.int x1]) (rest := []) ⟨hx, hb, hml, hown, hts⟩ (kX9_bankAt l hfl D z b x1 μ H.size _ _) (cwV 1 hts gX9_exposure_X9_bankAt rfl rfl rfl (by decide +kernel) ⟨Nat.le_of_ble_eq_true rfl, Nat.le_of_ble_eq_true rfl⟩) (j_prV2z hK hG hI hw (ci := 11) rfl hfs) rfl rfl hl.1 rfl (lv_room (Nat.le_of_ble_eq_true rfl)) dX9_exposure_2 ⟨by show _ ≤ 1; omega, by show _ ≤ 6; omega⟩) (fun E ce q9 μX H locs hw hI hce hcv hcl => ?_) (fun v1 μ2 H locs hw hI => ?_)
  · exact j_outz hno hlocks hI hce hcv hcl hw (by omega) (by omega)
  refine W.eq (g2 := F0 m 5 ls [va_rf v1]) rfl ?_
  refine j_astore_n (r := v1) (lv' := [(2, va_rf v1), (0, va_rf (some b)), (1, .int x1)]) hx hb dX9_exposure_5 rfl hl (by decide) rfl (fun ls hl => ?_)
  refine j_aload_n (r := (some b)) hx hb dX9_exposure_6 rfl (lv_at hl 1 rfl) ?_
  obtain ⟨v3, hv3, hw⟩ := hw
  refine j_getz (C := RX9) (T := TX9) (N := 1) (ci := 11) (r := (some b)) (v := va_rf v3) hx hb hfX9 hown hK hI rfl 0 (by decide) (hts (.fieldLink RX9 10 "CashPools" "desk" "LCashPools$Desk;") (List.mem_of_getElem? (i := 1) (by decide +kernel))) (fun _ h => h) hv3 dX9_exposure_7 ?_
  obtain ⟨b6, ⟨hrb6, hfs⟩, hw⟩ := hw
  refine j_goz hI (va_runV (As := []) (rest := []) ⟨hx, hb, hml, hown, hts⟩ (kX3_measureBanks l hfl D z b6  μ2 H.size _) (cwV 0 hts gX9_exposure_X3_measureBanks rfl rfl rfl (by decide +kernel) ⟨Nat.le_of_ble_eq_true rfl, Nat.le_of_ble_eq_true rfl⟩) (j_prV2z hK hG hI hw (ci := 6) rfl hfs) rfl rfl hl.1 (by rw [hrb6]; rfl) (lv_room (Nat.le_of_ble_eq_true rfl)) dX9_exposure_10 ⟨by show _ ≤ 1; omega, by show _ ≤ 6; omega⟩) (fun u4 μ5 H locs hw hI => ?_)
  refine W.eq (g2 := F0 m 13 ls []) rfl ?_
  refine j_aload_n (r := v1) hx hb dX9_exposure_13 rfl (lv_at hl 0 rfl) ?_
  obtain ⟨v7, hv7, hw⟩ := hw
  refine j_getz (C := RX1) (T := TX1) (N := 3) (ci := 4) (r := v1) (v := .long v7) hx hb hfX1 hown hK hI rfl 2 (by decide) (hts (.fieldLink RX9 169 "CashPools$Bank" "exposed" "J") (List.mem_of_getElem? (i := 2) (by decide +kernel))) (fun _ h => h) hv7 dX9_exposure_14 ?_
  exact vx_ret (j_lretz hx hb hr hlocks hI hw (by omega) (by omega) dX9_exposure_17)
set_option maxHeartbeats 4000000 in
set_option maxRecDepth 100000 in
theorem kX9_exposure (l : Launch) (hfl : l.stackTraces = false) (D : jD) (z : Nat × Nat) (b : Nat) (x1 : Int32) (μ : jM) (sz : Nat) (Q : Int64 → jM → Prop) (X : String → jM → Prop) : vx_Met l yX9_exposure wsX9_exposure rmX9_exposure (jPre2z D z μ sz [.ref b, .int x1] (wX9_exposure z b x1 μ Q X)) (jRz jfJ Q D z (jA z μ sz)) (jXCz X D z (jA z μ sz)) 1 6 (jA z μ sz) := by
  refine vx_ofW (cc := cX9_exposure) (maxL := 3) (ret := (some .long)) (by decide) rfl ?_
  intro p e s m args below meth c s₁ B hml hno hv
  obtain ⟨rfl, hsz, hH, hz0, hK, hG, hw⟩ := hv
  subst hsz
  have hX : jX2 D z (jA z μ s.heap.size) p l s m _ meth c yX9_exposure cX9_exposure 3 wsX9_exposure (some .long) := ⟨B.exec, B.bytes, hml, findClass_of_methodNamed B.named, atoms_spec (ws := wsX9_exposure) B.pre, B.returns, B.notSynchronized, (name_of_methodNamed B.named B.method).1, hK, hG, hfl⟩
  obtain ⟨ls, hg, hl⟩ : ∃ ls : Array Slot, entryFrame m ([.ref b, .int x1] : List Value).toArray 3 = F0 m 0 ls [] ∧ lv_has ls 3 [(0, va_rf (some b)), (1, .int x1)] := by
    exact ⟨_, lg_entry_eq .., lv_entry _ (n := 3) (Nat.le_of_ble_eq_true rfl)⟩
  rw [hg]
  exact kX9_exposure_0 hX hno hw (jIz.start hH hz0) (lv_sub hl [0, 1] rfl) (by decide) (by decide)
set_option maxHeartbeats 4000000 in
set_option maxRecDepth 100000 in
theorem kL_exposure_0 (hX : jX2 D z A p l s m args meth c yL_exposure cL_exposure 4 wsL_exposure (some .int)) (htab : c.exceptionTable.toList = ([⟨0, 8, 11, 13⟩] : List ExceptionTableEntry)) {Q : Int32 → jM → Prop}  {x0 : Option Nat} {x1 : Int32} {x2 : Option Nat} {μ : jM} {H : Heap} {locs : List Loc} {ls : Array Slot} {cells slots : Nat} (hw : wL_exposure_0 z Q x0 x1 x2 μ) (hI : jIz D z A s.heap μ H locs) (hl : lv_has ls 4 [(0, va_rf x0), (1, .int x1), (2, va_rf x2)]) (hcn : cells + 1 ≤ 1) (hsn : slots + 6 ≤ 6) : W p l e rmL_exposure s m args below meth c H locs cells slots (vx_MQ below (jRz jfI Q D z A) (jXCz (fun _ _ => False) D z A) args s 1 6 A) (F0 m 0 ls []) := by
  unfold wL_exposure_0 at hw
  obtain ⟨hx, hb, hml, hown, hts, hr, hlocks, hnm, hK, hG, hfl⟩ := id hX
  have hown : s.vm.findClass RL = some m.cls := hown
  refine j_aload_n (r := x2) hx hb dL_exposure_0 rfl (lv_at hl 2 rfl) ?_
  refine lv_iconst (v := (0)) hx hb dL_exposure_1 (by decide) ?_
  refine j_aload_n (r := x0) hx hb dL_exposure_2 rfl (lv_at hl 0 rfl) ?_
  refine lv_iload_n hx hb dL_exposure_3 rfl (lv_at hl 1 rfl) ?_
  obtain ⟨b3, ⟨hrb3, hfs⟩, hw⟩ := hw
  refine j_goXz hI (vx_runV (As := [.int x1]) (rest := [.int (0 : Int32), va_rf x2]) ⟨hx, hb, hml, hown, hts⟩ (kX9_exposure l hfl D z b3 x1 μ H.size _ _) (cwV 1 hts gL_exposure_X9_exposure rfl rfl rfl (by decide +kernel) ⟨Nat.le_of_ble_eq_true rfl, Nat.le_of_ble_eq_true rfl⟩) (j_prV2z hK hG hI hw (ci := 11) rfl hfs) rfl rfl hl.1 (by rw [hrb3]; rfl) (lv_room (by simp only [List.map, List.sum_cons, List.sum_nil, jrc, jci, jcl, jcr, jcn]; exact Nat.le_of_ble_eq_true rfl)) dL_exposure_4 ⟨by show _ ≤ 1; omega, by show _ ≤ 6; omega⟩) (fun E ce q9 μX H locs hw hI hce hcv hcl => ?_) (fun v1 μ2 H locs hw hI => ?_)
  · obtain ⟨hw, rfl⟩ := hw
    · have hw := hw rfl
      refine vx_catch hown [] ⟨0, 8, 11, 13⟩ [] (name := "java/lang/IllegalArgumentException") htab (fun z hz => absurd hz List.not_mem_nil) (by decide) (by decide) (hts (.classLink RL 13 "java/lang/IllegalArgumentException") (List.mem_of_getElem? (i := 1) (by decide +kernel))) (va_Nw.use rfl (hG.2.2.2.2.2.2.2.2.1 _ (by decide +kernel))) hce hcv hcl ?_
      refine W.eq (g2 := F0 m 11 ls [va_rf (some q9)]) rfl ?_
      refine j_astore_nA (r := x2) (r0 := (some q9)) (F := fun w => [(0, va_rf x0), (1, .int x1), (2, w)]) (F2 := fun w => [(3, va_rf (some q9)), (0, va_rf x0), (1, .int x1), (2, w)]) hx hb dL_exposure_11 rfl hl (by decide) (fun w hw => by rcases hw with rfl | ⟨_, rfl⟩ <;> rfl) (fun ls hl => ?_)
      refine lv_iconst (v := (1)) hx hb dL_exposure_12 (by decide) ?_
      exact vx_ret (j_iretz hx hb hr hlocks hI hw (by omega) (by omega) dL_exposure_13)
  refine W.eq (g2 := F0 m 7 ls [.long v1, .int (0 : Int32), va_rf x2]) rfl ?_
  obtain ⟨μ4, hμ4, hw⟩ := hw
  refine j_lastz (r := x2) hx hb hK hI hμ4 dL_exposure_7 (fun H locs hI => ?_)
  refine lv_goto (tgt := 14) hx hb dL_exposure_8 (by decide) ?_
  refine lv_iconst (v := (0)) hx hb dL_exposure_14 (by decide) ?_
  exact vx_ret (j_iretz hx hb hr hlocks hI hw (by omega) (by omega) dL_exposure_15)
set_option maxHeartbeats 4000000 in
set_option maxRecDepth 100000 in
theorem kL_exposure (l : Launch) (hfl : l.stackTraces = false) (D : jD) (z : Nat × Nat) (x0 : Option Nat) (x1 : Int32) (x2 : Option Nat) (μ : jM) (sz : Nat) (Q : Int32 → jM → Prop) : vx_Met l yL_exposure wsL_exposure rmL_exposure (jPre2z D z μ sz [va_rf x0, .int x1, va_rf x2] (wL_exposure z x0 x1 x2 μ Q)) (jRz jfI Q D z (jA z μ sz)) (jXCz (fun _ _ => False) D z (jA z μ sz)) 1 6 (jA z μ sz) := by
  refine vx_ofWH (cc := cL_exposure) (maxL := 4) (ret := (some .int)) (by decide) rfl ?_
  intro p e s m args below meth c s₁ B hml hv
  obtain ⟨rfl, hsz, hH, hz0, hK, hG, hw⟩ := hv
  subst hsz
  have hX : jX2 D z (jA z μ s.heap.size) p l s m _ meth c yL_exposure cL_exposure 4 wsL_exposure (some .int) := ⟨B.exec, B.bytes, hml, findClass_of_methodNamed B.named, atoms_spec (ws := wsL_exposure) B.pre, B.returns, B.notSynchronized, (name_of_methodNamed B.named B.method).1, hK, hG, hfl⟩
  obtain ⟨ls, hg, hl⟩ : ∃ ls : Array Slot, entryFrame m ([va_rf x0, .int x1, va_rf x2] : List Value).toArray 4 = F0 m 0 ls [] ∧ lv_has ls 4 [(0, va_rf x0), (1, .int x1), (2, va_rf x2)] := by
    cases x0 <;> cases x2 <;> exact ⟨_, lg_entry_eq .., lv_entry _ (n := 4) (Nat.le_of_ble_eq_true rfl)⟩
  rw [hg]
  exact kL_exposure_0 hX ((vx_table (x := yL_exposure) B (atoms_spec (ws := wsL_exposure) B.pre _ (List.mem_of_getElem? (i := 0) rfl))).trans rfl) hw (jIz.start hH hz0) (lv_sub hl [0, 1, 2] rfl) (by decide) (by decide)
set_option maxHeartbeats 4000000 in
set_option maxRecDepth 100000 in
theorem kX9_lineAt_0 {b : Nat} (hX : jX2 D z A p l s m args meth c yX9_lineAt cX9_lineAt 2 wsX9_lineAt (some (.object "CashPools$Line"))) (hno : ∀ x ∈ c.exceptionTable.toList, False) {Q : Option Nat → jM → Prop} {X : String → jM → Prop}  {x1 : Int32} {μ : jM} {H : Heap} {locs : List Loc} {ls : Array Slot} {cells slots : Nat} (hw : wX9_lineAt_0 z b Q X x1 μ) (hI : jIz D z A s.heap μ H locs) (hl : lv_has ls 2 [(0, va_rf (some b)), (1, .int x1)]) (hcn : cells + 1 ≤ 1) (hsn : slots + 6 ≤ 6) : W p l e rmX9_lineAt s m args below meth c H locs cells slots (vx_MQ below (jRz jfR Q D z A) (jXCz X D z A) args s 1 6 A) (F0 m 0 ls []) := by
  unfold wX9_lineAt_0 at hw
  obtain ⟨hx, hb, hml, hown, hts, hr, hlocks, hnm, hK, hG, hfl⟩ := id hX
  have hown : s.vm.findClass RX9 = some m.cls := hown
  have hfX3 : ∀ w ∈ wsX30, w.before args s = true := fun w h => hts w (List.mem_cons_of_mem _ (List.mem_append_left _ (List.mem_append_left _ (List.mem_append_right _ h))))
  have hfX9 : ∀ w ∈ wsX90, w.before args s = true := fun w h => hts w (List.mem_cons_of_mem _ (List.mem_append_left _ (List.mem_append_left _ (List.mem_append_left _ (List.mem_append_right _ h)))))
  refine lv_iload_n hx hb dX9_lineAt_0 rfl (lv_at hl 1 rfl) ?_
  refine lv_if_lt (tgt := 18) hx hb dX9_lineAt_1 (by decide) (fun hc => ?_) (fun hc => ?_)
  · have hw := hw.1 hc
    exact j_throw2z (names := ["java/lang/RuntimeException", "java/lang/Exception"]) (cls := "java/lang/IndexOutOfBoundsException") (text := "there is no such line") (ik := 223) (is := 232) (ic := 227) hx hb hno hfl hml hl.1 hown (by decide +kernel) (by decide +kernel) (hts (.classLink RX9 223 "java/lang/IndexOutOfBoundsException") (List.mem_of_getElem? (i := 1) (by decide +kernel))) (hts (.initialized "java/lang/IndexOutOfBoundsException") (List.mem_of_getElem? (i := 2) (by decide +kernel))) hG (by decide +kernel) (fun w h => hts w (List.mem_cons_of_mem _ (List.mem_append_right _ h))) (by decide +kernel) (by decide +kernel) (by decide +kernel) dX9_lineAt_18 dX9_lineAt_21 dX9_lineAt_22 dX9_lineAt_24 dX9_lineAt_27 (Nat.le_of_ble_eq_true rfl) (Nat.le_of_ble_eq_true rfl) (by show _ ≤ 1; omega) (by show _ ≤ 6; omega) hlocks hI hw (by omega) (by omega)
  · have hw := hw.2 hc
    refine lv_iload_n hx hb dX9_lineAt_4 rfl (lv_at hl 1 rfl) ?_
    refine j_aload_n (r := (some b)) hx hb dX9_lineAt_5 rfl (lv_at hl 0 rfl) ?_
    obtain ⟨v1, hv1, hw⟩ := hw
    refine j_getz (C := RX9) (T := TX9) (N := 1) (ci := 11) (r := (some b)) (v := va_rf v1) hx hb hfX9 hown hK hI rfl 0 (by decide) (hts (.fieldLink RX9 10 "CashPools" "desk" "LCashPools$Desk;") (List.mem_of_getElem? (i := 3) (by decide +kernel))) (fun _ h => h) hv1 dX9_lineAt_6 ?_
    obtain ⟨v2, hv2, hw⟩ := hw
    refine j_getz (C := RX3) (T := TX3) (N := 8) (ci := 6) (r := v1) (v := va_rf v2) hx hb hfX3 hown hK hI rfl 2 (by decide) (hts (.fieldLink RX9 69 "CashPools$Desk" "everyLine" "Ljava/util/ArrayList;") (List.mem_of_getElem? (i := 4) (by decide +kernel))) (fun _ h => h) hv2 dX9_lineAt_9 ?_
    obtain ⟨b5, ⟨hrb5, hfs⟩, hw⟩ := hw
    refine j_goz hI (va_runV (As := []) (rest := [.int x1]) ⟨hx, hb, hml, hown, hts⟩ (kJx4a65c_size_8abf5 l hfl D z b5  μ H.size _) (cwV 0 hts gX9_lineAt_Jx4a65c_size_8abf5 rfl rfl rfl (by decide +kernel) ⟨Nat.le_of_ble_eq_true rfl, Nat.le_of_ble_eq_true rfl⟩) (j_prV2z hK hG hI hw (ci := 2) rfl hfs) rfl rfl hl.1 (by rw [hrb5]; rfl) (lv_room (Nat.le_of_ble_eq_true rfl)) dX9_lineAt_12 ⟨by show _ ≤ 1; omega, by show _ ≤ 6; omega⟩) (fun v3 μ4 H locs hw hI => ?_)
    refine W.eq (g2 := F0 m 15 ls [.int v3, .int x1]) rfl ?_
    refine lv_icmp_lt (tgt := 28) hx hb dX9_lineAt_15 (by decide) (fun hc => ?_) (fun hc => ?_)
    · have hw := hw.1 hc
      refine j_aload_n (r := (some b)) hx hb dX9_lineAt_28 rfl (lv_at hl 0 rfl) ?_
      obtain ⟨v6, hv6, hw⟩ := hw
      refine j_getz (C := RX9) (T := TX9) (N := 1) (ci := 11) (r := (some b)) (v := va_rf v6) hx hb hfX9 hown hK hI rfl 0 (by decide) (hts (.fieldLink RX9 10 "CashPools" "desk" "LCashPools$Desk;") (List.mem_of_getElem? (i := 3) (by decide +kernel))) (fun _ h => h) hv6 dX9_lineAt_29 ?_
      obtain ⟨v7, hv7, hw⟩ := hw
      refine j_getz (C := RX3) (T := TX3) (N := 8) (ci := 6) (r := v6) (v := va_rf v7) hx hb hfX3 hown hK hI rfl 2 (by decide) (hts (.fieldLink RX9 69 "CashPools$Desk" "everyLine" "Ljava/util/ArrayList;") (List.mem_of_getElem? (i := 4) (by decide +kernel))) (fun _ h => h) hv7 dX9_lineAt_32 ?_
      refine lv_iload_n hx hb dX9_lineAt_35 rfl (lv_at hl 1 rfl) ?_
      obtain ⟨b10, ⟨hrb10, hfs⟩, hw⟩ := hw
      refine j_goz hI (va_runV (As := [.int x1]) (rest := []) ⟨hx, hb, hml, hown, hts⟩ (kJx4a65c_get_915e3 l hfl D z b10 x1 μ4 H.size _) (cwV 1 hts gX9_lineAt_Jx4a65c_get_915e3 rfl rfl rfl (by decide +kernel) ⟨Nat.le_of_ble_eq_true rfl, Nat.le_of_ble_eq_true rfl⟩) (j_prV2z hK hG hI hw (ci := 2) rfl hfs) rfl rfl hl.1 (by rw [hrb10]; rfl) (lv_room (Nat.le_of_ble_eq_true rfl)) dX9_lineAt_36 ⟨by show _ ≤ 1; omega, by show _ ≤ 6; omega⟩) (fun v8 μ9 H locs hw hI => ?_)
      refine W.eq (g2 := F0 m 39 ls [va_rf v8]) rfl ?_
      obtain ⟨h11, hw⟩ := hw
      refine j_castz (C := RX5) (T := TX5) (N := 9) (ci := 8) (r := v8) hx hb hown (hts (.classLink RX9 177 "CashPools$Line") (List.mem_of_getElem? (i := 5) (by decide +kernel))) hK hI rfl h11 dX9_lineAt_39 ?_
      exact vx_ret (j_aretz (v := v8) hx hb hr (Or.inl ⟨_, rfl⟩) hlocks hI hw (by omega) (by omega) dX9_lineAt_42)
    · have hw := hw.2 hc
      exact j_throw2z (names := ["java/lang/RuntimeException", "java/lang/Exception"]) (cls := "java/lang/IndexOutOfBoundsException") (text := "there is no such line") (ik := 223) (is := 232) (ic := 227) hx hb hno hfl hml hl.1 hown (by decide +kernel) (by decide +kernel) (hts (.classLink RX9 223 "java/lang/IndexOutOfBoundsException") (List.mem_of_getElem? (i := 1) (by decide +kernel))) (hts (.initialized "java/lang/IndexOutOfBoundsException") (List.mem_of_getElem? (i := 2) (by decide +kernel))) hG (by decide +kernel) (fun w h => hts w (List.mem_cons_of_mem _ (List.mem_append_right _ h))) (by decide +kernel) (by decide +kernel) (by decide +kernel) dX9_lineAt_18 dX9_lineAt_21 dX9_lineAt_22 dX9_lineAt_24 dX9_lineAt_27 (Nat.le_of_ble_eq_true rfl) (Nat.le_of_ble_eq_true rfl) (by show _ ≤ 1; omega) (by show _ ≤ 6; omega) hlocks hI hw (by omega) (by omega)
set_option maxHeartbeats 4000000 in
set_option maxRecDepth 100000 in
theorem kX9_lineAt (l : Launch) (hfl : l.stackTraces = false) (D : jD) (z : Nat × Nat) (b : Nat) (x1 : Int32) (μ : jM) (sz : Nat) (Q : Option Nat → jM → Prop) (X : String → jM → Prop) : vx_Met l yX9_lineAt wsX9_lineAt rmX9_lineAt (jPre2z D z μ sz [.ref b, .int x1] (wX9_lineAt z b x1 μ Q X)) (jRz jfR Q D z (jA z μ sz)) (jXCz X D z (jA z μ sz)) 1 6 (jA z μ sz) := by
  refine vx_ofW (cc := cX9_lineAt) (maxL := 2) (ret := (some (.object "CashPools$Line"))) (by decide) rfl ?_
  intro p e s m args below meth c s₁ B hml hno hv
  obtain ⟨rfl, hsz, hH, hz0, hK, hG, hw⟩ := hv
  subst hsz
  have hX : jX2 D z (jA z μ s.heap.size) p l s m _ meth c yX9_lineAt cX9_lineAt 2 wsX9_lineAt (some (.object "CashPools$Line")) := ⟨B.exec, B.bytes, hml, findClass_of_methodNamed B.named, atoms_spec (ws := wsX9_lineAt) B.pre, B.returns, B.notSynchronized, (name_of_methodNamed B.named B.method).1, hK, hG, hfl⟩
  obtain ⟨ls, hg, hl⟩ : ∃ ls : Array Slot, entryFrame m ([.ref b, .int x1] : List Value).toArray 2 = F0 m 0 ls [] ∧ lv_has ls 2 [(0, va_rf (some b)), (1, .int x1)] := by
    exact ⟨_, lg_entry_eq .., lv_entry _ (n := 2) (Nat.le_of_ble_eq_true rfl)⟩
  rw [hg]
  exact kX9_lineAt_0 hX hno hw (jIz.start hH hz0) (lv_sub hl [0, 1] rfl) (by decide) (by decide)
set_option maxHeartbeats 4000000 in
set_option maxRecDepth 100000 in
theorem kX9_drawn_0 {b : Nat} (hX : jX2 D z A p l s m args meth c yX9_drawn cX9_drawn 2 wsX9_drawn (some .int)) (hno : ∀ x ∈ c.exceptionTable.toList, False) {Q : Int32 → jM → Prop} {X : String → jM → Prop}  {x1 : Int32} {μ : jM} {H : Heap} {locs : List Loc} {ls : Array Slot} {cells slots : Nat} (hw : wX9_drawn_0 z b Q X x1 μ) (hI : jIz D z A s.heap μ H locs) (hl : lv_has ls 2 [(0, va_rf (some b)), (1, .int x1)]) (hcn : cells + 1 ≤ 1) (hsn : slots + 6 ≤ 6) : W p l e rmX9_drawn s m args below meth c H locs cells slots (vx_MQ below (jRz jfI Q D z A) (jXCz X D z A) args s 1 6 A) (F0 m 0 ls []) := by
  unfold wX9_drawn_0 at hw
  obtain ⟨hx, hb, hml, hown, hts, hr, hlocks, hnm, hK, hG, hfl⟩ := id hX
  have hown : s.vm.findClass RX9 = some m.cls := hown
  have hfX5 : ∀ w ∈ wsX50, w.before args s = true := fun w h => hts w (List.mem_cons_of_mem _ (List.mem_append_left _ (List.mem_append_left _ (List.mem_append_left _ (List.mem_append_left _ (List.mem_append_right _ h))))))
  refine j_aload_n (r := (some b)) hx hb dX9_drawn_0 rfl (lv_at hl 0 rfl) ?_
  refine lv_iload_n hx hb dX9_drawn_1 rfl (lv_at hl 1 rfl) ?_
  obtain ⟨hfs, hw⟩ := hw
  refine j_goXz hI (vx_runV (As := [.int x1]) (rest := []) ⟨hx, hb, hml, hown, hts⟩ (kX9_lineAt l hfl D z b x1 μ H.size _ _) (cwV 1 hts gX9_drawn_X9_lineAt rfl rfl rfl (by decide +kernel) ⟨Nat.le_of_ble_eq_true rfl, Nat.le_of_ble_eq_true rfl⟩) (j_prV2z hK hG hI hw (ci := 11) rfl hfs) rfl rfl hl.1 rfl (lv_room (Nat.le_of_ble_eq_true rfl)) dX9_drawn_2 ⟨by show _ ≤ 1; omega, by show _ ≤ 6; omega⟩) (fun E ce q9 μX H locs hw hI hce hcv hcl => ?_) (fun v1 μ2 H locs hw hI => ?_)
  · exact j_outz hno hlocks hI hce hcv hcl hw (by omega) (by omega)
  refine W.eq (g2 := F0 m 5 ls [va_rf v1]) rfl ?_
  obtain ⟨v3, hv3, hw⟩ := hw
  refine j_getz (C := RX5) (T := TX5) (N := 9) (ci := 8) (r := v1) (v := .long v3) hx hb hfX5 hown hK hI rfl 3 (by decide) (hts (.fieldLink RX9 176 "CashPools$Line" "used" "J") (List.mem_of_getElem? (i := 1) (by decide +kernel))) (fun _ h => h) hv3 dX9_drawn_5 ?_
  refine lv_l2i hx hb dX9_drawn_8 rfl ?_
  exact vx_ret (j_iretz hx hb hr hlocks hI hw (by omega) (by omega) dX9_drawn_9)
set_option maxHeartbeats 4000000 in
set_option maxRecDepth 100000 in
theorem kX9_drawn (l : Launch) (hfl : l.stackTraces = false) (D : jD) (z : Nat × Nat) (b : Nat) (x1 : Int32) (μ : jM) (sz : Nat) (Q : Int32 → jM → Prop) (X : String → jM → Prop) : vx_Met l yX9_drawn wsX9_drawn rmX9_drawn (jPre2z D z μ sz [.ref b, .int x1] (wX9_drawn z b x1 μ Q X)) (jRz jfI Q D z (jA z μ sz)) (jXCz X D z (jA z μ sz)) 1 6 (jA z μ sz) := by
  refine vx_ofW (cc := cX9_drawn) (maxL := 2) (ret := (some .int)) (by decide) rfl ?_
  intro p e s m args below meth c s₁ B hml hno hv
  obtain ⟨rfl, hsz, hH, hz0, hK, hG, hw⟩ := hv
  subst hsz
  have hX : jX2 D z (jA z μ s.heap.size) p l s m _ meth c yX9_drawn cX9_drawn 2 wsX9_drawn (some .int) := ⟨B.exec, B.bytes, hml, findClass_of_methodNamed B.named, atoms_spec (ws := wsX9_drawn) B.pre, B.returns, B.notSynchronized, (name_of_methodNamed B.named B.method).1, hK, hG, hfl⟩
  obtain ⟨ls, hg, hl⟩ : ∃ ls : Array Slot, entryFrame m ([.ref b, .int x1] : List Value).toArray 2 = F0 m 0 ls [] ∧ lv_has ls 2 [(0, va_rf (some b)), (1, .int x1)] := by
    exact ⟨_, lg_entry_eq .., lv_entry _ (n := 2) (Nat.le_of_ble_eq_true rfl)⟩
  rw [hg]
  exact kX9_drawn_0 hX hno hw (jIz.start hH hz0) (lv_sub hl [0, 1] rfl) (by decide) (by decide)
set_option maxHeartbeats 4000000 in
set_option maxRecDepth 100000 in
theorem kL_drawn_0 (hX : jX2 D z A p l s m args meth c yL_drawn cL_drawn 4 wsL_drawn (some .int)) (htab : c.exceptionTable.toList = ([⟨0, 9, 12, 21⟩] : List ExceptionTableEntry)) {Q : Int32 → jM → Prop}  {x0 : Option Nat} {x1 : Int32} {x2 : Option Nat} {μ : jM} {H : Heap} {locs : List Loc} {ls : Array Slot} {cells slots : Nat} (hw : wL_drawn_0 z Q x0 x1 x2 μ) (hI : jIz D z A s.heap μ H locs) (hl : lv_has ls 4 [(0, va_rf x0), (1, .int x1), (2, va_rf x2)]) (hcn : cells + 1 ≤ 1) (hsn : slots + 6 ≤ 6) : W p l e rmL_drawn s m args below meth c H locs cells slots (vx_MQ below (jRz jfI Q D z A) (jXCz (fun _ _ => False) D z A) args s 1 6 A) (F0 m 0 ls []) := by
  unfold wL_drawn_0 at hw
  obtain ⟨hx, hb, hml, hown, hts, hr, hlocks, hnm, hK, hG, hfl⟩ := id hX
  have hown : s.vm.findClass RL = some m.cls := hown
  refine j_aload_n (r := x2) hx hb dL_drawn_0 rfl (lv_at hl 2 rfl) ?_
  refine lv_iconst (v := (0)) hx hb dL_drawn_1 (by decide) ?_
  refine j_aload_n (r := x0) hx hb dL_drawn_2 rfl (lv_at hl 0 rfl) ?_
  refine lv_iload_n hx hb dL_drawn_3 rfl (lv_at hl 1 rfl) ?_
  obtain ⟨b3, ⟨hrb3, hfs⟩, hw⟩ := hw
  refine j_goXz hI (vx_runV (As := [.int x1]) (rest := [.int (0 : Int32), va_rf x2]) ⟨hx, hb, hml, hown, hts⟩ (kX9_drawn l hfl D z b3 x1 μ H.size _ _) (cwV 1 hts gL_drawn_X9_drawn rfl rfl rfl (by decide +kernel) ⟨Nat.le_of_ble_eq_true rfl, Nat.le_of_ble_eq_true rfl⟩) (j_prV2z hK hG hI hw (ci := 11) rfl hfs) rfl rfl hl.1 (by rw [hrb3]; rfl) (lv_room (by simp only [List.map, List.sum_cons, List.sum_nil, jrc, jci, jcl, jcr, jcn]; exact Nat.le_of_ble_eq_true rfl)) dL_drawn_4 ⟨by show _ ≤ 1; omega, by show _ ≤ 6; omega⟩) (fun E ce q9 μX H locs hw hI hce hcv hcl => ?_) (fun v1 μ2 H locs hw hI => ?_)
  · obtain ⟨hw, rfl⟩ := hw
    · have hw := hw rfl
      refine vx_catch hown [] ⟨0, 9, 12, 21⟩ [] (name := "java/lang/IndexOutOfBoundsException") htab (fun z hz => absurd hz List.not_mem_nil) (by decide) (by decide) (hts (.classLink RL 21 "java/lang/IndexOutOfBoundsException") (List.mem_of_getElem? (i := 1) (by decide +kernel))) (va_Nw.use rfl (hG.2.2.2.2.2.2.2.2.1 _ (by decide +kernel))) hce hcv hcl ?_
      refine W.eq (g2 := F0 m 12 ls [va_rf (some q9)]) rfl ?_
      refine j_astore_nA (r := x2) (r0 := (some q9)) (F := fun w => [(0, va_rf x0), (1, .int x1), (2, w)]) (F2 := fun w => [(3, va_rf (some q9)), (0, va_rf x0), (1, .int x1), (2, w)]) hx hb dL_drawn_12 rfl hl (by decide) (fun w hw => by rcases hw with rfl | ⟨_, rfl⟩ <;> rfl) (fun ls hl => ?_)
      refine lv_iconst (v := (1)) hx hb dL_drawn_13 (by decide) ?_
      exact vx_ret (j_iretz hx hb hr hlocks hI hw (by omega) (by omega) dL_drawn_14)
  refine W.eq (g2 := F0 m 7 ls [.int v1, .int (0 : Int32), va_rf x2]) rfl ?_
  refine lv_i2l hx hb dL_drawn_7 rfl ?_
  obtain ⟨μ4, hμ4, hw⟩ := hw
  refine j_lastz (r := x2) hx hb hK hI hμ4 dL_drawn_8 (fun H locs hI => ?_)
  refine lv_goto (tgt := 15) hx hb dL_drawn_9 (by decide) ?_
  refine lv_iconst (v := (0)) hx hb dL_drawn_15 (by decide) ?_
  exact vx_ret (j_iretz hx hb hr hlocks hI hw (by omega) (by omega) dL_drawn_16)
set_option maxHeartbeats 4000000 in
set_option maxRecDepth 100000 in
theorem kL_drawn (l : Launch) (hfl : l.stackTraces = false) (D : jD) (z : Nat × Nat) (x0 : Option Nat) (x1 : Int32) (x2 : Option Nat) (μ : jM) (sz : Nat) (Q : Int32 → jM → Prop) : vx_Met l yL_drawn wsL_drawn rmL_drawn (jPre2z D z μ sz [va_rf x0, .int x1, va_rf x2] (wL_drawn z x0 x1 x2 μ Q)) (jRz jfI Q D z (jA z μ sz)) (jXCz (fun _ _ => False) D z (jA z μ sz)) 1 6 (jA z μ sz) := by
  refine vx_ofWH (cc := cL_drawn) (maxL := 4) (ret := (some .int)) (by decide) rfl ?_
  intro p e s m args below meth c s₁ B hml hv
  obtain ⟨rfl, hsz, hH, hz0, hK, hG, hw⟩ := hv
  subst hsz
  have hX : jX2 D z (jA z μ s.heap.size) p l s m _ meth c yL_drawn cL_drawn 4 wsL_drawn (some .int) := ⟨B.exec, B.bytes, hml, findClass_of_methodNamed B.named, atoms_spec (ws := wsL_drawn) B.pre, B.returns, B.notSynchronized, (name_of_methodNamed B.named B.method).1, hK, hG, hfl⟩
  obtain ⟨ls, hg, hl⟩ : ∃ ls : Array Slot, entryFrame m ([va_rf x0, .int x1, va_rf x2] : List Value).toArray 4 = F0 m 0 ls [] ∧ lv_has ls 4 [(0, va_rf x0), (1, .int x1), (2, va_rf x2)] := by
    cases x0 <;> cases x2 <;> exact ⟨_, lg_entry_eq .., lv_entry _ (n := 4) (Nat.le_of_ble_eq_true rfl)⟩
  rw [hg]
  exact kL_drawn_0 hX ((vx_table (x := yL_drawn) B (atoms_spec (ws := wsL_drawn) B.pre _ (List.mem_of_getElem? (i := 0) rfl))).trans rfl) hw (jIz.start hH hz0) (lv_sub hl [0, 1, 2] rfl) (by decide) (by decide)
set_option maxHeartbeats 4000000 in
set_option maxRecDepth 100000 in
theorem kX9_costOf_0 {b : Nat} (hX : jX2 D z A p l s m args meth c yX9_costOf cX9_costOf 2 wsX9_costOf (some .long)) (hno : ∀ x ∈ c.exceptionTable.toList, False) {Q : Int64 → jM → Prop} {X : String → jM → Prop}  {x1 : Int32} {μ : jM} {H : Heap} {locs : List Loc} {ls : Array Slot} {cells slots : Nat} (hw : wX9_costOf_0 z b Q X x1 μ) (hI : jIz D z A s.heap μ H locs) (hl : lv_has ls 2 [(0, va_rf (some b)), (1, .int x1)]) (hcn : cells + 1 ≤ 1) (hsn : slots + 6 ≤ 6) : W p l e rmX9_costOf s m args below meth c H locs cells slots (vx_MQ below (jRz jfJ Q D z A) (jXCz X D z A) args s 1 6 A) (F0 m 0 ls []) := by
  unfold wX9_costOf_0 at hw
  obtain ⟨hx, hb, hml, hown, hts, hr, hlocks, hnm, hK, hG, hfl⟩ := id hX
  have hown : s.vm.findClass RX9 = some m.cls := hown
  have hfX5 : ∀ w ∈ wsX50, w.before args s = true := fun w h => hts w (List.mem_cons_of_mem _ (List.mem_append_left _ (List.mem_append_left _ (List.mem_append_left _ (List.mem_append_left _ (List.mem_append_right _ h))))))
  refine j_aload_n (r := (some b)) hx hb dX9_costOf_0 rfl (lv_at hl 0 rfl) ?_
  refine lv_iload_n hx hb dX9_costOf_1 rfl (lv_at hl 1 rfl) ?_
  obtain ⟨hfs, hw⟩ := hw
  refine j_goXz hI (vx_runV (As := [.int x1]) (rest := []) ⟨hx, hb, hml, hown, hts⟩ (kX9_lineAt l hfl D z b x1 μ H.size _ _) (cwV 1 hts gX9_costOf_X9_lineAt rfl rfl rfl (by decide +kernel) ⟨Nat.le_of_ble_eq_true rfl, Nat.le_of_ble_eq_true rfl⟩) (j_prV2z hK hG hI hw (ci := 11) rfl hfs) rfl rfl hl.1 rfl (lv_room (Nat.le_of_ble_eq_true rfl)) dX9_costOf_2 ⟨by show _ ≤ 1; omega, by show _ ≤ 6; omega⟩) (fun E ce q9 μX H locs hw hI hce hcv hcl => ?_) (fun v1 μ2 H locs hw hI => ?_)
  · exact j_outz hno hlocks hI hce hcv hcl hw (by omega) (by omega)
  refine W.eq (g2 := F0 m 5 ls [va_rf v1]) rfl ?_
  obtain ⟨v3, hv3, hw⟩ := hw
  refine j_getz (C := RX5) (T := TX5) (N := 9) (ci := 8) (r := v1) (v := .long v3) hx hb hfX5 hown hK hI rfl 4 (by decide) (hts (.fieldLink RX9 181 "CashPools$Line" "cost" "J") (List.mem_of_getElem? (i := 1) (by decide +kernel))) (fun _ h => h) hv3 dX9_costOf_5 ?_
  exact vx_ret (j_lretz hx hb hr hlocks hI hw (by omega) (by omega) dX9_costOf_8)
set_option maxHeartbeats 4000000 in
set_option maxRecDepth 100000 in
theorem kX9_costOf (l : Launch) (hfl : l.stackTraces = false) (D : jD) (z : Nat × Nat) (b : Nat) (x1 : Int32) (μ : jM) (sz : Nat) (Q : Int64 → jM → Prop) (X : String → jM → Prop) : vx_Met l yX9_costOf wsX9_costOf rmX9_costOf (jPre2z D z μ sz [.ref b, .int x1] (wX9_costOf z b x1 μ Q X)) (jRz jfJ Q D z (jA z μ sz)) (jXCz X D z (jA z μ sz)) 1 6 (jA z μ sz) := by
  refine vx_ofW (cc := cX9_costOf) (maxL := 2) (ret := (some .long)) (by decide) rfl ?_
  intro p e s m args below meth c s₁ B hml hno hv
  obtain ⟨rfl, hsz, hH, hz0, hK, hG, hw⟩ := hv
  subst hsz
  have hX : jX2 D z (jA z μ s.heap.size) p l s m _ meth c yX9_costOf cX9_costOf 2 wsX9_costOf (some .long) := ⟨B.exec, B.bytes, hml, findClass_of_methodNamed B.named, atoms_spec (ws := wsX9_costOf) B.pre, B.returns, B.notSynchronized, (name_of_methodNamed B.named B.method).1, hK, hG, hfl⟩
  obtain ⟨ls, hg, hl⟩ : ∃ ls : Array Slot, entryFrame m ([.ref b, .int x1] : List Value).toArray 2 = F0 m 0 ls [] ∧ lv_has ls 2 [(0, va_rf (some b)), (1, .int x1)] := by
    exact ⟨_, lg_entry_eq .., lv_entry _ (n := 2) (Nat.le_of_ble_eq_true rfl)⟩
  rw [hg]
  exact kX9_costOf_0 hX hno hw (jIz.start hH hz0) (lv_sub hl [0, 1] rfl) (by decide) (by decide)
set_option maxHeartbeats 4000000 in
set_option maxRecDepth 100000 in
theorem kL_costOf_0 (hX : jX2 D z A p l s m args meth c yL_costOf cL_costOf 4 wsL_costOf (some .int)) (htab : c.exceptionTable.toList = ([⟨0, 8, 11, 21⟩] : List ExceptionTableEntry)) {Q : Int32 → jM → Prop}  {x0 : Option Nat} {x1 : Int32} {x2 : Option Nat} {μ : jM} {H : Heap} {locs : List Loc} {ls : Array Slot} {cells slots : Nat} (hw : wL_costOf_0 z Q x0 x1 x2 μ) (hI : jIz D z A s.heap μ H locs) (hl : lv_has ls 4 [(0, va_rf x0), (1, .int x1), (2, va_rf x2)]) (hcn : cells + 1 ≤ 1) (hsn : slots + 6 ≤ 6) : W p l e rmL_costOf s m args below meth c H locs cells slots (vx_MQ below (jRz jfI Q D z A) (jXCz (fun _ _ => False) D z A) args s 1 6 A) (F0 m 0 ls []) := by
  unfold wL_costOf_0 at hw
  obtain ⟨hx, hb, hml, hown, hts, hr, hlocks, hnm, hK, hG, hfl⟩ := id hX
  have hown : s.vm.findClass RL = some m.cls := hown
  refine j_aload_n (r := x2) hx hb dL_costOf_0 rfl (lv_at hl 2 rfl) ?_
  refine lv_iconst (v := (0)) hx hb dL_costOf_1 (by decide) ?_
  refine j_aload_n (r := x0) hx hb dL_costOf_2 rfl (lv_at hl 0 rfl) ?_
  refine lv_iload_n hx hb dL_costOf_3 rfl (lv_at hl 1 rfl) ?_
  obtain ⟨b3, ⟨hrb3, hfs⟩, hw⟩ := hw
  refine j_goXz hI (vx_runV (As := [.int x1]) (rest := [.int (0 : Int32), va_rf x2]) ⟨hx, hb, hml, hown, hts⟩ (kX9_costOf l hfl D z b3 x1 μ H.size _ _) (cwV 1 hts gL_costOf_X9_costOf rfl rfl rfl (by decide +kernel) ⟨Nat.le_of_ble_eq_true rfl, Nat.le_of_ble_eq_true rfl⟩) (j_prV2z hK hG hI hw (ci := 11) rfl hfs) rfl rfl hl.1 (by rw [hrb3]; rfl) (lv_room (by simp only [List.map, List.sum_cons, List.sum_nil, jrc, jci, jcl, jcr, jcn]; exact Nat.le_of_ble_eq_true rfl)) dL_costOf_4 ⟨by show _ ≤ 1; omega, by show _ ≤ 6; omega⟩) (fun E ce q9 μX H locs hw hI hce hcv hcl => ?_) (fun v1 μ2 H locs hw hI => ?_)
  · obtain ⟨hw, rfl⟩ := hw
    · have hw := hw rfl
      refine vx_catch hown [] ⟨0, 8, 11, 21⟩ [] (name := "java/lang/IndexOutOfBoundsException") htab (fun z hz => absurd hz List.not_mem_nil) (by decide) (by decide) (hts (.classLink RL 21 "java/lang/IndexOutOfBoundsException") (List.mem_of_getElem? (i := 1) (by decide +kernel))) (va_Nw.use rfl (hG.2.2.2.2.2.2.2.2.1 _ (by decide +kernel))) hce hcv hcl ?_
      refine W.eq (g2 := F0 m 11 ls [va_rf (some q9)]) rfl ?_
      refine j_astore_nA (r := x2) (r0 := (some q9)) (F := fun w => [(0, va_rf x0), (1, .int x1), (2, w)]) (F2 := fun w => [(3, va_rf (some q9)), (0, va_rf x0), (1, .int x1), (2, w)]) hx hb dL_costOf_11 rfl hl (by decide) (fun w hw => by rcases hw with rfl | ⟨_, rfl⟩ <;> rfl) (fun ls hl => ?_)
      refine lv_iconst (v := (1)) hx hb dL_costOf_12 (by decide) ?_
      exact vx_ret (j_iretz hx hb hr hlocks hI hw (by omega) (by omega) dL_costOf_13)
  refine W.eq (g2 := F0 m 7 ls [.long v1, .int (0 : Int32), va_rf x2]) rfl ?_
  obtain ⟨μ4, hμ4, hw⟩ := hw
  refine j_lastz (r := x2) hx hb hK hI hμ4 dL_costOf_7 (fun H locs hI => ?_)
  refine lv_goto (tgt := 14) hx hb dL_costOf_8 (by decide) ?_
  refine lv_iconst (v := (0)) hx hb dL_costOf_14 (by decide) ?_
  exact vx_ret (j_iretz hx hb hr hlocks hI hw (by omega) (by omega) dL_costOf_15)
set_option maxHeartbeats 4000000 in
set_option maxRecDepth 100000 in
theorem kL_costOf (l : Launch) (hfl : l.stackTraces = false) (D : jD) (z : Nat × Nat) (x0 : Option Nat) (x1 : Int32) (x2 : Option Nat) (μ : jM) (sz : Nat) (Q : Int32 → jM → Prop) : vx_Met l yL_costOf wsL_costOf rmL_costOf (jPre2z D z μ sz [va_rf x0, .int x1, va_rf x2] (wL_costOf z x0 x1 x2 μ Q)) (jRz jfI Q D z (jA z μ sz)) (jXCz (fun _ _ => False) D z (jA z μ sz)) 1 6 (jA z μ sz) := by
  refine vx_ofWH (cc := cL_costOf) (maxL := 4) (ret := (some .int)) (by decide) rfl ?_
  intro p e s m args below meth c s₁ B hml hv
  obtain ⟨rfl, hsz, hH, hz0, hK, hG, hw⟩ := hv
  subst hsz
  have hX : jX2 D z (jA z μ s.heap.size) p l s m _ meth c yL_costOf cL_costOf 4 wsL_costOf (some .int) := ⟨B.exec, B.bytes, hml, findClass_of_methodNamed B.named, atoms_spec (ws := wsL_costOf) B.pre, B.returns, B.notSynchronized, (name_of_methodNamed B.named B.method).1, hK, hG, hfl⟩
  obtain ⟨ls, hg, hl⟩ : ∃ ls : Array Slot, entryFrame m ([va_rf x0, .int x1, va_rf x2] : List Value).toArray 4 = F0 m 0 ls [] ∧ lv_has ls 4 [(0, va_rf x0), (1, .int x1), (2, va_rf x2)] := by
    cases x0 <;> cases x2 <;> exact ⟨_, lg_entry_eq .., lv_entry _ (n := 4) (Nat.le_of_ble_eq_true rfl)⟩
  rw [hg]
  exact kL_costOf_0 hX ((vx_table (x := yL_costOf) B (atoms_spec (ws := wsL_costOf) B.pre _ (List.mem_of_getElem? (i := 0) rfl))).trans rfl) hw (jIz.start hH hz0) (lv_sub hl [0, 1, 2] rfl) (by decide) (by decide)
set_option maxHeartbeats 4000000 in
set_option maxRecDepth 100000 in
theorem kX9_interestOf_0 {b : Nat} (hX : jX2 D z A p l s m args meth c yX9_interestOf cX9_interestOf 2 wsX9_interestOf (some .long)) (hno : ∀ x ∈ c.exceptionTable.toList, False) {Q : Int64 → jM → Prop} {X : String → jM → Prop}  {x1 : Int32} {μ : jM} {H : Heap} {locs : List Loc} {ls : Array Slot} {cells slots : Nat} (hw : wX9_interestOf_0 z b Q X x1 μ) (hI : jIz D z A s.heap μ H locs) (hl : lv_has ls 2 [(0, va_rf (some b)), (1, .int x1)]) (hcn : cells + 1 ≤ 1) (hsn : slots + 6 ≤ 6) : W p l e rmX9_interestOf s m args below meth c H locs cells slots (vx_MQ below (jRz jfJ Q D z A) (jXCz X D z A) args s 1 6 A) (F0 m 0 ls []) := by
  unfold wX9_interestOf_0 at hw
  obtain ⟨hx, hb, hml, hown, hts, hr, hlocks, hnm, hK, hG, hfl⟩ := id hX
  have hown : s.vm.findClass RX9 = some m.cls := hown
  have hfX0 : ∀ w ∈ wsX00, w.before args s = true := fun w h => hts w (List.mem_cons_of_mem _ (List.mem_append_left _ (List.mem_append_left _ (List.mem_append_left _ (List.mem_append_left _ (List.mem_append_right _ h))))))
  refine j_aload_n (r := (some b)) hx hb dX9_interestOf_0 rfl (lv_at hl 0 rfl) ?_
  refine lv_iload_n hx hb dX9_interestOf_1 rfl (lv_at hl 1 rfl) ?_
  obtain ⟨hfs, hw⟩ := hw
  refine j_goXz hI (vx_runV (As := [.int x1]) (rest := []) ⟨hx, hb, hml, hown, hts⟩ (kX9_accountAt l hfl D z b x1 μ H.size _ _) (cwV 1 hts gX9_interestOf_X9_accountAt rfl rfl rfl (by decide +kernel) ⟨Nat.le_of_ble_eq_true rfl, Nat.le_of_ble_eq_true rfl⟩) (j_prV2z hK hG hI hw (ci := 11) rfl hfs) rfl rfl hl.1 rfl (lv_room (Nat.le_of_ble_eq_true rfl)) dX9_interestOf_2 ⟨by show _ ≤ 1; omega, by show _ ≤ 6; omega⟩) (fun E ce q9 μX H locs hw hI hce hcv hcl => ?_) (fun v1 μ2 H locs hw hI => ?_)
  · exact j_outz hno hlocks hI hce hcv hcl hw (by omega) (by omega)
  refine W.eq (g2 := F0 m 5 ls [va_rf v1]) rfl ?_
  obtain ⟨v3, hv3, hw⟩ := hw
  refine j_getz (C := RX0) (T := TX0) (N := 12) (ci := 3) (r := v1) (v := .long v3) hx hb hfX0 hown hK hI rfl 9 (by decide) (hts (.fieldLink RX9 184 "CashPools$Account" "interest" "J") (List.mem_of_getElem? (i := 1) (by decide +kernel))) (fun _ h => h) hv3 dX9_interestOf_5 ?_
  exact vx_ret (j_lretz hx hb hr hlocks hI hw (by omega) (by omega) dX9_interestOf_8)
set_option maxHeartbeats 4000000 in
set_option maxRecDepth 100000 in
theorem kX9_interestOf (l : Launch) (hfl : l.stackTraces = false) (D : jD) (z : Nat × Nat) (b : Nat) (x1 : Int32) (μ : jM) (sz : Nat) (Q : Int64 → jM → Prop) (X : String → jM → Prop) : vx_Met l yX9_interestOf wsX9_interestOf rmX9_interestOf (jPre2z D z μ sz [.ref b, .int x1] (wX9_interestOf z b x1 μ Q X)) (jRz jfJ Q D z (jA z μ sz)) (jXCz X D z (jA z μ sz)) 1 6 (jA z μ sz) := by
  refine vx_ofW (cc := cX9_interestOf) (maxL := 2) (ret := (some .long)) (by decide) rfl ?_
  intro p e s m args below meth c s₁ B hml hno hv
  obtain ⟨rfl, hsz, hH, hz0, hK, hG, hw⟩ := hv
  subst hsz
  have hX : jX2 D z (jA z μ s.heap.size) p l s m _ meth c yX9_interestOf cX9_interestOf 2 wsX9_interestOf (some .long) := ⟨B.exec, B.bytes, hml, findClass_of_methodNamed B.named, atoms_spec (ws := wsX9_interestOf) B.pre, B.returns, B.notSynchronized, (name_of_methodNamed B.named B.method).1, hK, hG, hfl⟩
  obtain ⟨ls, hg, hl⟩ : ∃ ls : Array Slot, entryFrame m ([.ref b, .int x1] : List Value).toArray 2 = F0 m 0 ls [] ∧ lv_has ls 2 [(0, va_rf (some b)), (1, .int x1)] := by
    exact ⟨_, lg_entry_eq .., lv_entry _ (n := 2) (Nat.le_of_ble_eq_true rfl)⟩
  rw [hg]
  exact kX9_interestOf_0 hX hno hw (jIz.start hH hz0) (lv_sub hl [0, 1] rfl) (by decide) (by decide)
set_option maxHeartbeats 4000000 in
set_option maxRecDepth 100000 in
theorem kL_interestOf_0 (hX : jX2 D z A p l s m args meth c yL_interestOf cL_interestOf 4 wsL_interestOf (some .int)) (htab : c.exceptionTable.toList = ([⟨0, 8, 11, 21⟩] : List ExceptionTableEntry)) {Q : Int32 → jM → Prop}  {x0 : Option Nat} {x1 : Int32} {x2 : Option Nat} {μ : jM} {H : Heap} {locs : List Loc} {ls : Array Slot} {cells slots : Nat} (hw : wL_interestOf_0 z Q x0 x1 x2 μ) (hI : jIz D z A s.heap μ H locs) (hl : lv_has ls 4 [(0, va_rf x0), (1, .int x1), (2, va_rf x2)]) (hcn : cells + 1 ≤ 1) (hsn : slots + 6 ≤ 6) : W p l e rmL_interestOf s m args below meth c H locs cells slots (vx_MQ below (jRz jfI Q D z A) (jXCz (fun _ _ => False) D z A) args s 1 6 A) (F0 m 0 ls []) := by
  unfold wL_interestOf_0 at hw
  obtain ⟨hx, hb, hml, hown, hts, hr, hlocks, hnm, hK, hG, hfl⟩ := id hX
  have hown : s.vm.findClass RL = some m.cls := hown
  refine j_aload_n (r := x2) hx hb dL_interestOf_0 rfl (lv_at hl 2 rfl) ?_
  refine lv_iconst (v := (0)) hx hb dL_interestOf_1 (by decide) ?_
  refine j_aload_n (r := x0) hx hb dL_interestOf_2 rfl (lv_at hl 0 rfl) ?_
  refine lv_iload_n hx hb dL_interestOf_3 rfl (lv_at hl 1 rfl) ?_
  obtain ⟨b3, ⟨hrb3, hfs⟩, hw⟩ := hw
  refine j_goXz hI (vx_runV (As := [.int x1]) (rest := [.int (0 : Int32), va_rf x2]) ⟨hx, hb, hml, hown, hts⟩ (kX9_interestOf l hfl D z b3 x1 μ H.size _ _) (cwV 1 hts gL_interestOf_X9_interestOf rfl rfl rfl (by decide +kernel) ⟨Nat.le_of_ble_eq_true rfl, Nat.le_of_ble_eq_true rfl⟩) (j_prV2z hK hG hI hw (ci := 11) rfl hfs) rfl rfl hl.1 (by rw [hrb3]; rfl) (lv_room (by simp only [List.map, List.sum_cons, List.sum_nil, jrc, jci, jcl, jcr, jcn]; exact Nat.le_of_ble_eq_true rfl)) dL_interestOf_4 ⟨by show _ ≤ 1; omega, by show _ ≤ 6; omega⟩) (fun E ce q9 μX H locs hw hI hce hcv hcl => ?_) (fun v1 μ2 H locs hw hI => ?_)
  · obtain ⟨hw, rfl⟩ := hw
    · have hw := hw rfl
      refine vx_catch hown [] ⟨0, 8, 11, 21⟩ [] (name := "java/lang/IndexOutOfBoundsException") htab (fun z hz => absurd hz List.not_mem_nil) (by decide) (by decide) (hts (.classLink RL 21 "java/lang/IndexOutOfBoundsException") (List.mem_of_getElem? (i := 1) (by decide +kernel))) (va_Nw.use rfl (hG.2.2.2.2.2.2.2.2.1 _ (by decide +kernel))) hce hcv hcl ?_
      refine W.eq (g2 := F0 m 11 ls [va_rf (some q9)]) rfl ?_
      refine j_astore_nA (r := x2) (r0 := (some q9)) (F := fun w => [(0, va_rf x0), (1, .int x1), (2, w)]) (F2 := fun w => [(3, va_rf (some q9)), (0, va_rf x0), (1, .int x1), (2, w)]) hx hb dL_interestOf_11 rfl hl (by decide) (fun w hw => by rcases hw with rfl | ⟨_, rfl⟩ <;> rfl) (fun ls hl => ?_)
      refine lv_iconst (v := (1)) hx hb dL_interestOf_12 (by decide) ?_
      exact vx_ret (j_iretz hx hb hr hlocks hI hw (by omega) (by omega) dL_interestOf_13)
  refine W.eq (g2 := F0 m 7 ls [.long v1, .int (0 : Int32), va_rf x2]) rfl ?_
  obtain ⟨μ4, hμ4, hw⟩ := hw
  refine j_lastz (r := x2) hx hb hK hI hμ4 dL_interestOf_7 (fun H locs hI => ?_)
  refine lv_goto (tgt := 14) hx hb dL_interestOf_8 (by decide) ?_
  refine lv_iconst (v := (0)) hx hb dL_interestOf_14 (by decide) ?_
  exact vx_ret (j_iretz hx hb hr hlocks hI hw (by omega) (by omega) dL_interestOf_15)
set_option maxHeartbeats 4000000 in
set_option maxRecDepth 100000 in
theorem kL_interestOf (l : Launch) (hfl : l.stackTraces = false) (D : jD) (z : Nat × Nat) (x0 : Option Nat) (x1 : Int32) (x2 : Option Nat) (μ : jM) (sz : Nat) (Q : Int32 → jM → Prop) : vx_Met l yL_interestOf wsL_interestOf rmL_interestOf (jPre2z D z μ sz [va_rf x0, .int x1, va_rf x2] (wL_interestOf z x0 x1 x2 μ Q)) (jRz jfI Q D z (jA z μ sz)) (jXCz (fun _ _ => False) D z (jA z μ sz)) 1 6 (jA z μ sz) := by
  refine vx_ofWH (cc := cL_interestOf) (maxL := 4) (ret := (some .int)) (by decide) rfl ?_
  intro p e s m args below meth c s₁ B hml hv
  obtain ⟨rfl, hsz, hH, hz0, hK, hG, hw⟩ := hv
  subst hsz
  have hX : jX2 D z (jA z μ s.heap.size) p l s m _ meth c yL_interestOf cL_interestOf 4 wsL_interestOf (some .int) := ⟨B.exec, B.bytes, hml, findClass_of_methodNamed B.named, atoms_spec (ws := wsL_interestOf) B.pre, B.returns, B.notSynchronized, (name_of_methodNamed B.named B.method).1, hK, hG, hfl⟩
  obtain ⟨ls, hg, hl⟩ : ∃ ls : Array Slot, entryFrame m ([va_rf x0, .int x1, va_rf x2] : List Value).toArray 4 = F0 m 0 ls [] ∧ lv_has ls 4 [(0, va_rf x0), (1, .int x1), (2, va_rf x2)] := by
    cases x0 <;> cases x2 <;> exact ⟨_, lg_entry_eq .., lv_entry _ (n := 4) (Nat.le_of_ble_eq_true rfl)⟩
  rw [hg]
  exact kL_interestOf_0 hX ((vx_table (x := yL_interestOf) B (atoms_spec (ws := wsL_interestOf) B.pre _ (List.mem_of_getElem? (i := 0) rfl))).trans rfl) hw (jIz.start hH hz0) (lv_sub hl [0, 1, 2] rfl) (by decide) (by decide)
set_option maxHeartbeats 4000000 in
set_option maxRecDepth 100000 in
theorem kX9_poolInterest_0 {b : Nat} (hX : jX2 D z A p l s m args meth c yX9_poolInterest cX9_poolInterest 3 wsX9_poolInterest (some .long)) (hno : ∀ x ∈ c.exceptionTable.toList, False) {Q : Int64 → jM → Prop} {X : String → jM → Prop}  {x1 : Int32} {μ : jM} {H : Heap} {locs : List Loc} {ls : Array Slot} {cells slots : Nat} (hw : wX9_poolInterest_0 z b Q X x1 μ) (hI : jIz D z A s.heap μ H locs) (hl : lv_has ls 3 [(0, va_rf (some b)), (1, .int x1)]) (hcn : cells + 2 ≤ 2) (hsn : slots + 12 ≤ 12) : W p l e rmX9_poolInterest s m args below meth c H locs cells slots (vx_MQ below (jRz jfJ Q D z A) (jXCz X D z A) args s 2 12 A) (F0 m 0 ls []) := by
  unfold wX9_poolInterest_0 at hw
  obtain ⟨hx, hb, hml, hown, hts, hr, hlocks, hnm, hK, hG, hfl⟩ := id hX
  have hown : s.vm.findClass RX9 = some m.cls := hown
  have hfX0 : ∀ w ∈ wsX00, w.before args s = true := fun w h => hts w (List.mem_cons_of_mem _ (List.mem_append_left _ (List.mem_append_left _ (List.mem_append_left _ (List.mem_append_left _ (List.mem_append_left _ (List.mem_append_left _ (List.mem_append_left _ (List.mem_append_right _ h)))))))))
  have hfX6 : ∀ w ∈ wsX60, w.before args s = true := fun w h => hts w (List.mem_cons_of_mem _ (List.mem_append_left _ (List.mem_append_left _ (List.mem_append_left _ (List.mem_append_left _ (List.mem_append_left _ (List.mem_append_left _ (List.mem_append_right _ h))))))))
  have hfX7 : ∀ w ∈ wsX70, w.before args s = true := fun w h => hts w (List.mem_cons_of_mem _ (List.mem_append_left _ (List.mem_append_left _ (List.mem_append_left _ (List.mem_append_left _ (List.mem_append_left _ (List.mem_append_right _ h)))))))
  refine j_aload_n (r := (some b)) hx hb dX9_poolInterest_0 rfl (lv_at hl 0 rfl) ?_
  refine lv_iload_n hx hb dX9_poolInterest_1 rfl (lv_at hl 1 rfl) ?_
  obtain ⟨hfs, hw⟩ := hw
  refine j_goXz hI (vx_runV (As := [.int x1]) (rest := []) ⟨hx, hb, hml, hown, hts⟩ (kX9_accountAt l hfl D z b x1 μ H.size _ _) (cwV 1 hts gX9_poolInterest_X9_accountAt rfl rfl rfl (by decide +kernel) ⟨Nat.le_of_ble_eq_true rfl, Nat.le_of_ble_eq_true rfl⟩) (j_prV2z hK hG hI hw (ci := 11) rfl hfs) rfl rfl hl.1 rfl (lv_room (Nat.le_of_ble_eq_true rfl)) dX9_poolInterest_2 ⟨by show _ ≤ 2; omega, by show _ ≤ 12; omega⟩) (fun E ce q9 μX H locs hw hI hce hcv hcl => ?_) (fun v1 μ2 H locs hw hI => ?_)
  · exact j_outz hno hlocks hI hce hcv hcl hw (by omega) (by omega)
  refine W.eq (g2 := F0 m 5 ls [va_rf v1]) rfl ?_
  refine j_astore_n (r := v1) (lv' := [(2, va_rf v1), (0, va_rf (some b)), (1, .int x1)]) hx hb dX9_poolInterest_5 rfl hl (by decide) rfl (fun ls hl => ?_)
  refine j_aload_n (r := v1) hx hb dX9_poolInterest_6 rfl (lv_at hl 0 rfl) ?_
  refine j_goXz hI (vx_runS (As := [va_rf v1]) (rest := []) ⟨hx, hb, hml, hown, hts⟩ (kX9_requireTop l hfl D z v1 μ2 H.size _ _) (va_cwS 1 hts gX9_poolInterest_X9_requireTop rfl rfl rfl (by decide +kernel) ⟨Nat.le_of_ble_eq_true rfl, Nat.le_of_ble_eq_true rfl⟩) (j_prS2z hK hG hI hw) rfl rfl hl.1 rfl (lv_room (Nat.le_of_ble_eq_true rfl)) dX9_poolInterest_7 ⟨by show _ ≤ 2; omega, by show _ ≤ 12; omega⟩) (fun E ce q9 μX H locs hw hI hce hcv hcl => ?_) (fun u3 μ4 H locs hw hI => ?_)
  · exact j_outz hno hlocks hI hce hcv hcl hw (by omega) (by omega)
  refine W.eq (g2 := F0 m 10 ls []) rfl ?_
  refine j_aload_n (r := v1) hx hb dX9_poolInterest_10 rfl (lv_at hl 0 rfl) ?_
  obtain ⟨v5, hv5, hw⟩ := hw
  refine j_getz (C := RX0) (T := TX0) (N := 12) (ci := 3) (r := v1) (v := va_rf v5) hx hb hfX0 hown hK hI rfl 2 (by decide) (hts (.fieldLink RX9 151 "CashPools$Account" "pool" "LCashPools$Pool;") (List.mem_of_getElem? (i := 1) (by decide +kernel))) (fun _ h => h) hv5 dX9_poolInterest_11 ?_
  obtain ⟨v6, hv6, hw⟩ := hw
  refine j_getz (C := RX6) (T := TX6) (N := 5) (ci := 9) (r := v5) (v := va_rf v6) hx hb hfX6 hown hK hI rfl 1 (by decide) (hts (.fieldLink RX9 187 "CashPools$Pool" "credit" "LCashPools$Side;") (List.mem_of_getElem? (i := 2) (by decide +kernel))) (fun _ h => h) hv6 dX9_poolInterest_14 ?_
  obtain ⟨v7, hv7, hw⟩ := hw
  refine j_getz (C := RX7) (T := TX7) (N := 10) (ci := 10) (r := v6) (v := .long v7) hx hb hfX7 hown hK hI rfl 3 (by decide) (hts (.fieldLink RX9 191 "CashPools$Side" "booked" "J") (List.mem_of_getElem? (i := 3) (by decide +kernel))) (fun _ h => h) hv7 dX9_poolInterest_17 ?_
  refine j_aload_n (r := v1) hx hb dX9_poolInterest_20 rfl (lv_at hl 0 rfl) ?_
  obtain ⟨v8, hv8, hw⟩ := hw
  refine j_getz (C := RX0) (T := TX0) (N := 12) (ci := 3) (r := v1) (v := va_rf v8) hx hb hfX0 hown hK hI rfl 2 (by decide) (hts (.fieldLink RX9 151 "CashPools$Account" "pool" "LCashPools$Pool;") (List.mem_of_getElem? (i := 1) (by decide +kernel))) (fun _ h => h) hv8 dX9_poolInterest_21 ?_
  obtain ⟨v9, hv9, hw⟩ := hw
  refine j_getz (C := RX6) (T := TX6) (N := 5) (ci := 9) (r := v8) (v := va_rf v9) hx hb hfX6 hown hK hI rfl 2 (by decide) (hts (.fieldLink RX9 196 "CashPools$Pool" "debit" "LCashPools$Side;") (List.mem_of_getElem? (i := 4) (by decide +kernel))) (fun _ h => h) hv9 dX9_poolInterest_24 ?_
  obtain ⟨v10, hv10, hw⟩ := hw
  refine j_getz (C := RX7) (T := TX7) (N := 10) (ci := 10) (r := v9) (v := .long v10) hx hb hfX7 hown hK hI rfl 3 (by decide) (hts (.fieldLink RX9 191 "CashPools$Side" "booked" "J") (List.mem_of_getElem? (i := 3) (by decide +kernel))) (fun _ h => h) hv10 dX9_poolInterest_27 ?_
  refine lv_lsub hx hb dX9_poolInterest_30 ?_
  exact vx_ret (j_lretz hx hb hr hlocks hI hw (by omega) (by omega) dX9_poolInterest_31)
set_option maxHeartbeats 4000000 in
set_option maxRecDepth 100000 in
theorem kX9_poolInterest (l : Launch) (hfl : l.stackTraces = false) (D : jD) (z : Nat × Nat) (b : Nat) (x1 : Int32) (μ : jM) (sz : Nat) (Q : Int64 → jM → Prop) (X : String → jM → Prop) : vx_Met l yX9_poolInterest wsX9_poolInterest rmX9_poolInterest (jPre2z D z μ sz [.ref b, .int x1] (wX9_poolInterest z b x1 μ Q X)) (jRz jfJ Q D z (jA z μ sz)) (jXCz X D z (jA z μ sz)) 2 12 (jA z μ sz) := by
  refine vx_ofW (cc := cX9_poolInterest) (maxL := 3) (ret := (some .long)) (by decide) rfl ?_
  intro p e s m args below meth c s₁ B hml hno hv
  obtain ⟨rfl, hsz, hH, hz0, hK, hG, hw⟩ := hv
  subst hsz
  have hX : jX2 D z (jA z μ s.heap.size) p l s m _ meth c yX9_poolInterest cX9_poolInterest 3 wsX9_poolInterest (some .long) := ⟨B.exec, B.bytes, hml, findClass_of_methodNamed B.named, atoms_spec (ws := wsX9_poolInterest) B.pre, B.returns, B.notSynchronized, (name_of_methodNamed B.named B.method).1, hK, hG, hfl⟩
  obtain ⟨ls, hg, hl⟩ : ∃ ls : Array Slot, entryFrame m ([.ref b, .int x1] : List Value).toArray 3 = F0 m 0 ls [] ∧ lv_has ls 3 [(0, va_rf (some b)), (1, .int x1)] := by
    exact ⟨_, lg_entry_eq .., lv_entry _ (n := 3) (Nat.le_of_ble_eq_true rfl)⟩
  rw [hg]
  exact kX9_poolInterest_0 hX hno hw (jIz.start hH hz0) (lv_sub hl [0, 1] rfl) (by decide) (by decide)
set_option maxHeartbeats 4000000 in
set_option maxRecDepth 100000 in
theorem kL_poolInterest_0 (hX : jX2 D z A p l s m args meth c yL_poolInterest cL_poolInterest 4 wsL_poolInterest (some .int)) (htab : c.exceptionTable.toList = ([⟨0, 8, 11, 21⟩, ⟨0, 8, 14, 15⟩] : List ExceptionTableEntry)) {Q : Int32 → jM → Prop}  {x0 : Option Nat} {x1 : Int32} {x2 : Option Nat} {μ : jM} {H : Heap} {locs : List Loc} {ls : Array Slot} {cells slots : Nat} (hw : wL_poolInterest_0 z Q x0 x1 x2 μ) (hI : jIz D z A s.heap μ H locs) (hl : lv_has ls 4 [(0, va_rf x0), (1, .int x1), (2, va_rf x2)]) (hcn : cells + 2 ≤ 2) (hsn : slots + 12 ≤ 12) : W p l e rmL_poolInterest s m args below meth c H locs cells slots (vx_MQ below (jRz jfI Q D z A) (jXCz (fun _ _ => False) D z A) args s 2 12 A) (F0 m 0 ls []) := by
  unfold wL_poolInterest_0 at hw
  obtain ⟨hx, hb, hml, hown, hts, hr, hlocks, hnm, hK, hG, hfl⟩ := id hX
  have hown : s.vm.findClass RL = some m.cls := hown
  refine j_aload_n (r := x2) hx hb dL_poolInterest_0 rfl (lv_at hl 2 rfl) ?_
  refine lv_iconst (v := (0)) hx hb dL_poolInterest_1 (by decide) ?_
  refine j_aload_n (r := x0) hx hb dL_poolInterest_2 rfl (lv_at hl 0 rfl) ?_
  refine lv_iload_n hx hb dL_poolInterest_3 rfl (lv_at hl 1 rfl) ?_
  obtain ⟨b3, ⟨hrb3, hfs⟩, hw⟩ := hw
  refine j_goXz hI (vx_runV (As := [.int x1]) (rest := [.int (0 : Int32), va_rf x2]) ⟨hx, hb, hml, hown, hts⟩ (kX9_poolInterest l hfl D z b3 x1 μ H.size _ _) (cwV 1 hts gL_poolInterest_X9_poolInterest rfl rfl rfl (by decide +kernel) ⟨Nat.le_of_ble_eq_true rfl, Nat.le_of_ble_eq_true rfl⟩) (j_prV2z hK hG hI hw (ci := 11) rfl hfs) rfl rfl hl.1 (by rw [hrb3]; rfl) (lv_room (by simp only [List.map, List.sum_cons, List.sum_nil, jrc, jci, jcl, jcr, jcn]; exact Nat.le_of_ble_eq_true rfl)) dL_poolInterest_4 ⟨by show _ ≤ 2; omega, by show _ ≤ 12; omega⟩) (fun E ce q9 μX H locs hw hI hce hcv hcl => ?_) (fun v1 μ2 H locs hw hI => ?_)
  · rcases hw.2.2 with rfl | rfl
    · have hw := hw.1 rfl
      refine vx_catch hown [] ⟨0, 8, 11, 21⟩ [⟨0, 8, 14, 15⟩] (name := "java/lang/IndexOutOfBoundsException") htab (fun z hz => absurd hz List.not_mem_nil) (by decide) (by decide) (hts (.classLink RL 21 "java/lang/IndexOutOfBoundsException") (List.mem_of_getElem? (i := 1) (by decide +kernel))) (va_Nw.use rfl (hG.2.2.2.2.2.2.2.2.1 _ (by decide +kernel))) hce hcv hcl ?_
      refine W.eq (g2 := F0 m 11 ls [va_rf (some q9)]) rfl ?_
      refine j_astore_nA (r := x2) (r0 := (some q9)) (F := fun w => [(0, va_rf x0), (1, .int x1), (2, w)]) (F2 := fun w => [(3, va_rf (some q9)), (0, va_rf x0), (1, .int x1), (2, w)]) hx hb dL_poolInterest_11 rfl hl (by decide) (fun w hw => by rcases hw with rfl | ⟨_, rfl⟩ <;> rfl) (fun ls hl => ?_)
      refine lv_iconst (v := (1)) hx hb dL_poolInterest_12 (by decide) ?_
      exact vx_ret (j_iretz hx hb hr hlocks hI hw (by omega) (by omega) dL_poolInterest_13)
    · have hw := hw.2.1 rfl
      refine vx_catch hown [⟨0, 8, 11, 21⟩] ⟨0, 8, 14, 15⟩ [] (name := "java/lang/IllegalStateException") htab (List.forall_mem_cons.mpr ⟨Or.inr ⟨by decide, "java/lang/IndexOutOfBoundsException", (hts (.classLink RL 21 "java/lang/IndexOutOfBoundsException") (List.mem_of_getElem? (i := 1) (by decide +kernel))), hG.2.2.2.2.2.2.2.2.2.1 _ (by decide +kernel) _ (by decide +kernel) (by decide +kernel)⟩, (fun z hz => absurd hz List.not_mem_nil)⟩) (by decide) (by decide) (hts (.classLink RL 15 "java/lang/IllegalStateException") (List.mem_of_getElem? (i := 2) (by decide +kernel))) (va_Nw.use rfl (hG.2.2.2.2.2.2.2.2.1 _ (by decide +kernel))) hce hcv hcl ?_
      refine W.eq (g2 := F0 m 14 ls [va_rf (some q9)]) rfl ?_
      refine j_astore_nA (r := x2) (r0 := (some q9)) (F := fun w => [(0, va_rf x0), (1, .int x1), (2, w)]) (F2 := fun w => [(3, va_rf (some q9)), (0, va_rf x0), (1, .int x1), (2, w)]) hx hb dL_poolInterest_14 rfl hl (by decide) (fun w hw => by rcases hw with rfl | ⟨_, rfl⟩ <;> rfl) (fun ls hl => ?_)
      refine lv_iconst (v := (2)) hx hb dL_poolInterest_15 (by decide) ?_
      exact vx_ret (j_iretz hx hb hr hlocks hI hw (by omega) (by omega) dL_poolInterest_16)
  refine W.eq (g2 := F0 m 7 ls [.long v1, .int (0 : Int32), va_rf x2]) rfl ?_
  obtain ⟨μ4, hμ4, hw⟩ := hw
  refine j_lastz (r := x2) hx hb hK hI hμ4 dL_poolInterest_7 (fun H locs hI => ?_)
  refine lv_goto (tgt := 17) hx hb dL_poolInterest_8 (by decide) ?_
  refine lv_iconst (v := (0)) hx hb dL_poolInterest_17 (by decide) ?_
  exact vx_ret (j_iretz hx hb hr hlocks hI hw (by omega) (by omega) dL_poolInterest_18)
set_option maxHeartbeats 4000000 in
set_option maxRecDepth 100000 in
theorem kL_poolInterest (l : Launch) (hfl : l.stackTraces = false) (D : jD) (z : Nat × Nat) (x0 : Option Nat) (x1 : Int32) (x2 : Option Nat) (μ : jM) (sz : Nat) (Q : Int32 → jM → Prop) : vx_Met l yL_poolInterest wsL_poolInterest rmL_poolInterest (jPre2z D z μ sz [va_rf x0, .int x1, va_rf x2] (wL_poolInterest z x0 x1 x2 μ Q)) (jRz jfI Q D z (jA z μ sz)) (jXCz (fun _ _ => False) D z (jA z μ sz)) 2 12 (jA z μ sz) := by
  refine vx_ofWH (cc := cL_poolInterest) (maxL := 4) (ret := (some .int)) (by decide) rfl ?_
  intro p e s m args below meth c s₁ B hml hv
  obtain ⟨rfl, hsz, hH, hz0, hK, hG, hw⟩ := hv
  subst hsz
  have hX : jX2 D z (jA z μ s.heap.size) p l s m _ meth c yL_poolInterest cL_poolInterest 4 wsL_poolInterest (some .int) := ⟨B.exec, B.bytes, hml, findClass_of_methodNamed B.named, atoms_spec (ws := wsL_poolInterest) B.pre, B.returns, B.notSynchronized, (name_of_methodNamed B.named B.method).1, hK, hG, hfl⟩
  obtain ⟨ls, hg, hl⟩ : ∃ ls : Array Slot, entryFrame m ([va_rf x0, .int x1, va_rf x2] : List Value).toArray 4 = F0 m 0 ls [] ∧ lv_has ls 4 [(0, va_rf x0), (1, .int x1), (2, va_rf x2)] := by
    cases x0 <;> cases x2 <;> exact ⟨_, lg_entry_eq .., lv_entry _ (n := 4) (Nat.le_of_ble_eq_true rfl)⟩
  rw [hg]
  exact kL_poolInterest_0 hX ((vx_table (x := yL_poolInterest) B (atoms_spec (ws := wsL_poolInterest) B.pre _ (List.mem_of_getElem? (i := 0) rfl))).trans rfl) hw (jIz.start hH hz0) (lv_sub hl [0, 1, 2] rfl) (by decide) (by decide)
set_option maxHeartbeats 4000000 in
set_option maxRecDepth 100000 in
theorem kX8_heldWithGifts_16 (hX : jX2 D z A p l s m args meth c yX8_heldWithGifts cX8_heldWithGifts 6 wsX8_heldWithGifts (some .long)) {Q : Int64 → jM → Prop} {nR : Nat} {RC : Option Nat → Int32 → jM → (Int64 → jM → Prop) → Prop} (hRC : ∀ (y0 : Option Nat) (y1 : Int32) (μ : jM) (sz : Nat) (Q : Int64 → jM → Prop), Met l yX8_heldWithGifts wsX8_heldWithGifts (rmX8_heldWithGifts nR) (jPre2z D z μ sz [va_rf y0, .int y1] (RC y0 y1 μ Q)) (jRz jfJ Q D z (jA z μ sz)) 0 0 (jA z μ sz)) (n : Nat) : ∀ {x0 : Option Nat} {x1 : Int32} {x2 : Int64} {x4 : Int32} {μ : jM} {H : Heap} {locs : List Loc} {ls : Array Slot} {cells slots : Nat}, wX8_heldWithGifts_16 z RC Q n x0 x1 x2 x4 μ → jIz D z A s.heap μ H locs → lv_has ls 6 [(0, va_rf x0), (1, .int x1), (2, .long x2), (4, .int x4)] → cells + 0 ≤ 0 → slots + 0 ≤ 0 → W p l e (rmX8_heldWithGifts (nR + 1)) s m args below meth c H locs cells slots (MQ below (jRz jfJ Q D z A) args s 0 0 A) (F0 m 16 ls []) := by
  induction n with
  | zero =>
    intros
    rename_i hw _ _ _ _
    exact (show False from hw).elim
  | succ n ih =>
    intro x0 x1 x2 x4 μ H locs ls cells slots hw hI hl hcn hsn
    have hw : wX8_heldWithGifts_16_b z RC Q (wX8_heldWithGifts_16 z RC Q n) x0 x1 x2 x4 μ := hw
    unfold wX8_heldWithGifts_16_b at hw
    obtain ⟨hx, hb, hml, hown, hts, hr, hlocks, hnm, hK, hG, hfl⟩ := id hX
    have hown : s.vm.findClass RX8 = some m.cls := hown
    have hfX0 : ∀ w ∈ wsX00, w.before args s = true := fun w h => hts w (List.mem_cons_of_mem _ (List.mem_append_left _ (List.mem_append_right _ h)))
    refine lv_iload hx hb dX8_heldWithGifts_16 (lv_at hl 3 rfl) ?_
    refine j_aload_n (r := x0) hx hb dX8_heldWithGifts_18 rfl (lv_at hl 0 rfl) ?_
    obtain ⟨v1, hv1, hw⟩ := hw
    refine j_getz (C := RX0) (T := TX0) (N := 12) (ci := 3) (r := x0) (v := va_rf v1) hx hb hfX0 hown hK hI rfl 4 (by decide) (hts (.fieldLink RX8 15 "CashPools$Account" "children" "Ljava/util/ArrayList;") (List.mem_of_getElem? (i := 2) (by decide +kernel))) (fun _ h => h) hv1 dX8_heldWithGifts_19 ?_
    obtain ⟨b4, ⟨hrb4, hfs⟩, hw⟩ := hw
    refine j_goz hI (va_runV (As := []) (rest := [.int x4]) ⟨hx, hb, hml, hown, hts⟩ (kJx4a65c_size_8abf5 l hfl D z b4  μ H.size _) (cwV 0 hts gX8_heldWithGifts_Jx4a65c_size_8abf5 rfl rfl rfl (by decide +kernel) ⟨by show 1 ≤ nR + 1 + 3; omega, by show 20 ≤ (nR + 1) * 25 + 132; omega⟩) (j_prV2z hK hG hI hw (ci := 2) rfl hfs) rfl rfl hl.1 (by rw [hrb4]; rfl) (lv_room (Nat.le_of_ble_eq_true rfl)) dX8_heldWithGifts_22 ⟨by show _ ≤ 0; omega, by show _ ≤ 0; omega⟩) (fun v2 μ3 H locs hw hI => ?_)
    refine W.eq (g2 := F0 m 25 ls [.int v2, .int x4]) rfl ?_
    refine lv_icmp_ge (tgt := 68) hx hb dX8_heldWithGifts_25 (by decide) (fun hc => ?_) (fun hc => ?_)
    · have hw := hw.1 hc
      refine lv_lload_n hx hb dX8_heldWithGifts_68 rfl (lv_at hl 2 rfl) ?_
      exact j_lretz hx hb hr hlocks hI hw (by omega) (by omega) dX8_heldWithGifts_69
    · have hw := hw.2 hc
      refine j_aload_n (r := x0) hx hb dX8_heldWithGifts_28 rfl (lv_at hl 0 rfl) ?_
      obtain ⟨v5, hv5, hw⟩ := hw
      refine j_getz (C := RX0) (T := TX0) (N := 12) (ci := 3) (r := x0) (v := va_rf v5) hx hb hfX0 hown hK hI rfl 4 (by decide) (hts (.fieldLink RX8 15 "CashPools$Account" "children" "Ljava/util/ArrayList;") (List.mem_of_getElem? (i := 2) (by decide +kernel))) (fun _ h => h) hv5 dX8_heldWithGifts_29 ?_
      refine lv_iload hx hb dX8_heldWithGifts_32 (lv_at hl 3 rfl) ?_
      obtain ⟨b8, ⟨hrb8, hfs⟩, hw⟩ := hw
      refine j_goz hI (va_runV (As := [.int x4]) (rest := []) ⟨hx, hb, hml, hown, hts⟩ (kJx4a65c_get_915e3 l hfl D z b8 x4 μ3 H.size _) (cwV 1 hts gX8_heldWithGifts_Jx4a65c_get_915e3 rfl rfl rfl (by decide +kernel) ⟨by show 3 ≤ nR + 1 + 3; omega, by show 64 ≤ (nR + 1) * 25 + 132; omega⟩) (j_prV2z hK hG hI hw (ci := 2) rfl hfs) rfl rfl hl.1 (by rw [hrb8]; rfl) (lv_room (Nat.le_of_ble_eq_true rfl)) dX8_heldWithGifts_34 ⟨by show _ ≤ 0; omega, by show _ ≤ 0; omega⟩) (fun v6 μ7 H locs hw hI => ?_)
      refine W.eq (g2 := F0 m 37 ls [va_rf v6]) rfl ?_
      obtain ⟨h9, hw⟩ := hw
      refine j_castz (C := RX0) (T := TX0) (N := 12) (ci := 3) (r := v6) hx hb hown (hts (.classLink RX8 10 "CashPools$Account") (List.mem_of_getElem? (i := 3) (by decide +kernel))) hK hI rfl h9 dX8_heldWithGifts_37 ?_
      refine j_astore (r := v6) (lv' := [(5, va_rf v6), (0, va_rf x0), (1, .int x1), (2, .long x2), (4, .int x4)]) hx hb dX8_heldWithGifts_40 hl (by decide) rfl (fun ls hl => ?_)
      refine lv_lload_n hx hb dX8_heldWithGifts_42 rfl (lv_at hl 3 rfl) ?_
      refine j_aload (r := v6) hx hb dX8_heldWithGifts_43 (lv_at hl 0 rfl) ?_
      refine j_aload (r := v6) hx hb dX8_heldWithGifts_45 (lv_at hl 0 rfl) ?_
      refine lv_iload_n hx hb dX8_heldWithGifts_47 rfl (lv_at hl 2 rfl) ?_
      refine lv_iconst (v := (1)) hx hb dX8_heldWithGifts_48 (by decide) ?_
      refine lv_iadd hx hb dX8_heldWithGifts_49 ?_
      refine j_goz hI (va_runS (As := [va_rf v6, .int (x1 + (1 : Int32))]) (rest := [va_rf v6, .long x2]) ⟨hx, hb, hml, hown, hts⟩ (hRC v6 (x1 + (1 : Int32)) μ7 H.size _) (va_cwS 2 hts gX8_heldWithGifts_X8_heldWithGifts rfl rfl rfl (by decide +kernel) ⟨by show nR + 3 + 1 ≤ nR + 1 + 3; omega, by show 8 + (6 + 11) + (nR * 25 + 132) ≤ (nR + 1) * 25 + 132; omega⟩) (j_prS2z hK hG hI hw) rfl rfl hl.1 rfl (lv_room (by simp only [List.map, List.sum_cons, List.sum_nil, jrc, jci, jcl, jcr, jcn]; exact Nat.le_of_ble_eq_true rfl)) dX8_heldWithGifts_50 ⟨by show _ ≤ 0; omega, by show _ ≤ 0; omega⟩) (fun v10 μ11 H locs hw hI => ?_)
      refine W.eq (g2 := F0 m 53 ls [.long v10, va_rf v6, .long x2]) rfl ?_
      obtain ⟨b14, ⟨hrb14, hfs⟩, hw⟩ := hw
      refine j_goz hI (va_runV (As := [.long v10]) (rest := [.long x2]) ⟨hx, hb, hml, hown, hts⟩ (kX0_surplusOf l hfl D z b14 v10 μ11 H.size _) (cwV 1 hts gX8_heldWithGifts_X0_surplusOf rfl rfl rfl (by decide +kernel) ⟨by show 2 ≤ nR + 1 + 3; omega, by show 132 ≤ (nR + 1) * 25 + 132; omega⟩) (j_prV2z hK hG hI hw (ci := 3) rfl hfs) rfl rfl hl.1 (by rw [hrb14]; rfl) (lv_room (Nat.le_of_ble_eq_true rfl)) dX8_heldWithGifts_53 ⟨by show _ ≤ 0; omega, by show _ ≤ 0; omega⟩) (fun v12 μ13 H locs hw hI => ?_)
      refine W.eq (g2 := F0 m 56 ls [.long v12, .long x2]) rfl ?_
      refine lv_lconst (v := (0)) hx hb dX8_heldWithGifts_56 (by decide) ?_
      refine va_mmax_long hx hb (by rw [hml]; exact hl.1.symm) hown (hts (.methodLink RX8 46 Lib.MathLoose.max_long.x) (List.mem_of_getElem? (i := 4) (by decide +kernel))) (hts (.static Lib.MathLoose.max_long.x) (List.mem_of_getElem? (i := 5) (by decide +kernel))) (hts (.initialized "java/lang/Math") (List.mem_of_getElem? (i := 6) (by decide +kernel))) (hts (.code Lib.MathLoose.max_long.x Lib.MathLoose.max_long.code 4 (some .long)) (List.mem_of_getElem? (i := 7) (by decide +kernel))) (by show 1 ≤ nR + 1 + 3; omega) (by simp only [List.map, List.sum_cons, List.sum_nil, jrc, jci, jcl, jcr, jcn]; show _ ≤ (nR + 1) * 25 + 132; omega) (by show _ ≤ 0; omega) (by show _ ≤ 0; omega) dX8_heldWithGifts_57 ?_
      refine lv_ladd hx hb dX8_heldWithGifts_60 ?_
      refine lv_topl (fun v15 ev15 => ?_)
      have hw := hw v15 ev15
      refine lv_lstore_n (lv' := [(2, .long v15), (5, va_rf v6), (0, va_rf x0), (1, .int x1), (4, .int x4)]) hx hb dX8_heldWithGifts_61 rfl hl (by decide) rfl (fun ls hl => ?_)
      obtain ⟨v16, ev16⟩ : ∃ y : Int32, y = x4 + (1 : Int32) := ⟨_, rfl⟩
      have hw := hw v16 ev16
      refine lv_iinc (v := v16) (lv' := [(4, .int v16), (2, .long v15), (5, va_rf v6), (0, va_rf x0), (1, .int x1)]) hx hb dX8_heldWithGifts_62 hl (k := 4) rfl (by rw [ev16]; rfl) (by decide) rfl (fun ls hl => ?_)
      refine lv_goto (tgt := 16) hx hb dX8_heldWithGifts_65 (by decide) ?_
      exact ih hw hI (lv_sub hl [3, 4, 1, 0] rfl) (by omega) (by omega)
set_option maxHeartbeats 4000000 in
set_option maxRecDepth 100000 in
theorem kX8_heldWithGifts_0 (hX : jX2 D z A p l s m args meth c yX8_heldWithGifts cX8_heldWithGifts 6 wsX8_heldWithGifts (some .long)) {Q : Int64 → jM → Prop} {nR : Nat} {RC : Option Nat → Int32 → jM → (Int64 → jM → Prop) → Prop} (hRC : ∀ (y0 : Option Nat) (y1 : Int32) (μ : jM) (sz : Nat) (Q : Int64 → jM → Prop), Met l yX8_heldWithGifts wsX8_heldWithGifts (rmX8_heldWithGifts nR) (jPre2z D z μ sz [va_rf y0, .int y1] (RC y0 y1 μ Q)) (jRz jfJ Q D z (jA z μ sz)) 0 0 (jA z μ sz)) {x0 : Option Nat} {x1 : Int32} {μ : jM} {H : Heap} {locs : List Loc} {ls : Array Slot} {cells slots : Nat} (hw : wX8_heldWithGifts_0 z RC Q x0 x1 μ) (hI : jIz D z A s.heap μ H locs) (hl : lv_has ls 6 [(0, va_rf x0), (1, .int x1)]) (hcn : cells + 0 ≤ 0) (hsn : slots + 0 ≤ 0) : W p l e (rmX8_heldWithGifts (nR + 1)) s m args below meth c H locs cells slots (MQ below (jRz jfJ Q D z A) args s 0 0 A) (F0 m 0 ls []) := by
  unfold wX8_heldWithGifts_0 at hw
  obtain ⟨hx, hb, hml, hown, hts, hr, hlocks, hnm, hK, hG, hfl⟩ := id hX
  have hown : s.vm.findClass RX8 = some m.cls := hown
  have hfX0 : ∀ w ∈ wsX00, w.before args s = true := fun w h => hts w (List.mem_cons_of_mem _ (List.mem_append_left _ (List.mem_append_right _ h)))
  refine lv_iload_n hx hb dX8_heldWithGifts_0 rfl (lv_at hl 1 rfl) ?_
  refine lv_bipush (v := (10)) hx hb dX8_heldWithGifts_1 (by decide) ?_
  refine lv_icmp_le (tgt := 8) hx hb dX8_heldWithGifts_3 (by decide) (fun hc => ?_) (fun hc => ?_)
  · have hw := hw.1 hc
    refine j_aload_n (r := x0) hx hb dX8_heldWithGifts_8 rfl (lv_at hl 0 rfl) ?_
    obtain ⟨v1, hv1, hw⟩ := hw
    refine j_getz (C := RX0) (T := TX0) (N := 12) (ci := 3) (r := x0) (v := .long v1) hx hb hfX0 hown hK hI rfl 8 (by decide) (hts (.fieldLink RX8 9 "CashPools$Account" "cash" "J") (List.mem_of_getElem? (i := 1) (by decide +kernel))) (fun _ h => h) hv1 dX8_heldWithGifts_9 ?_
    refine lv_lstore_n (lv' := [(2, .long v1), (0, va_rf x0), (1, .int x1)]) hx hb dX8_heldWithGifts_12 rfl hl (by decide) rfl (fun ls hl => ?_)
    refine lv_iconst (v := (0)) hx hb dX8_heldWithGifts_13 (by decide) ?_
    refine lv_topi (fun v2 ev2 => ?_)
    have hw := hw v2 ev2
    refine lv_istore (lv' := [(4, .int v2), (2, .long v1), (0, va_rf x0), (1, .int x1)]) hx hb dX8_heldWithGifts_14 hl (by decide) rfl (fun ls hl => ?_)
    obtain ⟨n3, hw⟩ := hw
    exact kX8_heldWithGifts_16 hX hRC n3 hw hI (lv_sub hl [2, 3, 1, 0] rfl) (by omega) (by omega)
  · have hw := hw.2 hc
    refine lv_lconst (v := (0)) hx hb dX8_heldWithGifts_6 (by decide) ?_
    exact j_lretz hx hb hr hlocks hI hw (by omega) (by omega) dX8_heldWithGifts_7
set_option maxHeartbeats 4000000 in
set_option maxRecDepth 100000 in
theorem kX8_heldWithGifts_r (l : Launch) (hfl : l.stackTraces = false) (D : jD) (z : Nat × Nat) (n : Nat) : ∀ (x0 : Option Nat) (x1 : Int32) (μ : jM) (sz : Nat) (Q : Int64 → jM → Prop), Met l yX8_heldWithGifts wsX8_heldWithGifts (rmX8_heldWithGifts n) (jPre2z D z μ sz [va_rf x0, .int x1] (wX8_heldWithGifts z n x0 x1 μ Q)) (jRz jfJ Q D z (jA z μ sz)) 0 0 (jA z μ sz) := by
  induction n with
  | zero =>
    intro x0 x1 μ sz Q
    refine Met.ofW (cc := cX8_heldWithGifts) (maxL := 6) (ret := (some .long)) (by decide) rfl ?_
    intro p e s m args below meth c s₁ B hml hv
    obtain ⟨_, _, _, _, _, _, hw⟩ := hv
    exact (show False from hw).elim
  | succ n ih =>
    intro x0 x1 μ sz Q
    refine Met.ofW (cc := cX8_heldWithGifts) (maxL := 6) (ret := (some .long)) (by decide) rfl ?_
    intro p e s m args below meth c s₁ B hml hv
    obtain ⟨rfl, hsz, hH, hz0, hK, hG, hw⟩ := hv
    subst hsz
    have hX : jX2 D z (jA z μ s.heap.size) p l s m _ meth c yX8_heldWithGifts cX8_heldWithGifts 6 wsX8_heldWithGifts (some .long) := ⟨B.exec, B.bytes, hml, findClass_of_methodNamed B.named, atoms_spec (ws := wsX8_heldWithGifts) B.pre, B.returns, B.notSynchronized, (name_of_methodNamed B.named B.method).1, hK, hG, hfl⟩
    obtain ⟨ls, hg, hl⟩ : ∃ ls : Array Slot, entryFrame m ([va_rf x0, .int x1] : List Value).toArray 6 = F0 m 0 ls [] ∧ lv_has ls 6 [(0, va_rf x0), (1, .int x1)] := by
      cases x0 <;> exact ⟨_, lg_entry_eq .., lv_entry _ (n := 6) (Nat.le_of_ble_eq_true rfl)⟩
    rw [hg]
    exact kX8_heldWithGifts_0 hX ih hw (jIz.start hH hz0) (lv_sub hl [0, 1] rfl) (by decide) (by decide)
theorem kX8_heldWithGifts (l : Launch) (hfl : l.stackTraces = false) (D : jD) (z : Nat × Nat) (x0 : Option Nat) (x1 : Int32) (μ : jM) (sz : Nat) (Q : Int64 → jM → Prop) : Met l yX8_heldWithGifts wsX8_heldWithGifts (rmX8_heldWithGifts 12) (jPre2z D z μ sz [va_rf x0, .int x1] (wX8_heldWithGifts z 12 x0 x1 μ Q)) (jRz jfJ Q D z (jA z μ sz)) 0 0 (jA z μ sz) := kX8_heldWithGifts_r l hfl D z 12 x0 x1 μ sz Q
set_option maxHeartbeats 4000000 in
set_option maxRecDepth 100000 in
theorem kX8_heldBetweenPasses_0 (hX : jX2 D z A p l s m args meth c yX8_heldBetweenPasses cX8_heldBetweenPasses 3 wsX8_heldBetweenPasses (some .long)) {Q : Int64 → jM → Prop}  {x0 : Option Nat} {μ : jM} {H : Heap} {locs : List Loc} {ls : Array Slot} {cells slots : Nat} (hw : wX8_heldBetweenPasses_0 z Q x0 μ) (hI : jIz D z A s.heap μ H locs) (hl : lv_has ls 3 [(0, va_rf x0)]) (hcn : cells + 0 ≤ 0) (hsn : slots + 0 ≤ 0) : W p l e rmX8_heldBetweenPasses s m args below meth c H locs cells slots (MQ below (jRz jfJ Q D z A) args s 0 0 A) (F0 m 0 ls []) := by
  unfold wX8_heldBetweenPasses_0 at hw
  obtain ⟨hx, hb, hml, hown, hts, hr, hlocks, hnm, hK, hG, hfl⟩ := id hX
  have hown : s.vm.findClass RX8 = some m.cls := hown
  refine j_aload_n (r := x0) hx hb dX8_heldBetweenPasses_0 rfl (lv_at hl 0 rfl) ?_
  refine lv_iconst (v := (0)) hx hb dX8_heldBetweenPasses_1 (by decide) ?_
  refine j_goz hI (va_runS (As := [va_rf x0, .int (0 : Int32)]) (rest := []) ⟨hx, hb, hml, hown, hts⟩ (kX8_heldWithGifts l hfl D z x0 (0 : Int32) μ H.size _) (va_cwS 2 hts gX8_heldBetweenPasses_X8_heldWithGifts rfl rfl rfl (by decide +kernel) ⟨Nat.le_of_ble_eq_true rfl, Nat.le_of_ble_eq_true rfl⟩) (j_prS2z hK hG hI hw) rfl rfl hl.1 rfl (lv_room (Nat.le_of_ble_eq_true rfl)) dX8_heldBetweenPasses_2 ⟨by show _ ≤ 0; omega, by show _ ≤ 0; omega⟩) (fun v1 μ2 H locs hw hI => ?_)
  refine W.eq (g2 := F0 m 5 ls [.long v1]) rfl ?_
  refine j_lstore_nA (r := x0) (F := fun w => [(0, w)]) (F2 := fun w => [(1, .long v1), (0, w)]) hx hb dX8_heldBetweenPasses_5 rfl hl (by decide) (fun w hw => by rcases hw with rfl | ⟨_, rfl⟩ <;> rfl) (fun ls hl => ?_)
  refine lv_lload_n hx hb dX8_heldBetweenPasses_6 rfl (lv_at hl 0 rfl) ?_
  refine j_aload_n (r := x0) hx hb dX8_heldBetweenPasses_7 rfl (lv_at hl 1 rfl) ?_
  refine lv_lload_n hx hb dX8_heldBetweenPasses_8 rfl (lv_at hl 0 rfl) ?_
  obtain ⟨b5, ⟨hrb5, hfs⟩, hw⟩ := hw
  refine j_goz hI (va_runV (As := [.long v1]) (rest := [.long v1]) ⟨hx, hb, hml, hown, hts⟩ (kX0_surplusOf l hfl D z b5 v1 μ2 H.size _) (cwV 1 hts gX8_heldBetweenPasses_X0_surplusOf rfl rfl rfl (by decide +kernel) ⟨Nat.le_of_ble_eq_true rfl, Nat.le_of_ble_eq_true rfl⟩) (j_prV2z hK hG hI hw (ci := 3) rfl hfs) rfl rfl hl.1 (by rw [hrb5]; rfl) (lv_room (Nat.le_of_ble_eq_true rfl)) dX8_heldBetweenPasses_9 ⟨by show _ ≤ 0; omega, by show _ ≤ 0; omega⟩) (fun v3 μ4 H locs hw hI => ?_)
  refine W.eq (g2 := F0 m 12 ls [.long v3, .long v1]) rfl ?_
  refine lv_lconst (v := (0)) hx hb dX8_heldBetweenPasses_12 (by decide) ?_
  refine va_mmax_long hx hb (by rw [hml]; exact hl.1.symm) hown (hts (.methodLink RX8 46 Lib.MathLoose.max_long.x) (List.mem_of_getElem? (i := 1) (by decide +kernel))) (hts (.static Lib.MathLoose.max_long.x) (List.mem_of_getElem? (i := 2) (by decide +kernel))) (hts (.initialized "java/lang/Math") (List.mem_of_getElem? (i := 3) (by decide +kernel))) (hts (.code Lib.MathLoose.max_long.x Lib.MathLoose.max_long.code 4 (some .long)) (List.mem_of_getElem? (i := 4) (by decide +kernel))) (Nat.le_of_ble_eq_true rfl) (Nat.le_of_ble_eq_true rfl) (by show _ ≤ 0; omega) (by show _ ≤ 0; omega) dX8_heldBetweenPasses_13 ?_
  refine lv_lsub hx hb dX8_heldBetweenPasses_16 ?_
  exact j_lretz hx hb hr hlocks hI hw (by omega) (by omega) dX8_heldBetweenPasses_17
set_option maxHeartbeats 4000000 in
set_option maxRecDepth 100000 in
theorem kX8_heldBetweenPasses (l : Launch) (hfl : l.stackTraces = false) (D : jD) (z : Nat × Nat) (x0 : Option Nat) (μ : jM) (sz : Nat) (Q : Int64 → jM → Prop) : Met l yX8_heldBetweenPasses wsX8_heldBetweenPasses rmX8_heldBetweenPasses (jPre2z D z μ sz [va_rf x0] (wX8_heldBetweenPasses z x0 μ Q)) (jRz jfJ Q D z (jA z μ sz)) 0 0 (jA z μ sz) := by
  refine Met.ofW (cc := cX8_heldBetweenPasses) (maxL := 3) (ret := (some .long)) (by decide) rfl ?_
  intro p e s m args below meth c s₁ B hml hv
  obtain ⟨rfl, hsz, hH, hz0, hK, hG, hw⟩ := hv
  subst hsz
  have hX : jX2 D z (jA z μ s.heap.size) p l s m _ meth c yX8_heldBetweenPasses cX8_heldBetweenPasses 3 wsX8_heldBetweenPasses (some .long) := ⟨B.exec, B.bytes, hml, findClass_of_methodNamed B.named, atoms_spec (ws := wsX8_heldBetweenPasses) B.pre, B.returns, B.notSynchronized, (name_of_methodNamed B.named B.method).1, hK, hG, hfl⟩
  obtain ⟨ls, hg, hl⟩ : ∃ ls : Array Slot, entryFrame m ([va_rf x0] : List Value).toArray 3 = F0 m 0 ls [] ∧ lv_has ls 3 [(0, va_rf x0)] := by
    cases x0 <;> exact ⟨_, lg_entry_eq .., lv_entry _ (n := 3) (Nat.le_of_ble_eq_true rfl)⟩
  rw [hg]
  exact kX8_heldBetweenPasses_0 hX hw (jIz.start hH hz0) (lv_sub hl [0] rfl) (by decide) (by decide)
end
