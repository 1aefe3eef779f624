section
variable {p : Program} {l : Launch} {e : Env} {s : State} {m : MethodId} {args : Array Value} {below : List Frame} {meth : Method} {c : Code} {D : jD} {z : Nat × Nat} {A : Nat → Prop}
set_option maxHeartbeats 4000000 in
set_option maxRecDepth 100000 in
theorem kX9_passDays_34 {b : Nat} (hX : jX2 D z A p l s m args meth c yX9_passDays cX9_passDays 3 wsX9_passDays (some .int)) (hno : ∀ x ∈ c.exceptionTable.toList, False) {Q : Int32 → jM → Prop} {X : String → jM → Prop}  (n : Nat) : ∀ {x1 : Int32} {x2 : Int32} {μ : jM} {H : Heap} {locs : List Loc} {ls : Array Slot} {cells slots : Nat}, wX9_passDays_34 z b Q X n x1 x2 μ → jIz D z A s.heap μ H locs → lv_has ls 3 [(0, va_rf (some b)), (1, .int x1), (2, .int x2)] → cells + 0 ≤ 2 → slots + 0 ≤ 12 → W p l e rmX9_passDays s m args below meth c H locs cells slots (vx_MQ below (jRz jfI Q D z A) (jXCz X D z A) args s 2 12 A) (F0 m 34 ls []) := by
  induction n with
  | zero =>
    intros
    rename_i hw _ _ _ _
    exact (show False from hw).elim
  | succ n ih =>
    intro x1 x2 μ H locs ls cells slots hw hI hl hcn hsn
    have hw : wX9_passDays_34_b z b Q X (wX9_passDays_34 z b Q X n) x1 x2 μ := hw
    unfold wX9_passDays_34_b at hw
    obtain ⟨hx, hb, hml, hown, hts, hr, hlocks, hnm, hK, hG, hfl⟩ := id hX
    have hown : s.vm.findClass RX9 = some m.cls := hown
    have hfX3 : ∀ w ∈ wsX30, w.before args s = true := fun w h => hts w (List.mem_cons_of_mem _ (List.mem_append_left _ (List.mem_append_left _ (List.mem_append_left _ (List.mem_append_left _ (List.mem_append_left _ (List.mem_append_left _ (List.mem_append_left _ (List.mem_append_left _ (List.mem_append_left _ (List.mem_append_left _ (List.mem_append_right _ h))))))))))))
    have hfX9 : ∀ w ∈ wsX90, w.before args s = true := fun w h => hts w (List.mem_cons_of_mem _ (List.mem_append_left _ (List.mem_append_left _ (List.mem_append_left _ (List.mem_append_left _ (List.mem_append_left _ (List.mem_append_left _ (List.mem_append_left _ (List.mem_append_left _ (List.mem_append_left _ (List.mem_append_left _ (List.mem_append_left _ (List.mem_append_right _ h)))))))))))))
    refine lv_iload_n hx hb dX9_passDays_34 rfl (lv_at hl 2 rfl) ?_
    refine lv_iload_n hx hb dX9_passDays_35 rfl (lv_at hl 1 rfl) ?_
    refine lv_icmp_ge (tgt := 52) hx hb dX9_passDays_36 (by decide) (fun hc => ?_) (fun hc => ?_)
    · have hw := hw.1 hc
      refine j_aload_n (r := (some b)) hx hb dX9_passDays_52 rfl (lv_at hl 0 rfl) ?_
      obtain ⟨v1, hv1, hw⟩ := hw
      refine j_getz (C := RX9) (T := TX9) (N := 1) (ci := 11) (r := (some b)) (v := va_rf v1) hx hb hfX9 hown hK hI rfl 0 (by decide) (hts (.fieldLink RX9 10 "CashPools" "desk" "LCashPools$Desk;") (List.mem_of_getElem? (i := 3) (by decide +kernel))) (fun _ h => h) hv1 dX9_passDays_53 ?_
      obtain ⟨v2, hv2, hw⟩ := hw
      refine j_getz (C := RX3) (T := TX3) (N := 8) (ci := 6) (r := v1) (v := .int v2) hx hb hfX3 hown hK hI rfl 6 (by decide) (hts (.fieldLink RX9 91 "CashPools$Desk" "day" "I") (List.mem_of_getElem? (i := 4) (by decide +kernel))) (fun _ h => h) hv2 dX9_passDays_56 ?_
      exact vx_ret (j_iretz hx hb hr hlocks hI hw (by omega) (by omega) dX9_passDays_59)
    · have hw := hw.2 hc
      refine j_aload_n (r := (some b)) hx hb dX9_passDays_39 rfl (lv_at hl 0 rfl) ?_
      obtain ⟨v3, hv3, hw⟩ := hw
      refine j_getz (C := RX9) (T := TX9) (N := 1) (ci := 11) (r := (some b)) (v := va_rf v3) hx hb hfX9 hown hK hI rfl 0 (by decide) (hts (.fieldLink RX9 10 "CashPools" "desk" "LCashPools$Desk;") (List.mem_of_getElem? (i := 3) (by decide +kernel))) (fun _ h => h) hv3 dX9_passDays_40 ?_
      obtain ⟨b6, ⟨hrb6, hfs⟩, hw⟩ := hw
      refine j_goz hI (va_runV (As := []) (rest := []) ⟨hx, hb, hml, hown, hts⟩ (kX3_passDay l hfl D z b6  μ H.size _) (cwV 0 hts gX9_passDays_X3_passDay rfl rfl rfl (by decide +kernel) ⟨Nat.le_of_ble_eq_true rfl, Nat.le_of_ble_eq_true rfl⟩) (j_prV2z hK hG hI hw (ci := 6) rfl hfs) rfl rfl hl.1 (by rw [hrb6]; rfl) (lv_room (Nat.le_of_ble_eq_true rfl)) dX9_passDays_43 ⟨by show _ ≤ 2; omega, by show _ ≤ 12; omega⟩) (fun u4 μ5 H locs hw hI => ?_)
      refine W.eq (g2 := F0 m 46 ls []) rfl ?_
      obtain ⟨v7, ev7⟩ : ∃ y : Int32, y = x2 + (1 : Int32) := ⟨_, rfl⟩
      have hw := hw v7 ev7
      refine lv_iinc (v := v7) (lv' := [(2, .int v7), (0, va_rf (some b)), (1, .int x1)]) hx hb dX9_passDays_46 hl (k := 2) rfl (by rw [ev7]; rfl) (by decide) rfl (fun ls hl => ?_)
      refine lv_goto (tgt := 34) hx hb dX9_passDays_49 (by decide) ?_
      exact ih hw hI (lv_sub hl [1, 2, 0] rfl) (by omega) (by omega)
set_option maxHeartbeats 4000000 in
set_option maxRecDepth 100000 in
theorem kX9_passDays_0 {b : Nat} (hX : jX2 D z A p l s m args meth c yX9_passDays cX9_passDays 3 wsX9_passDays (some .int)) (hno : ∀ x ∈ c.exceptionTable.toList, False) {Q : Int32 → jM → Prop} {X : String → jM → Prop}  {x1 : Int32} {μ : jM} {H : Heap} {locs : List Loc} {ls : Array Slot} {cells slots : Nat} (hw : wX9_passDays_0 z b Q X x1 μ) (hI : jIz D z A s.heap μ H locs) (hl : lv_has ls 3 [(0, va_rf (some b)), (1, .int x1)]) (hcn : cells + 2 ≤ 2) (hsn : slots + 12 ≤ 12) : W p l e rmX9_passDays s m args below meth c H locs cells slots (vx_MQ below (jRz jfI Q D z A) (jXCz X D z A) args s 2 12 A) (F0 m 0 ls []) := by
  unfold wX9_passDays_0 at hw
  obtain ⟨hx, hb, hml, hown, hts, hr, hlocks, hnm, hK, hG, hfl⟩ := id hX
  have hown : s.vm.findClass RX9 = some m.cls := hown
  have hfX3 : ∀ w ∈ wsX30, w.before args s = true := fun w h => hts w (List.mem_cons_of_mem _ (List.mem_append_left _ (List.mem_append_left _ (List.mem_append_left _ (List.mem_append_left _ (List.mem_append_left _ (List.mem_append_left _ (List.mem_append_left _ (List.mem_append_left _ (List.mem_append_left _ (List.mem_append_left _ (List.mem_append_right _ h))))))))))))
  have hfX9 : ∀ w ∈ wsX90, w.before args s = true := fun w h => hts w (List.mem_cons_of_mem _ (List.mem_append_left _ (List.mem_append_left _ (List.mem_append_left _ (List.mem_append_left _ (List.mem_append_left _ (List.mem_append_left _ (List.mem_append_left _ (List.mem_append_left _ (List.mem_append_left _ (List.mem_append_left _ (List.mem_append_left _ (List.mem_append_right _ h)))))))))))))
  refine lv_iload_n hx hb dX9_passDays_0 rfl (lv_at hl 1 rfl) ?_
  refine lv_iconst (v := (1)) hx hb dX9_passDays_1 (by decide) ?_
  refine lv_bipush (v := (60)) hx hb dX9_passDays_2 (by decide) ?_
  refine j_goXz hI (vx_runS (As := [.int x1, .int (1 : Int32), .int (60 : Int32)]) (rest := []) ⟨hx, hb, hml, hown, hts⟩ (kX9_requireWithin l hfl D z x1 (1 : Int32) (60 : Int32) μ H.size _ _) (va_cwS 3 hts gX9_passDays_X9_requireWithin rfl rfl rfl (by decide +kernel) ⟨Nat.le_of_ble_eq_true rfl, Nat.le_of_ble_eq_true rfl⟩) (j_prS2z hK hG hI hw) rfl rfl hl.1 rfl (lv_room (Nat.le_of_ble_eq_true rfl)) dX9_passDays_4 ⟨by show _ ≤ 2; omega, by show _ ≤ 12; omega⟩) (fun E ce q9 μX H locs hw hI hce hcv hcl => ?_) (fun u1 μ2 H locs hw hI => ?_)
  · exact j_outz hno hlocks hI hce hcv hcl hw (by omega) (by omega)
  refine W.eq (g2 := F0 m 7 ls []) rfl ?_
  refine j_aload_n (r := (some b)) hx hb dX9_passDays_7 rfl (lv_at hl 0 rfl) ?_
  obtain ⟨v3, hv3, hw⟩ := hw
  refine j_getz (C := RX9) (T := TX9) (N := 1) (ci := 11) (r := (some b)) (v := va_rf v3) hx hb hfX9 hown hK hI rfl 0 (by decide) (hts (.fieldLink RX9 10 "CashPools" "desk" "LCashPools$Desk;") (List.mem_of_getElem? (i := 3) (by decide +kernel))) (fun _ h => h) hv3 dX9_passDays_8 ?_
  obtain ⟨v4, hv4, hw⟩ := hw
  refine j_getz (C := RX3) (T := TX3) (N := 8) (ci := 6) (r := v3) (v := .int v4) hx hb hfX3 hown hK hI rfl 6 (by decide) (hts (.fieldLink RX9 91 "CashPools$Desk" "day" "I") (List.mem_of_getElem? (i := 4) (by decide +kernel))) (fun _ h => h) hv4 dX9_passDays_11 ?_
  refine lv_iload_n hx hb dX9_passDays_14 rfl (lv_at hl 1 rfl) ?_
  refine lv_iadd hx hb dX9_passDays_15 ?_
  refine lv_sipush (v := (400)) hx hb dX9_passDays_16 (by decide) ?_
  refine lv_icmp_le (tgt := 32) hx hb dX9_passDays_19 (by decide) (fun hc => ?_) (fun hc => ?_)
  · have hw := hw.1 hc
    refine lv_iconst (v := (0)) hx hb dX9_passDays_32 (by decide) ?_
    refine lv_topi (fun v5 ev5 => ?_)
    have hw := hw v5 ev5
    refine lv_istore_n (lv' := [(2, .int v5), (0, va_rf (some b)), (1, .int x1)]) hx hb dX9_passDays_33 rfl hl (by decide) rfl (fun ls hl => ?_)
    obtain ⟨n6, hw⟩ := hw
    exact kX9_passDays_34 hX hno  n6 hw hI (lv_sub hl [1, 2, 0] rfl) (by omega) (by omega)
  · have hw := hw.2 hc
    exact j_throw2z (names := ["java/lang/RuntimeException", "java/lang/Exception"]) (cls := "java/lang/IllegalStateException") (text := "today would be too late") (ik := 47) (is := 111) (ic := 51) hx hb hno hfl hml hl.1 hown (by decide +kernel) (by decide +kernel) (hts (.classLink RX9 47 "java/lang/IllegalStateException") (List.mem_of_getElem? (i := 1) (by decide +kernel))) (hts (.initialized "java/lang/IllegalStateException") (List.mem_of_getElem? (i := 2) (by decide +kernel))) hG (by decide +kernel) (fun w h => hts w (List.mem_cons_of_mem _ (List.mem_append_left _ (List.mem_append_right _ h)))) (by decide +kernel) (by decide +kernel) (by decide +kernel) dX9_passDays_22 dX9_passDays_25 dX9_passDays_26 dX9_passDays_28 dX9_passDays_31 (Nat.le_of_ble_eq_true rfl) (Nat.le_of_ble_eq_true rfl) (by show _ ≤ 2; omega) (by show _ ≤ 12; omega) hlocks hI hw (by omega) (by omega)
set_option maxHeartbeats 4000000 in
set_option maxRecDepth 100000 in
theorem kX9_passDays (l : Launch) (hfl : l.stackTraces = false) (D : jD) (z : Nat × Nat) (b : Nat) (x1 : Int32) (μ : jM) (sz : Nat) (Q : Int32 → jM → Prop) (X : String → jM → Prop) : vx_Met l yX9_passDays wsX9_passDays rmX9_passDays (jPre2z D z μ sz [.ref b, .int x1] (wX9_passDays z b x1 μ Q X)) (jRz jfI Q D z (jA z μ sz)) (jXCz X D z (jA z μ sz)) 2 12 (jA z μ sz) := by
  refine vx_ofW (cc := cX9_passDays) (maxL := 3) (ret := (some .int)) (by decide) rfl ?_
  intro p e s m args below meth c s₁ B hml hno hv
  obtain ⟨rfl, hsz, hH, hz0, hK, hG, hw⟩ := hv
  subst hsz
  have hX : jX2 D z (jA z μ s.heap.size) p l s m _ meth c yX9_passDays cX9_passDays 3 wsX9_passDays (some .int) := ⟨B.exec, B.bytes, hml, findClass_of_methodNamed B.named, atoms_spec (ws := wsX9_passDays) B.pre, B.returns, B.notSynchronized, (name_of_methodNamed B.named B.method).1, hK, hG, hfl⟩
  obtain ⟨ls, hg, hl⟩ : ∃ ls : Array Slot, entryFrame m ([.ref b, .int x1] : List Value).toArray 3 = F0 m 0 ls [] ∧ lv_has ls 3 [(0, va_rf (some b)), (1, .int x1)] := by
    exact ⟨_, lg_entry_eq .., lv_entry _ (n := 3) (Nat.le_of_ble_eq_true rfl)⟩
  rw [hg]
  exact kX9_passDays_0 hX hno hw (jIz.start hH hz0) (lv_sub hl [0, 1] rfl) (by decide) (by decide)
set_option maxHeartbeats 4000000 in
set_option maxRecDepth 100000 in
theorem kL_passDays_0 (hX : jX2 D z A p l s m args meth c yL_passDays cL_passDays 4 wsL_passDays (some .int)) (htab : c.exceptionTable.toList = ([⟨0, 9, 12, 13⟩, ⟨0, 9, 15, 15⟩] : List ExceptionTableEntry)) {Q : Int32 → jM → Prop}  {x0 : Option Nat} {x1 : Int32} {x2 : Option Nat} {μ : jM} {H : Heap} {locs : List Loc} {ls : Array Slot} {cells slots : Nat} (hw : wL_passDays_0 z Q x0 x1 x2 μ) (hI : jIz D z A s.heap μ H locs) (hl : lv_has ls 4 [(0, va_rf x0), (1, .int x1), (2, va_rf x2)]) (hcn : cells + 2 ≤ 2) (hsn : slots + 12 ≤ 12) : W p l e rmL_passDays s m args below meth c H locs cells slots (vx_MQ below (jRz jfI Q D z A) (jXCz (fun _ _ => False) D z A) args s 2 12 A) (F0 m 0 ls []) := by
  unfold wL_passDays_0 at hw
  obtain ⟨hx, hb, hml, hown, hts, hr, hlocks, hnm, hK, hG, hfl⟩ := id hX
  have hown : s.vm.findClass RL = some m.cls := hown
  refine j_aload_n (r := x2) hx hb dL_passDays_0 rfl (lv_at hl 2 rfl) ?_
  refine lv_iconst (v := (0)) hx hb dL_passDays_1 (by decide) ?_
  refine j_aload_n (r := x0) hx hb dL_passDays_2 rfl (lv_at hl 0 rfl) ?_
  refine lv_iload_n hx hb dL_passDays_3 rfl (lv_at hl 1 rfl) ?_
  obtain ⟨b3, ⟨hrb3, hfs⟩, hw⟩ := hw
  refine j_goXz hI (vx_runV (As := [.int x1]) (rest := [.int (0 : Int32), va_rf x2]) ⟨hx, hb, hml, hown, hts⟩ (kX9_passDays l hfl D z b3 x1 μ H.size _ _) (cwV 1 hts gL_passDays_X9_passDays rfl rfl rfl (by decide +kernel) ⟨Nat.le_of_ble_eq_true rfl, Nat.le_of_ble_eq_true rfl⟩) (j_prV2z hK hG hI hw (ci := 11) rfl hfs) rfl rfl hl.1 (by rw [hrb3]; rfl) (lv_room (by simp only [List.map, List.sum_cons, List.sum_nil, jrc, jci, jcl, jcr, jcn]; exact Nat.le_of_ble_eq_true rfl)) dL_passDays_4 ⟨by show _ ≤ 2; omega, by show _ ≤ 12; omega⟩) (fun E ce q9 μX H locs hw hI hce hcv hcl => ?_) (fun v1 μ2 H locs hw hI => ?_)
  · rcases hw.2.2 with rfl | rfl
    · have hw := hw.1 rfl
      refine vx_catch hown [] ⟨0, 9, 12, 13⟩ [⟨0, 9, 15, 15⟩] (name := "java/lang/IllegalArgumentException") htab (fun z hz => absurd hz List.not_mem_nil) (by decide) (by decide) (hts (.classLink RL 13 "java/lang/IllegalArgumentException") (List.mem_of_getElem? (i := 1) (by decide +kernel))) (va_Nw.use rfl (hG.2.2.2.2.2.2.2.2.1 _ (by decide +kernel))) hce hcv hcl ?_
      refine W.eq (g2 := F0 m 12 ls [va_rf (some q9)]) rfl ?_
      refine j_astore_nA (r := x2) (r0 := (some q9)) (F := fun w => [(0, va_rf x0), (1, .int x1), (2, w)]) (F2 := fun w => [(3, va_rf (some q9)), (0, va_rf x0), (1, .int x1), (2, w)]) hx hb dL_passDays_12 rfl hl (by decide) (fun w hw => by rcases hw with rfl | ⟨_, rfl⟩ <;> rfl) (fun ls hl => ?_)
      refine lv_iconst (v := (1)) hx hb dL_passDays_13 (by decide) ?_
      exact vx_ret (j_iretz hx hb hr hlocks hI hw (by omega) (by omega) dL_passDays_14)
    · have hw := hw.2.1 rfl
      refine vx_catch hown [⟨0, 9, 12, 13⟩] ⟨0, 9, 15, 15⟩ [] (name := "java/lang/IllegalStateException") htab (List.forall_mem_cons.mpr ⟨Or.inr ⟨by decide, "java/lang/IllegalArgumentException", (hts (.classLink RL 13 "java/lang/IllegalArgumentException") (List.mem_of_getElem? (i := 1) (by decide +kernel))), hG.2.2.2.2.2.2.2.2.2.1 _ (by decide +kernel) _ (by decide +kernel) (by decide +kernel)⟩, (fun z hz => absurd hz List.not_mem_nil)⟩) (by decide) (by decide) (hts (.classLink RL 15 "java/lang/IllegalStateException") (List.mem_of_getElem? (i := 2) (by decide +kernel))) (va_Nw.use rfl (hG.2.2.2.2.2.2.2.2.1 _ (by decide +kernel))) hce hcv hcl ?_
      refine W.eq (g2 := F0 m 15 ls [va_rf (some q9)]) rfl ?_
      refine j_astore_nA (r := x2) (r0 := (some q9)) (F := fun w => [(0, va_rf x0), (1, .int x1), (2, w)]) (F2 := fun w => [(3, va_rf (some q9)), (0, va_rf x0), (1, .int x1), (2, w)]) hx hb dL_passDays_15 rfl hl (by decide) (fun w hw => by rcases hw with rfl | ⟨_, rfl⟩ <;> rfl) (fun ls hl => ?_)
      refine lv_iconst (v := (2)) hx hb dL_passDays_16 (by decide) ?_
      exact vx_ret (j_iretz hx hb hr hlocks hI hw (by omega) (by omega) dL_passDays_17)
  refine W.eq (g2 := F0 m 7 ls [.int v1, .int (0 : Int32), va_rf x2]) rfl ?_
  refine lv_i2l hx hb dL_passDays_7 rfl ?_
  obtain ⟨μ4, hμ4, hw⟩ := hw
  refine j_lastz (r := x2) hx hb hK hI hμ4 dL_passDays_8 (fun H locs hI => ?_)
  refine lv_goto (tgt := 18) hx hb dL_passDays_9 (by decide) ?_
  refine lv_iconst (v := (0)) hx hb dL_passDays_18 (by decide) ?_
  exact vx_ret (j_iretz hx hb hr hlocks hI hw (by omega) (by omega) dL_passDays_19)
set_option maxHeartbeats 4000000 in
set_option maxRecDepth 100000 in
theorem kL_passDays (l : Launch) (hfl : l.stackTraces = false) (D : jD) (z : Nat × Nat) (x0 : Option Nat) (x1 : Int32) (x2 : Option Nat) (μ : jM) (sz : Nat) (Q : Int32 → jM → Prop) : vx_Met l yL_passDays wsL_passDays rmL_passDays (jPre2z D z μ sz [va_rf x0, .int x1, va_rf x2] (wL_passDays z x0 x1 x2 μ Q)) (jRz jfI Q D z (jA z μ sz)) (jXCz (fun _ _ => False) D z (jA z μ sz)) 2 12 (jA z μ sz) := by
  refine vx_ofWH (cc := cL_passDays) (maxL := 4) (ret := (some .int)) (by decide) rfl ?_
  intro p e s m args below meth c s₁ B hml hv
  obtain ⟨rfl, hsz, hH, hz0, hK, hG, hw⟩ := hv
  subst hsz
  have hX : jX2 D z (jA z μ s.heap.size) p l s m _ meth c yL_passDays cL_passDays 4 wsL_passDays (some .int) := ⟨B.exec, B.bytes, hml, findClass_of_methodNamed B.named, atoms_spec (ws := wsL_passDays) B.pre, B.returns, B.notSynchronized, (name_of_methodNamed B.named B.method).1, hK, hG, hfl⟩
  obtain ⟨ls, hg, hl⟩ : ∃ ls : Array Slot, entryFrame m ([va_rf x0, .int x1, va_rf x2] : List Value).toArray 4 = F0 m 0 ls [] ∧ lv_has ls 4 [(0, va_rf x0), (1, .int x1), (2, va_rf x2)] := by
    cases x0 <;> cases x2 <;> exact ⟨_, lg_entry_eq .., lv_entry _ (n := 4) (Nat.le_of_ble_eq_true rfl)⟩
  rw [hg]
  exact kL_passDays_0 hX ((vx_table (x := yL_passDays) B (atoms_spec (ws := wsL_passDays) B.pre _ (List.mem_of_getElem? (i := 0) rfl))).trans rfl) hw (jIz.start hH hz0) (lv_sub hl [0, 1, 2] rfl) (by decide) (by decide)
set_option maxHeartbeats 4000000 in
set_option maxRecDepth 100000 in
theorem kX9_requireAmount_0 (hX : jX2 D z A p l s m args meth c yX9_requireAmount cX9_requireAmount 1 wsX9_requireAmount none) (hno : ∀ x ∈ c.exceptionTable.toList, False) {Q : Unit → jM → Prop} {X : String → jM → Prop}  {x0 : Int32} {μ : jM} {H : Heap} {locs : List Loc} {ls : Array Slot} {cells slots : Nat} (hw : wX9_requireAmount_0 z Q X x0 μ) (hI : jIz D z A s.heap μ H locs) (hl : lv_has ls 1 [(0, .int x0)]) (hcn : cells + 2 ≤ 2) (hsn : slots + 12 ≤ 12) : W p l e rmX9_requireAmount s m args below meth c H locs cells slots (vx_MQ below (jRz jfV Q D z A) (jXCz X D z A) args s 2 12 A) (F0 m 0 ls []) := by
  unfold wX9_requireAmount_0 at hw
  obtain ⟨hx, hb, hml, hown, hts, hr, hlocks, hnm, hK, hG, hfl⟩ := id hX
  have hown : s.vm.findClass RX9 = some m.cls := hown
  refine lv_iload_n hx hb dX9_requireAmount_0 rfl (lv_at hl 0 rfl) ?_
  refine lv_ldc (v := (-1000000)) hx hb hown (hts (.constant RX9 39 (-1000000)) (List.mem_of_getElem? (i := 3) (by decide +kernel))) dX9_requireAmount_1 ?_
  refine lv_ldc (v := (1000000)) hx hb hown (hts (.constant RX9 40 (1000000)) (List.mem_of_getElem? (i := 4) (by decide +kernel))) dX9_requireAmount_3 ?_
  refine j_goXz hI (vx_runS (As := [.int x0, .int (-1000000 : Int32), .int (1000000 : Int32)]) (rest := []) ⟨hx, hb, hml, hown, hts⟩ (kX9_requireWithin l hfl D z x0 (-1000000 : Int32) (1000000 : Int32) μ H.size _ _) (va_cwS 3 hts gX9_requireAmount_X9_requireWithin rfl rfl rfl (by decide +kernel) ⟨Nat.le_of_ble_eq_true rfl, Nat.le_of_ble_eq_true rfl⟩) (j_prS2z hK hG hI hw) rfl rfl hl.1 rfl (lv_room (Nat.le_of_ble_eq_true rfl)) dX9_requireAmount_5 ⟨by show _ ≤ 2; omega, by show _ ≤ 12; omega⟩) (fun E ce q9 μX H locs hw hI hce hcv hcl => ?_) (fun u1 μ2 H locs hw hI => ?_)
  · exact j_outz hno hlocks hI hce hcv hcl hw (by omega) (by omega)
  refine W.eq (g2 := F0 m 8 ls []) rfl ?_
  refine lv_iload_n hx hb dX9_requireAmount_8 rfl (lv_at hl 0 rfl) ?_
  refine lv_if_ne (tgt := 22) hx hb dX9_requireAmount_9 (by decide) (fun hc => ?_) (fun hc => ?_)
  · have hw := hw.1 hc
    exact vx_ret (j_vretz hx hb hr hlocks hI hw (by omega) (by omega) dX9_requireAmount_22)
  · have hw := hw.2 hc
    exact j_throw2z (names := ["java/lang/RuntimeException", "java/lang/Exception"]) (cls := "java/lang/IllegalArgumentException") (text := "the amount is 0") (ik := 212) (is := 217) (ic := 216) hx hb hno hfl hml hl.1 hown (by decide +kernel) (by decide +kernel) (hts (.classLink RX9 212 "java/lang/IllegalArgumentException") (List.mem_of_getElem? (i := 1) (by decide +kernel))) (hts (.initialized "java/lang/IllegalArgumentException") (List.mem_of_getElem? (i := 2) (by decide +kernel))) hG (by decide +kernel) (fun w h => hts w (List.mem_cons_of_mem _ (List.mem_append_right _ h))) (by decide +kernel) (by decide +kernel) (by decide +kernel) dX9_requireAmount_12 dX9_requireAmount_15 dX9_requireAmount_16 dX9_requireAmount_18 dX9_requireAmount_21 (Nat.le_of_ble_eq_true rfl) (Nat.le_of_ble_eq_true rfl) (by show _ ≤ 2; omega) (by show _ ≤ 12; omega) hlocks hI hw (by omega) (by omega)
set_option maxHeartbeats 4000000 in
set_option maxRecDepth 100000 in
theorem kX9_requireAmount (l : Launch) (hfl : l.stackTraces = false) (D : jD) (z : Nat × Nat) (x0 : Int32) (μ : jM) (sz : Nat) (Q : Unit → jM → Prop) (X : String → jM → Prop) : vx_Met l yX9_requireAmount wsX9_requireAmount rmX9_requireAmount (jPre2z D z μ sz [.int x0] (wX9_requireAmount z x0 μ Q X)) (jRz jfV Q D z (jA z μ sz)) (jXCz X D z (jA z μ sz)) 2 12 (jA z μ sz) := by
  refine vx_ofW (cc := cX9_requireAmount) (maxL := 1) (ret := none) (by decide) rfl ?_
  intro p e s m args below meth c s₁ B hml hno hv
  obtain ⟨rfl, hsz, hH, hz0, hK, hG, hw⟩ := hv
  subst hsz
  have hX : jX2 D z (jA z μ s.heap.size) p l s m _ meth c yX9_requireAmount cX9_requireAmount 1 wsX9_requireAmount none := ⟨B.exec, B.bytes, hml, findClass_of_methodNamed B.named, atoms_spec (ws := wsX9_requireAmount) B.pre, B.returns, B.notSynchronized, (name_of_methodNamed B.named B.method).1, hK, hG, hfl⟩
  obtain ⟨ls, hg, hl⟩ : ∃ ls : Array Slot, entryFrame m ([.int x0] : List Value).toArray 1 = F0 m 0 ls [] ∧ lv_has ls 1 [(0, .int x0)] := by
    exact ⟨_, lg_entry_eq .., lv_entry _ (n := 1) (Nat.le_of_ble_eq_true rfl)⟩
  rw [hg]
  exact kX9_requireAmount_0 hX hno hw (jIz.start hH hz0) (lv_sub hl [0] rfl) (by decide) (by decide)
set_option maxHeartbeats 4000000 in
set_option maxRecDepth 100000 in
theorem kX9_book_0 {b : Nat} (hX : jX2 D z A p l s m args meth c yX9_book cX9_book 4 wsX9_book (some .long)) (hno : ∀ x ∈ c.exceptionTable.toList, False) {Q : Int64 → jM → Prop} {X : String → jM → Prop}  {x1 : Int32} {x2 : Int32} {μ : jM} {H : Heap} {locs : List Loc} {ls : Array Slot} {cells slots : Nat} (hw : wX9_book_0 z b Q X x1 x2 μ) (hI : jIz D z A s.heap μ H locs) (hl : lv_has ls 4 [(0, va_rf (some b)), (1, .int x1), (2, .int x2)]) (hcn : cells + 3 ≤ 3) (hsn : slots + 18 ≤ 18) : W p l e rmX9_book s m args below meth c H locs cells slots (vx_MQ below (jRz jfJ Q D z A) (jXCz X D z A) args s 3 18 A) (F0 m 0 ls []) := by
  unfold wX9_book_0 at hw
  obtain ⟨hx, hb, hml, hown, hts, hr, hlocks, hnm, hK, hG, hfl⟩ := id hX
  have hown : s.vm.findClass RX9 = some m.cls := hown
  have hfX0 : ∀ w ∈ wsX00, w.before args s = true := fun w h => hts w (List.mem_cons_of_mem _ (List.mem_append_left _ (List.mem_append_left _ (List.mem_append_left _ (List.mem_append_left _ (List.mem_append_left _ (List.mem_append_right _ h)))))))
  refine j_aload_n (r := (some b)) hx hb dX9_book_0 rfl (lv_at hl 0 rfl) ?_
  refine lv_iload_n hx hb dX9_book_1 rfl (lv_at hl 1 rfl) ?_
  obtain ⟨hfs, hw⟩ := hw
  refine j_goXz hI (vx_runV (As := [.int x1]) (rest := []) ⟨hx, hb, hml, hown, hts⟩ (kX9_accountAt l hfl D z b x1 μ H.size _ _) (cwV 1 hts gX9_book_X9_accountAt rfl rfl rfl (by decide +kernel) ⟨Nat.le_of_ble_eq_true rfl, Nat.le_of_ble_eq_true rfl⟩) (j_prV2z hK hG hI hw (ci := 11) rfl hfs) rfl rfl hl.1 rfl (lv_room (Nat.le_of_ble_eq_true rfl)) dX9_book_2 ⟨by show _ ≤ 3; omega, by show _ ≤ 18; omega⟩) (fun E ce q9 μX H locs hw hI hce hcv hcl => ?_) (fun v1 μ2 H locs hw hI => ?_)
  · exact j_outz hno hlocks hI hce hcv hcl hw (by omega) (by omega)
  refine W.eq (g2 := F0 m 5 ls [va_rf v1]) rfl ?_
  refine j_astore_n (r := v1) (lv' := [(3, va_rf v1), (0, va_rf (some b)), (1, .int x1), (2, .int x2)]) hx hb dX9_book_5 rfl hl (by decide) rfl (fun ls hl => ?_)
  refine lv_iload_n hx hb dX9_book_6 rfl (lv_at hl 3 rfl) ?_
  refine j_goXz hI (vx_runS (As := [.int x2]) (rest := []) ⟨hx, hb, hml, hown, hts⟩ (kX9_requireAmount l hfl D z x2 μ2 H.size _ _) (va_cwS 1 hts gX9_book_X9_requireAmount rfl rfl rfl (by decide +kernel) ⟨Nat.le_of_ble_eq_true rfl, Nat.le_of_ble_eq_true rfl⟩) (j_prS2z hK hG hI hw) rfl rfl hl.1 rfl (lv_room (Nat.le_of_ble_eq_true rfl)) dX9_book_7 ⟨by show _ ≤ 3; omega, by show _ ≤ 18; omega⟩) (fun E ce q9 μX H locs hw hI hce hcv hcl => ?_) (fun u3 μ4 H locs hw hI => ?_)
  · exact j_outz hno hlocks hI hce hcv hcl hw (by omega) (by omega)
  refine W.eq (g2 := F0 m 10 ls []) rfl ?_
  refine j_aload_n (r := v1) hx hb dX9_book_10 rfl (lv_at hl 0 rfl) ?_
  refine lv_dup hx hb dX9_book_11 (jrc v1) ?_
  obtain ⟨v5, hv5, hw⟩ := hw
  refine j_getz (C := RX0) (T := TX0) (N := 12) (ci := 3) (r := v1) (v := .long v5) hx hb hfX0 hown hK hI rfl 8 (by decide) (hts (.fieldLink RX9 119 "CashPools$Account" "cash" "J") (List.mem_of_getElem? (i := 1) (by decide +kernel))) (fun _ h => h) hv5 dX9_book_12 ?_
  refine lv_iload_n hx hb dX9_book_15 rfl (lv_at hl 3 rfl) ?_
  refine lv_i2l hx hb dX9_book_16 rfl ?_
  refine lv_ladd hx hb dX9_book_17 ?_
  obtain ⟨μ6, hμ6, hw⟩ := hw
  refine j_putz (C := RX0) (T := TX0) (N := 12) (ci := 3) (r := v1) (v := .long (v5 + (Int32.toInt64 x2))) hx hb hfX0 tyX0 tyX0_ok nmX0 hown hK hI rfl 8 (by decide) (hts (.fieldLink RX9 119 "CashPools$Account" "cash" "J") (List.mem_of_getElem? (i := 1) (by decide +kernel))) (fun _ h => h) rfl (tyX0_ok 8 (by decide)) rfl rfl hμ6 dX9_book_18 (fun H locs hI => ?_)
  refine j_aload_n (r := v1) hx hb dX9_book_21 rfl (lv_at hl 0 rfl) ?_
  obtain ⟨v7, hv7, hw⟩ := hw
  refine j_getz (C := RX0) (T := TX0) (N := 12) (ci := 3) (r := v1) (v := .long v7) hx hb hfX0 hown hK hI rfl 8 (by decide) (hts (.fieldLink RX9 119 "CashPools$Account" "cash" "J") (List.mem_of_getElem? (i := 1) (by decide +kernel))) (fun _ h => h) hv7 dX9_book_22 ?_
  exact vx_ret (j_lretz hx hb hr hlocks hI hw (by omega) (by omega) dX9_book_25)
set_option maxHeartbeats 4000000 in
set_option maxRecDepth 100000 in
theorem kX9_book (l : Launch) (hfl : l.stackTraces = false) (D : jD) (z : Nat × Nat) (b : Nat) (x1 : Int32) (x2 : Int32) (μ : jM) (sz : Nat) (Q : Int64 → jM → Prop) (X : String → jM → Prop) : vx_Met l yX9_book wsX9_book rmX9_book (jPre2z D z μ sz [.ref b, .int x1, .int x2] (wX9_book z b x1 x2 μ Q X)) (jRz jfJ Q D z (jA z μ sz)) (jXCz X D z (jA z μ sz)) 3 18 (jA z μ sz) := by
  refine vx_ofW (cc := cX9_book) (maxL := 4) (ret := (some .long)) (by decide) rfl ?_
  intro p e s m args below meth c s₁ B hml hno hv
  obtain ⟨rfl, hsz, hH, hz0, hK, hG, hw⟩ := hv
  subst hsz
  have hX : jX2 D z (jA z μ s.heap.size) p l s m _ meth c yX9_book cX9_book 4 wsX9_book (some .long) := ⟨B.exec, B.bytes, hml, findClass_of_methodNamed B.named, atoms_spec (ws := wsX9_book) B.pre, B.returns, B.notSynchronized, (name_of_methodNamed B.named B.method).1, hK, hG, hfl⟩
  obtain ⟨ls, hg, hl⟩ : ∃ ls : Array Slot, entryFrame m ([.ref b, .int x1, .int x2] : List Value).toArray 4 = F0 m 0 ls [] ∧ lv_has ls 4 [(0, va_rf (some b)), (1, .int x1), (2, .int x2)] := by
    exact ⟨_, lg_entry_eq .., lv_entry _ (n := 4) (Nat.le_of_ble_eq_true rfl)⟩
  rw [hg]
  exact kX9_book_0 hX hno hw (jIz.start hH hz0) (lv_sub hl [0, 1, 2] rfl) (by decide) (by decide)
set_option maxHeartbeats 4000000 in
set_option maxRecDepth 100000 in
theorem kL_book_0 (hX : jX2 D z A p l s m args meth c yL_book cL_book 5 wsL_book (some .int)) (htab : c.exceptionTable.toList = ([⟨0, 9, 12, 21⟩, ⟨0, 9, 16, 13⟩] : List ExceptionTableEntry)) {Q : Int32 → jM → Prop}  {x0 : Option Nat} {x1 : Int32} {x2 : Int32} {x3 : Option Nat} {μ : jM} {H : Heap} {locs : List Loc} {ls : Array Slot} {cells slots : Nat} (hw : wL_book_0 z Q x0 x1 x2 x3 μ) (hI : jIz D z A s.heap μ H locs) (hl : lv_has ls 5 [(0, va_rf x0), (1, .int x1), (2, .int x2), (3, va_rf x3)]) (hcn : cells + 3 ≤ 3) (hsn : slots + 18 ≤ 18) : W p l e rmL_book s m args below meth c H locs cells slots (vx_MQ below (jRz jfI Q D z A) (jXCz (fun _ _ => False) D z A) args s 3 18 A) (F0 m 0 ls []) := by
  unfold wL_book_0 at hw
  obtain ⟨hx, hb, hml, hown, hts, hr, hlocks, hnm, hK, hG, hfl⟩ := id hX
  have hown : s.vm.findClass RL = some m.cls := hown
  refine j_aload_n (r := x3) hx hb dL_book_0 rfl (lv_at hl 3 rfl) ?_
  refine lv_iconst (v := (0)) hx hb dL_book_1 (by decide) ?_
  refine j_aload_n (r := x0) hx hb dL_book_2 rfl (lv_at hl 0 rfl) ?_
  refine lv_iload_n hx hb dL_book_3 rfl (lv_at hl 1 rfl) ?_
  refine lv_iload_n hx hb dL_book_4 rfl (lv_at hl 2 rfl) ?_
  obtain ⟨b3, ⟨hrb3, hfs⟩, hw⟩ := hw
  refine j_goXz hI (vx_runV (As := [.int x1, .int x2]) (rest := [.int (0 : Int32), va_rf x3]) ⟨hx, hb, hml, hown, hts⟩ (kX9_book l hfl D z b3 x1 x2 μ H.size _ _) (cwV 2 hts gL_book_X9_book rfl rfl rfl (by decide +kernel) ⟨Nat.le_of_ble_eq_true rfl, Nat.le_of_ble_eq_true rfl⟩) (j_prV2z hK hG hI hw (ci := 11) rfl hfs) rfl rfl hl.1 (by rw [hrb3]; rfl) (lv_room (by simp only [List.map, List.sum_cons, List.sum_nil, jrc, jci, jcl, jcr, jcn]; exact Nat.le_of_ble_eq_true rfl)) dL_book_5 ⟨by show _ ≤ 3; omega, by show _ ≤ 18; omega⟩) (fun E ce q9 μX H locs hw hI hce hcv hcl => ?_) (fun v1 μ2 H locs hw hI => ?_)
  · rcases hw.2.2 with rfl | rfl
    · have hw := hw.1 rfl
      refine vx_catch hown [] ⟨0, 9, 12, 21⟩ [⟨0, 9, 16, 13⟩] (name := "java/lang/IndexOutOfBoundsException") htab (fun z hz => absurd hz List.not_mem_nil) (by decide) (by decide) (hts (.classLink RL 21 "java/lang/IndexOutOfBoundsException") (List.mem_of_getElem? (i := 1) (by decide +kernel))) (va_Nw.use rfl (hG.2.2.2.2.2.2.2.2.1 _ (by decide +kernel))) hce hcv hcl ?_
      refine W.eq (g2 := F0 m 12 ls [va_rf (some q9)]) rfl ?_
      refine j_astoreA (r := x3) (r0 := (some q9)) (F := fun w => [(0, va_rf x0), (1, .int x1), (2, .int x2), (3, w)]) (F2 := fun w => [(4, va_rf (some q9)), (0, va_rf x0), (1, .int x1), (2, .int x2), (3, w)]) hx hb dL_book_12 hl (by decide) (fun w hw => by rcases hw with rfl | ⟨_, rfl⟩ <;> rfl) (fun ls hl => ?_)
      refine lv_iconst (v := (1)) hx hb dL_book_14 (by decide) ?_
      exact vx_ret (j_iretz hx hb hr hlocks hI hw (by omega) (by omega) dL_book_15)
    · have hw := hw.2.1 rfl
      refine vx_catch hown [⟨0, 9, 12, 21⟩] ⟨0, 9, 16, 13⟩ [] (name := "java/lang/IllegalArgumentException") htab (List.forall_mem_cons.mpr ⟨Or.inr ⟨by decide, "java/lang/IndexOutOfBoundsException", (hts (.classLink RL 21 "java/lang/IndexOutOfBoundsException") (List.mem_of_getElem? (i := 1) (by decide +kernel))), hG.2.2.2.2.2.2.2.2.2.1 _ (by decide +kernel) _ (by decide +kernel) (by decide +kernel)⟩, (fun z hz => absurd hz List.not_mem_nil)⟩) (by decide) (by decide) (hts (.classLink RL 13 "java/lang/IllegalArgumentException") (List.mem_of_getElem? (i := 2) (by decide +kernel))) (va_Nw.use rfl (hG.2.2.2.2.2.2.2.2.1 _ (by decide +kernel))) hce hcv hcl ?_
      refine W.eq (g2 := F0 m 16 ls [va_rf (some q9)]) rfl ?_
      refine j_astoreA (r := x3) (r0 := (some q9)) (F := fun w => [(0, va_rf x0), (1, .int x1), (2, .int x2), (3, w)]) (F2 := fun w => [(4, va_rf (some q9)), (0, va_rf x0), (1, .int x1), (2, .int x2), (3, w)]) hx hb dL_book_16 hl (by decide) (fun w hw => by rcases hw with rfl | ⟨_, rfl⟩ <;> rfl) (fun ls hl => ?_)
      refine lv_iconst (v := (2)) hx hb dL_book_18 (by decide) ?_
      exact vx_ret (j_iretz hx hb hr hlocks hI hw (by omega) (by omega) dL_book_19)
  refine W.eq (g2 := F0 m 8 ls [.long v1, .int (0 : Int32), va_rf x3]) rfl ?_
  obtain ⟨μ4, hμ4, hw⟩ := hw
  refine j_lastz (r := x3) hx hb hK hI hμ4 dL_book_8 (fun H locs hI => ?_)
  refine lv_goto (tgt := 20) hx hb dL_book_9 (by decide) ?_
  refine lv_iconst (v := (0)) hx hb dL_book_20 (by decide) ?_
  exact vx_ret (j_iretz hx hb hr hlocks hI hw (by omega) (by omega) dL_book_21)
set_option maxHeartbeats 4000000 in
set_option maxRecDepth 100000 in
theorem kL_book (l : Launch) (hfl : l.stackTraces = false) (D : jD) (z : Nat × Nat) (x0 : Option Nat) (x1 : Int32) (x2 : Int32) (x3 : Option Nat) (μ : jM) (sz : Nat) (Q : Int32 → jM → Prop) : vx_Met l yL_book wsL_book rmL_book (jPre2z D z μ sz [va_rf x0, .int x1, .int x2, va_rf x3] (wL_book z x0 x1 x2 x3 μ Q)) (jRz jfI Q D z (jA z μ sz)) (jXCz (fun _ _ => False) D z (jA z μ sz)) 3 18 (jA z μ sz) := by
  refine vx_ofWH (cc := cL_book) (maxL := 5) (ret := (some .int)) (by decide) rfl ?_
  intro p e s m args below meth c s₁ B hml hv
  obtain ⟨rfl, hsz, hH, hz0, hK, hG, hw⟩ := hv
  subst hsz
  have hX : jX2 D z (jA z μ s.heap.size) p l s m _ meth c yL_book cL_book 5 wsL_book (some .int) := ⟨B.exec, B.bytes, hml, findClass_of_methodNamed B.named, atoms_spec (ws := wsL_book) B.pre, B.returns, B.notSynchronized, (name_of_methodNamed B.named B.method).1, hK, hG, hfl⟩
  obtain ⟨ls, hg, hl⟩ : ∃ ls : Array Slot, entryFrame m ([va_rf x0, .int x1, .int x2, va_rf x3] : List Value).toArray 5 = F0 m 0 ls [] ∧ lv_has ls 5 [(0, va_rf x0), (1, .int x1), (2, .int x2), (3, va_rf x3)] := by
    cases x0 <;> cases x3 <;> exact ⟨_, lg_entry_eq .., lv_entry _ (n := 5) (Nat.le_of_ble_eq_true rfl)⟩
  rw [hg]
  exact kL_book_0 hX ((vx_table (x := yL_book) B (atoms_spec (ws := wsL_book) B.pre _ (List.mem_of_getElem? (i := 0) rfl))).trans rfl) hw (jIz.start hH hz0) (lv_sub hl [0, 1, 2, 3] rfl) (by decide) (by decide)
set_option maxHeartbeats 4000000 in
set_option maxRecDepth 100000 in
theorem kX4_init_0 {b : Nat} (hX : jX2 D z A p l s m args meth c yX4_init cX4_init 6 wsX4_init none) {Q : Unit → jM → Prop}  {x1 : Option Nat} {x2 : Int32} {x3 : Int32} {x4 : Int32} {x5 : Int32} {μ : jM} {H : Heap} {locs : List Loc} {ls : Array Slot} {cells slots : Nat} (hw : wX4_init_0 z b Q x1 x2 x3 x4 x5 μ) (hI : jIz D z A s.heap μ H locs) (hl : lv_has ls 6 [(0, va_rf (some b)), (1, va_rf x1), (2, .int x2), (3, .int x3), (4, .int x4), (5, .int x5)]) (hcn : cells + 0 ≤ 0) (hsn : slots + 0 ≤ 0) : W p l e rmX4_init s m args below meth c H locs cells slots (MQ below (jRz jfV Q D z A) args s 0 0 A) (F0 m 0 ls []) := by
  unfold wX4_init_0 at hw
  obtain ⟨hx, hb, hml, hown, hts, hr, hlocks, hnm, hK, hG, hfl⟩ := id hX
  have hown : s.vm.findClass RX4 = some m.cls := hown
  have hfX4 : ∀ w ∈ wsX40, w.before args s = true := fun w h => hts w (List.mem_cons_of_mem _ (List.mem_append_right _ h))
  refine j_aload_n (r := (some b)) hx hb dX4_init_0 rfl (lv_at hl 0 rfl) ?_
  refine W.objInit hx hb hown (hts (.methodLink RX4 1 objectInit) (List.mem_of_getElem? (i := 1) (by decide +kernel))) (hts (.instanceMethod objectInit) (List.mem_of_getElem? (i := 2) (by decide +kernel))) (hts (.code objectInit ⟨#[0xb1]⟩ 1 none) (List.mem_of_getElem? (i := 3) (by decide +kernel))) rfl (by rw [hml]; exact hl.1) rfl dX4_init_1 (Nat.le_of_ble_eq_true rfl) (Nat.le_of_ble_eq_true rfl) ?_
  refine W.eq (g2 := F0 m 4 ls []) rfl ?_
  refine j_aload_n (r := (some b)) hx hb dX4_init_4 rfl (lv_at hl 0 rfl) ?_
  refine j_aload_n (r := x1) hx hb dX4_init_5 rfl (lv_at hl 1 rfl) ?_
  obtain ⟨μ1, hμ1, hw⟩ := hw
  refine j_putFz (C := RX4) (T := TX4) (N := 7) (ci := 7) (r := (some b)) (v := va_rf x1) hx hb hfX4 tyX4 tyX4_ok nmX4 hown hK hI rfl 0 (by decide) (hts (.fieldLink RX4 7 "CashPools$Flow" "account" "LCashPools$Account;") (List.mem_of_getElem? (i := 4) (by decide +kernel))) (fun _ h => h) rfl hnm rfl (tyX4_ok 0 (by decide)) (jnr _ x1) (jfr _ x1) hμ1 dX4_init_6 (fun H locs hI => ?_)
  refine j_aload_n (r := (some b)) hx hb dX4_init_9 rfl (lv_at hl 0 rfl) ?_
  refine lv_iload_n hx hb dX4_init_10 rfl (lv_at hl 2 rfl) ?_
  obtain ⟨μ2, hμ2, hw⟩ := hw
  refine j_putFz (C := RX4) (T := TX4) (N := 7) (ci := 7) (r := (some b)) (v := .int x2) hx hb hfX4 tyX4 tyX4_ok nmX4 hown hK hI rfl 1 (by decide) (hts (.fieldLink RX4 13 "CashPools$Flow" "amount" "I") (List.mem_of_getElem? (i := 5) (by decide +kernel))) (fun _ h => h) rfl hnm rfl (tyX4_ok 1 (by decide)) rfl rfl hμ2 dX4_init_11 (fun H locs hI => ?_)
  refine j_aload_n (r := (some b)) hx hb dX4_init_14 rfl (lv_at hl 0 rfl) ?_
  refine lv_iload hx hb dX4_init_15 (lv_at hl 4 rfl) ?_
  obtain ⟨μ3, hμ3, hw⟩ := hw
  refine j_putFz (C := RX4) (T := TX4) (N := 7) (ci := 7) (r := (some b)) (v := .int x4) hx hb hfX4 tyX4 tyX4_ok nmX4 hown hK hI rfl 2 (by decide) (hts (.fieldLink RX4 17 "CashPools$Flow" "step" "I") (List.mem_of_getElem? (i := 6) (by decide +kernel))) (fun _ h => h) rfl hnm rfl (tyX4_ok 2 (by decide)) rfl rfl hμ3 dX4_init_17 (fun H locs hI => ?_)
  refine j_aload_n (r := (some b)) hx hb dX4_init_20 rfl (lv_at hl 0 rfl) ?_
  refine lv_iload_n hx hb dX4_init_21 rfl (lv_at hl 3 rfl) ?_
  obtain ⟨μ4, hμ4, hw⟩ := hw
  refine j_putz (C := RX4) (T := TX4) (N := 7) (ci := 7) (r := (some b)) (v := .int x3) hx hb hfX4 tyX4 tyX4_ok nmX4 hown hK hI rfl 3 (by decide) (hts (.fieldLink RX4 20 "CashPools$Flow" "due" "I") (List.mem_of_getElem? (i := 7) (by decide +kernel))) (fun _ h => h) rfl (tyX4_ok 3 (by decide)) rfl rfl hμ4 dX4_init_22 (fun H locs hI => ?_)
  refine j_aload_n (r := (some b)) hx hb dX4_init_25 rfl (lv_at hl 0 rfl) ?_
  refine lv_iload hx hb dX4_init_26 (lv_at hl 5 rfl) ?_
  obtain ⟨μ5, hμ5, hw⟩ := hw
  refine j_putz (C := RX4) (T := TX4) (N := 7) (ci := 7) (r := (some b)) (v := .int x5) hx hb hfX4 tyX4 tyX4_ok nmX4 hown hK hI rfl 4 (by decide) (hts (.fieldLink RX4 23 "CashPools$Flow" "left" "I") (List.mem_of_getElem? (i := 8) (by decide +kernel))) (fun _ h => h) rfl (tyX4_ok 4 (by decide)) rfl rfl hμ5 dX4_init_28 (fun H locs hI => ?_)
  exact j_vretz hx hb hr hlocks hI hw (by omega) (by omega) dX4_init_31
set_option maxHeartbeats 4000000 in
set_option maxRecDepth 100000 in
theorem kX4_init (l : Launch) (hfl : l.stackTraces = false) (D : jD) (z : Nat × Nat) (b : Nat) (x1 : Option Nat) (x2 : Int32) (x3 : Int32) (x4 : Int32) (x5 : Int32) (μ : jM) (sz : Nat) (Q : Unit → jM → Prop) : Met l yX4_init wsX4_init rmX4_init (jPre2z D z μ sz [.ref b, va_rf x1, .int x2, .int x3, .int x4, .int x5] (wX4_init z b x1 x2 x3 x4 x5 μ Q)) (jRz jfV Q D z (jA z μ sz)) 0 0 (jA z μ sz) := by
  refine Met.ofW (cc := cX4_init) (maxL := 6) (ret := none) (by decide) rfl ?_
  intro p e s m args below meth c s₁ B hml hv
  obtain ⟨rfl, hsz, hH, hz0, hK, hG, hw⟩ := hv
  subst hsz
  have hX : jX2 D z (jA z μ s.heap.size) p l s m _ meth c yX4_init cX4_init 6 wsX4_init none := ⟨B.exec, B.bytes, hml, findClass_of_methodNamed B.named, atoms_spec (ws := wsX4_init) B.pre, B.returns, B.notSynchronized, (name_of_methodNamed B.named B.method).1, hK, hG, hfl⟩
  obtain ⟨ls, hg, hl⟩ : ∃ ls : Array Slot, entryFrame m ([.ref b, va_rf x1, .int x2, .int x3, .int x4, .int x5] : List Value).toArray 6 = F0 m 0 ls [] ∧ lv_has ls 6 [(0, va_rf (some b)), (1, va_rf x1), (2, .int x2), (3, .int x3), (4, .int x4), (5, .int x5)] := by
    cases x1 <;> exact ⟨_, lg_entry_eq .., lv_entry _ (n := 6) (Nat.le_of_ble_eq_true rfl)⟩
  rw [hg]
  exact kX4_init_0 hX hw (jIz.start hH hz0) (lv_sub hl [0, 1, 2, 3, 4, 5] rfl) (by decide) (by decide)
set_option maxHeartbeats 4000000 in
set_option maxRecDepth 100000 in
theorem kX9_schedule_0 {b : Nat} (hX : jX2 D z A p l s m args meth c yX9_schedule cX9_schedule 7 wsX9_schedule (some .int)) (hno : ∀ x ∈ c.exceptionTable.toList, False) {Q : Int32 → jM → Prop} {X : String → jM → Prop}  {x1 : Int32} {x2 : Int32} {x3 : Int32} {x4 : Int32} {x5 : Int32} {μ : jM} {H : Heap} {locs : List Loc} {ls : Array Slot} {cells slots : Nat} (hw : wX9_schedule_0 z b Q X x1 x2 x3 x4 x5 μ) (hI : jIz D z A s.heap μ H locs) (hl : lv_has ls 7 [(0, va_rf (some b)), (1, .int x1), (2, .int x2), (3, .int x3), (4, .int x4), (5, .int x5)]) (hcn : cells + 8 ≤ 8) (hsn : slots + 75 ≤ 75) : W p l e rmX9_schedule s m args below meth c H locs cells slots (vx_MQ below (jRz jfI Q D z A) (jXCz X D z A) args s 8 75 A) (F0 m 0 ls []) := by
  unfold wX9_schedule_0 at hw
  obtain ⟨hx, hb, hml, hown, hts, hr, hlocks, hnm, hK, hG, hfl⟩ := id hX
  have hown : s.vm.findClass RX9 = some m.cls := hown
  have hfX3 : ∀ w ∈ wsX30, w.before args s = true := fun w h => hts w (List.mem_cons_of_mem _ (List.mem_append_left _ (List.mem_append_left _ (List.mem_append_left _ (List.mem_append_left _ (List.mem_append_left _ (List.mem_append_right _ h)))))))
  have hfX4 : ∀ w ∈ wsX40, w.before args s = true := fun w h => hts w (List.mem_cons_of_mem _ (List.mem_append_left _ (List.mem_append_left _ (List.mem_append_left _ (List.mem_append_left _ (List.mem_append_right _ h))))))
  have hfX9 : ∀ w ∈ wsX90, w.before args s = true := fun w h => hts w (List.mem_cons_of_mem _ (List.mem_append_left _ (List.mem_append_left _ (List.mem_append_left _ (List.mem_append_left _ (List.mem_append_left _ (List.mem_append_left _ (List.mem_append_right _ h))))))))
  refine j_aload_n (r := (some b)) hx hb dX9_schedule_0 rfl (lv_at hl 0 rfl) ?_
  refine lv_iload_n hx hb dX9_schedule_1 rfl (lv_at hl 1 rfl) ?_
  obtain ⟨hfs, hw⟩ := hw
  refine j_goXz hI (vx_runV (As := [.int x1]) (rest := []) ⟨hx, hb, hml, hown, hts⟩ (kX9_accountAt l hfl D z b x1 μ H.size _ _) (cwV 1 hts gX9_schedule_X9_accountAt rfl rfl rfl (by decide +kernel) ⟨Nat.le_of_ble_eq_true rfl, Nat.le_of_ble_eq_true rfl⟩) (j_prV2z hK hG hI hw (ci := 11) rfl hfs) rfl rfl hl.1 rfl (lv_room (Nat.le_of_ble_eq_true rfl)) dX9_schedule_2 ⟨by show _ ≤ 8; omega, by show _ ≤ 75; omega⟩) (fun E ce q9 μX H locs hw hI hce hcv hcl => ?_) (fun v1 μ2 H locs hw hI => ?_)
  · exact j_outz hno hlocks hI hce hcv hcl hw (by omega) (by omega)
  refine W.eq (g2 := F0 m 5 ls [va_rf v1]) rfl ?_
  refine j_astore (r := v1) (lv' := [(6, va_rf v1), (0, va_rf (some b)), (1, .int x1), (2, .int x2), (3, .int x3), (4, .int x4), (5, .int x5)]) hx hb dX9_schedule_5 hl (by decide) rfl (fun ls hl => ?_)
  refine lv_iload_n hx hb dX9_schedule_7 rfl (lv_at hl 3 rfl) ?_
  refine j_goXz hI (vx_runS (As := [.int x2]) (rest := []) ⟨hx, hb, hml, hown, hts⟩ (kX9_requireAmount l hfl D z x2 μ2 H.size _ _) (va_cwS 1 hts gX9_schedule_X9_requireAmount rfl rfl rfl (by decide +kernel) ⟨Nat.le_of_ble_eq_true rfl, Nat.le_of_ble_eq_true rfl⟩) (j_prS2z hK hG hI hw) rfl rfl hl.1 rfl (lv_room (Nat.le_of_ble_eq_true rfl)) dX9_schedule_8 ⟨by show _ ≤ 8; omega, by show _ ≤ 75; omega⟩) (fun E ce q9 μX H locs hw hI hce hcv hcl => ?_) (fun u3 μ4 H locs hw hI => ?_)
  · exact j_outz hno hlocks hI hce hcv hcl hw (by omega) (by omega)
  refine W.eq (g2 := F0 m 11 ls []) rfl ?_
  refine lv_iload_n hx hb dX9_schedule_11 rfl (lv_at hl 4 rfl) ?_
  refine j_aload_n (r := (some b)) hx hb dX9_schedule_12 rfl (lv_at hl 1 rfl) ?_
  obtain ⟨v5, hv5, hw⟩ := hw
  refine j_getz (C := RX9) (T := TX9) (N := 1) (ci := 11) (r := (some b)) (v := va_rf v5) hx hb hfX9 hown hK hI rfl 0 (by decide) (hts (.fieldLink RX9 10 "CashPools" "desk" "LCashPools$Desk;") (List.mem_of_getElem? (i := 3) (by decide +kernel))) (fun _ h => h) hv5 dX9_schedule_13 ?_
  obtain ⟨v6, hv6, hw⟩ := hw
  refine j_getz (C := RX3) (T := TX3) (N := 8) (ci := 6) (r := v5) (v := .int v6) hx hb hfX3 hown hK hI rfl 6 (by decide) (hts (.fieldLink RX9 91 "CashPools$Desk" "day" "I") (List.mem_of_getElem? (i := 4) (by decide +kernel))) (fun _ h => h) hv6 dX9_schedule_16 ?_
  refine lv_sipush (v := (450)) hx hb dX9_schedule_19 (by decide) ?_
  refine j_goXz hI (vx_runS (As := [.int x3, .int v6, .int (450 : Int32)]) (rest := []) ⟨hx, hb, hml, hown, hts⟩ (kX9_requireWithin l hfl D z x3 v6 (450 : Int32) μ4 H.size _ _) (va_cwS 3 hts gX9_schedule_X9_requireWithin rfl rfl rfl (by decide +kernel) ⟨Nat.le_of_ble_eq_true rfl, Nat.le_of_ble_eq_true rfl⟩) (j_prS2z hK hG hI hw) rfl rfl hl.1 rfl (lv_room (Nat.le_of_ble_eq_true rfl)) dX9_schedule_22 ⟨by show _ ≤ 8; omega, by show _ ≤ 75; omega⟩) (fun E ce q9 μX H locs hw hI hce hcv hcl => ?_) (fun u7 μ8 H locs hw hI => ?_)
  · exact j_outz hno hlocks hI hce hcv hcl hw (by omega) (by omega)
  refine W.eq (g2 := F0 m 25 ls []) rfl ?_
  refine lv_iload hx hb dX9_schedule_25 (lv_at hl 5 rfl) ?_
  refine lv_iconst (v := (1)) hx hb dX9_schedule_27 (by decide) ?_
  refine lv_bipush (v := (100)) hx hb dX9_schedule_28 (by decide) ?_
  refine j_goXz hI (vx_runS (As := [.int x4, .int (1 : Int32), .int (100 : Int32)]) (rest := []) ⟨hx, hb, hml, hown, hts⟩ (kX9_requireWithin l hfl D z x4 (1 : Int32) (100 : Int32) μ8 H.size _ _) (va_cwS 3 hts gX9_schedule_X9_requireWithin rfl rfl rfl (by decide +kernel) ⟨Nat.le_of_ble_eq_true rfl, Nat.le_of_ble_eq_true rfl⟩) (j_prS2z hK hG hI hw) rfl rfl hl.1 rfl (lv_room (Nat.le_of_ble_eq_true rfl)) dX9_schedule_30 ⟨by show _ ≤ 8; omega, by show _ ≤ 75; omega⟩) (fun E ce q9 μX H locs hw hI hce hcv hcl => ?_) (fun u9 μ10 H locs hw hI => ?_)
  · exact j_outz hno hlocks hI hce hcv hcl hw (by omega) (by omega)
  refine W.eq (g2 := F0 m 33 ls []) rfl ?_
  refine lv_iload hx hb dX9_schedule_33 (lv_at hl 6 rfl) ?_
  refine lv_iconst (v := (1)) hx hb dX9_schedule_35 (by decide) ?_
  refine lv_bipush (v := (30)) hx hb dX9_schedule_36 (by decide) ?_
  refine j_goXz hI (vx_runS (As := [.int x5, .int (1 : Int32), .int (30 : Int32)]) (rest := []) ⟨hx, hb, hml, hown, hts⟩ (kX9_requireWithin l hfl D z x5 (1 : Int32) (30 : Int32) μ10 H.size _ _) (va_cwS 3 hts gX9_schedule_X9_requireWithin rfl rfl rfl (by decide +kernel) ⟨Nat.le_of_ble_eq_true rfl, Nat.le_of_ble_eq_true rfl⟩) (j_prS2z hK hG hI hw) rfl rfl hl.1 rfl (lv_room (Nat.le_of_ble_eq_true rfl)) dX9_schedule_38 ⟨by show _ ≤ 8; omega, by show _ ≤ 75; omega⟩) (fun E ce q9 μX H locs hw hI hce hcv hcl => ?_) (fun u11 μ12 H locs hw hI => ?_)
  · exact j_outz hno hlocks hI hce hcv hcl hw (by omega) (by omega)
  refine W.eq (g2 := F0 m 41 ls []) rfl ?_
  refine j_aload_n (r := (some b)) hx hb dX9_schedule_41 rfl (lv_at hl 1 rfl) ?_
  obtain ⟨v13, hv13, hw⟩ := hw
  refine j_getz (C := RX9) (T := TX9) (N := 1) (ci := 11) (r := (some b)) (v := va_rf v13) hx hb hfX9 hown hK hI rfl 0 (by decide) (hts (.fieldLink RX9 10 "CashPools" "desk" "LCashPools$Desk;") (List.mem_of_getElem? (i := 3) (by decide +kernel))) (fun _ h => h) hv13 dX9_schedule_42 ?_
  obtain ⟨v14, hv14, hw⟩ := hw
  refine j_getz (C := RX3) (T := TX3) (N := 8) (ci := 6) (r := v13) (v := va_rf v14) hx hb hfX3 hown hK hI rfl 3 (by decide) (hts (.fieldLink RX9 123 "CashPools$Desk" "everyFlow" "Ljava/util/ArrayList;") (List.mem_of_getElem? (i := 5) (by decide +kernel))) (fun _ h => h) hv14 dX9_schedule_45 ?_
  obtain ⟨b17, ⟨hrb17, hfs⟩, hw⟩ := hw
  refine j_goz hI (va_runV (As := []) (rest := []) ⟨hx, hb, hml, hown, hts⟩ (kJx4a65c_size_8abf5 l hfl D z b17  μ12 H.size _) (cwV 0 hts gX9_schedule_Jx4a65c_size_8abf5 rfl rfl rfl (by decide +kernel) ⟨Nat.le_of_ble_eq_true rfl, Nat.le_of_ble_eq_true rfl⟩) (j_prV2z hK hG hI hw (ci := 2) rfl hfs) rfl rfl hl.1 (by rw [hrb17]; rfl) (lv_room (Nat.le_of_ble_eq_true rfl)) dX9_schedule_48 ⟨by show _ ≤ 8; omega, by show _ ≤ 75; omega⟩) (fun v15 μ16 H locs hw hI => ?_)
  refine W.eq (g2 := F0 m 51 ls [.int v15]) rfl ?_
  refine lv_bipush (v := (20)) hx hb dX9_schedule_51 (by decide) ?_
  refine lv_icmp_lt (tgt := 66) hx hb dX9_schedule_53 (by decide) (fun hc => ?_) (fun hc => ?_)
  · have hw := hw.1 hc
    refine j_aload_n (r := (some b)) hx hb dX9_schedule_66 rfl (lv_at hl 1 rfl) ?_
    obtain ⟨v18, hv18, hw⟩ := hw
    refine j_getz (C := RX9) (T := TX9) (N := 1) (ci := 11) (r := (some b)) (v := va_rf v18) hx hb hfX9 hown hK hI rfl 0 (by decide) (hts (.fieldLink RX9 10 "CashPools" "desk" "LCashPools$Desk;") (List.mem_of_getElem? (i := 3) (by decide +kernel))) (fun _ h => h) hv18 dX9_schedule_67 ?_
    obtain ⟨v19, hv19, hw⟩ := hw
    refine j_getz (C := RX3) (T := TX3) (N := 8) (ci := 6) (r := v18) (v := va_rf v19) hx hb hfX3 hown hK hI rfl 3 (by decide) (hts (.fieldLink RX9 123 "CashPools$Desk" "everyFlow" "Ljava/util/ArrayList;") (List.mem_of_getElem? (i := 5) (by decide +kernel))) (fun _ h => h) hv19 dX9_schedule_70 ?_
    refine j_newz (C := RX4) (T := TX4) (N := 7) (ci := 7) (fs := jfX4) hx hb hfX4 tyX4 tyX4_ok hown (hts (.classLink RX9 128 RX4) (List.mem_of_getElem? (i := 6) (by decide +kernel))) (hts (.instantiable RX4 7) (List.mem_of_getElem? (i := 7) (by decide +kernel))) (hts (.initialized RX4) (List.mem_of_getElem? (i := 8) (by decide +kernel))) hK hI rfl jdX4 (by show _ ≤ 8; omega) (by show _ ≤ 75; omega) dX9_schedule_73 (fun q20 H hq20 hI => ?_)
    have hw := hw q20 hq20
    refine lv_dup hx hb dX9_schedule_76 rfl ?_
    refine j_aload (r := v1) hx hb dX9_schedule_77 (lv_at hl 0 rfl) ?_
    refine lv_iload_n hx hb dX9_schedule_79 rfl (lv_at hl 3 rfl) ?_
    refine lv_iload_n hx hb dX9_schedule_80 rfl (lv_at hl 4 rfl) ?_
    refine lv_iload hx hb dX9_schedule_81 (lv_at hl 5 rfl) ?_
    refine lv_iload hx hb dX9_schedule_83 (lv_at hl 6 rfl) ?_
    refine j_goz hI (va_runI (As := [va_rf v1, .int x2, .int x3, .int x4, .int x5]) (rest := [va_rf (some q20), va_rf v19]) ⟨hx, hb, hml, hown, hts⟩ (kX4_init l hfl D z q20 v1 x2 x3 x4 x5 (va_up μ16 q20 (some (.inr (7, jfX4)))) H.size _) (cwI 5 hts gX9_schedule_X4_init rfl rfl rfl (hts (.initialized RX4) (List.mem_of_getElem? (i := 8) (by decide +kernel))) (hts (.methodLink RX9 130 yX4_init) (List.mem_of_getElem? (i := 51) (by decide +kernel))) (hts (.instanceMethod yX4_init) (List.mem_of_getElem? (i := 52) (by decide +kernel))) rfl (by decide +kernel) ⟨Nat.le_of_ble_eq_true rfl, Nat.le_of_ble_eq_true rfl⟩) (j_prS2z hK hG hI hw) rfl rfl hl.1 rfl (lv_room (by simp only [List.map, List.sum_cons, List.sum_nil, jrc, jci, jcl, jcr, jcn]; exact Nat.le_of_ble_eq_true rfl)) dX9_schedule_85 ⟨by show _ ≤ 8; omega, by show _ ≤ 75; omega⟩) (fun u21 μ22 H locs hw hI => ?_)
    refine W.eq (g2 := F0 m 88 ls [va_rf (some q20), va_rf v19]) rfl ?_
    obtain ⟨b25, ⟨hrb25, hfs⟩, hw⟩ := hw
    refine j_goz hI (va_runV (As := [va_rf (some q20)]) (rest := []) ⟨hx, hb, hml, hown, hts⟩ (kJx4a65c_add_9ea2d l hfl D z b25 (some q20) μ22 H.size _) (cwV 1 hts gX9_schedule_Jx4a65c_add_9ea2d rfl rfl rfl (by decide +kernel) ⟨Nat.le_of_ble_eq_true rfl, Nat.le_of_ble_eq_true rfl⟩) (j_prV2z hK hG hI hw (ci := 2) rfl hfs) rfl rfl hl.1 (by rw [hrb25]; rfl) (lv_room (Nat.le_of_ble_eq_true rfl)) dX9_schedule_88 ⟨by show _ ≤ 8; omega, by show _ ≤ 75; omega⟩) (fun v23 μ24 H locs hw hI => ?_)
    refine W.eq (g2 := F0 m 91 ls [.int v23]) rfl ?_
    refine lv_pop hx hb dX9_schedule_91 rfl ?_
    refine j_aload_n (r := (some b)) hx hb dX9_schedule_92 rfl (lv_at hl 1 rfl) ?_
    obtain ⟨v26, hv26, hw⟩ := hw
    refine j_getz (C := RX9) (T := TX9) (N := 1) (ci := 11) (r := (some b)) (v := va_rf v26) hx hb hfX9 hown hK hI rfl 0 (by decide) (hts (.fieldLink RX9 10 "CashPools" "desk" "LCashPools$Desk;") (List.mem_of_getElem? (i := 3) (by decide +kernel))) (fun _ h => h) hv26 dX9_schedule_93 ?_
    obtain ⟨v27, hv27, hw⟩ := hw
    refine j_getz (C := RX3) (T := TX3) (N := 8) (ci := 6) (r := v26) (v := va_rf v27) hx hb hfX3 hown hK hI rfl 3 (by decide) (hts (.fieldLink RX9 123 "CashPools$Desk" "everyFlow" "Ljava/util/ArrayList;") (List.mem_of_getElem? (i := 5) (by decide +kernel))) (fun _ h => h) hv27 dX9_schedule_96 ?_
    obtain ⟨b30, ⟨hrb30, hfs⟩, hw⟩ := hw
    refine j_goz hI (va_runV (As := []) (rest := []) ⟨hx, hb, hml, hown, hts⟩ (kJx4a65c_size_8abf5 l hfl D z b30  μ24 H.size _) (cwV 0 hts gX9_schedule_Jx4a65c_size_8abf5 rfl rfl rfl (by decide +kernel) ⟨Nat.le_of_ble_eq_true rfl, Nat.le_of_ble_eq_true rfl⟩) (j_prV2z hK hG hI hw (ci := 2) rfl hfs) rfl rfl hl.1 (by rw [hrb30]; rfl) (lv_room (Nat.le_of_ble_eq_true rfl)) dX9_schedule_99 ⟨by show _ ≤ 8; omega, by show _ ≤ 75; omega⟩) (fun v28 μ29 H locs hw hI => ?_)
    refine W.eq (g2 := F0 m 102 ls [.int v28]) rfl ?_
    refine lv_iconst (v := (1)) hx hb dX9_schedule_102 (by decide) ?_
    refine lv_isub hx hb dX9_schedule_103 ?_
    exact vx_ret (j_iretz hx hb hr hlocks hI hw (by omega) (by omega) dX9_schedule_104)
  · have hw := hw.2 hc
    exact j_throw2z (names := ["java/lang/RuntimeException", "java/lang/Exception"]) (cls := "java/lang/IllegalStateException") (text := "there is no flow left") (ik := 47) (is := 126) (ic := 51) hx hb hno hfl hml hl.1 hown (by decide +kernel) (by decide +kernel) (hts (.classLink RX9 47 "java/lang/IllegalStateException") (List.mem_of_getElem? (i := 1) (by decide +kernel))) (hts (.initialized "java/lang/IllegalStateException") (List.mem_of_getElem? (i := 2) (by decide +kernel))) hG (by decide +kernel) (fun w h => hts w (List.mem_cons_of_mem _ (List.mem_append_left _ (List.mem_append_left _ (List.mem_append_right _ h))))) (by decide +kernel) (by decide +kernel) (by decide +kernel) dX9_schedule_56 dX9_schedule_59 dX9_schedule_60 dX9_schedule_62 dX9_schedule_65 (Nat.le_of_ble_eq_true rfl) (Nat.le_of_ble_eq_true rfl) (by show _ ≤ 8; omega) (by show _ ≤ 75; omega) hlocks hI hw (by omega) (by omega)
set_option maxHeartbeats 4000000 in
set_option maxRecDepth 100000 in
theorem kX9_schedule (l : Launch) (hfl : l.stackTraces = false) (D : jD) (z : Nat × Nat) (b : Nat) (x1 : Int32) (x2 : Int32) (x3 : Int32) (x4 : Int32) (x5 : Int32) (μ : jM) (sz : Nat) (Q : Int32 → jM → Prop) (X : String → jM → Prop) : vx_Met l yX9_schedule wsX9_schedule rmX9_schedule (jPre2z D z μ sz [.ref b, .int x1, .int x2, .int x3, .int x4, .int x5] (wX9_schedule z b x1 x2 x3 x4 x5 μ Q X)) (jRz jfI Q D z (jA z μ sz)) (jXCz X D z (jA z μ sz)) 8 75 (jA z μ sz) := by
  refine vx_ofW (cc := cX9_schedule) (maxL := 7) (ret := (some .int)) (by decide) rfl ?_
  intro p e s m args below meth c s₁ B hml hno hv
  obtain ⟨rfl, hsz, hH, hz0, hK, hG, hw⟩ := hv
  subst hsz
  have hX : jX2 D z (jA z μ s.heap.size) p l s m _ meth c yX9_schedule cX9_schedule 7 wsX9_schedule (some .int) := ⟨B.exec, B.bytes, hml, findClass_of_methodNamed B.named, atoms_spec (ws := wsX9_schedule) B.pre, B.returns, B.notSynchronized, (name_of_methodNamed B.named B.method).1, hK, hG, hfl⟩
  obtain ⟨ls, hg, hl⟩ : ∃ ls : Array Slot, entryFrame m ([.ref b, .int x1, .int x2, .int x3, .int x4, .int x5] : List Value).toArray 7 = F0 m 0 ls [] ∧ lv_has ls 7 [(0, va_rf (some b)), (1, .int x1), (2, .int x2), (3, .int x3), (4, .int x4), (5, .int x5)] := by
    exact ⟨_, lg_entry_eq .., lv_entry _ (n := 7) (Nat.le_of_ble_eq_true rfl)⟩
  rw [hg]
  exact kX9_schedule_0 hX hno hw (jIz.start hH hz0) (lv_sub hl [0, 1, 2, 3, 4, 5] rfl) (by decide) (by decide)
set_option maxHeartbeats 4000000 in
set_option maxRecDepth 100000 in
theorem kL_schedule_0 (hX : jX2 D z A p l s m args meth c yL_schedule cL_schedule 8 wsL_schedule (some .int)) (htab : c.exceptionTable.toList = ([⟨0, 16, 19, 21⟩, ⟨0, 16, 23, 13⟩, ⟨0, 16, 27, 15⟩] : List ExceptionTableEntry)) {Q : Int32 → jM → Prop}  {x0 : Option Nat} {x1 : Int32} {x2 : Int32} {x3 : Int32} {x4 : Int32} {x5 : Int32} {x6 : Option Nat} {μ : jM} {H : Heap} {locs : List Loc} {ls : Array Slot} {cells slots : Nat} (hw : wL_schedule_0 z Q x0 x1 x2 x3 x4 x5 x6 μ) (hI : jIz D z A s.heap μ H locs) (hl : lv_has ls 8 [(0, va_rf x0), (1, .int x1), (2, .int x2), (3, .int x3), (4, .int x4), (5, .int x5), (6, va_rf x6)]) (hcn : cells + 8 ≤ 8) (hsn : slots + 75 ≤ 75) : W p l e rmL_schedule s m args below meth c H locs cells slots (vx_MQ below (jRz jfI Q D z A) (jXCz (fun _ _ => False) D z A) args s 8 75 A) (F0 m 0 ls []) := by
  unfold wL_schedule_0 at hw
  obtain ⟨hx, hb, hml, hown, hts, hr, hlocks, hnm, hK, hG, hfl⟩ := id hX
  have hown : s.vm.findClass RL = some m.cls := hown
  refine j_aload (r := x6) hx hb dL_schedule_0 (lv_at hl 6 rfl) ?_
  refine lv_iconst (v := (0)) hx hb dL_schedule_2 (by decide) ?_
  refine j_aload_n (r := x0) hx hb dL_schedule_3 rfl (lv_at hl 0 rfl) ?_
  refine lv_iload_n hx hb dL_schedule_4 rfl (lv_at hl 1 rfl) ?_
  refine lv_iload_n hx hb dL_schedule_5 rfl (lv_at hl 2 rfl) ?_
  refine lv_iload_n hx hb dL_schedule_6 rfl (lv_at hl 3 rfl) ?_
  refine lv_iload hx hb dL_schedule_7 (lv_at hl 4 rfl) ?_
  refine lv_iload hx hb dL_schedule_9 (lv_at hl 5 rfl) ?_
  obtain ⟨b3, ⟨hrb3, hfs⟩, hw⟩ := hw
  refine j_goXz hI (vx_runV (As := [.int x1, .int x2, .int x3, .int x4, .int x5]) (rest := [.int (0 : Int32), va_rf x6]) ⟨hx, hb, hml, hown, hts⟩ (kX9_schedule l hfl D z b3 x1 x2 x3 x4 x5 μ H.size _ _) (cwV 5 hts gL_schedule_X9_schedule rfl rfl rfl (by decide +kernel) ⟨Nat.le_of_ble_eq_true rfl, Nat.le_of_ble_eq_true rfl⟩) (j_prV2z hK hG hI hw (ci := 11) rfl hfs) rfl rfl hl.1 (by rw [hrb3]; rfl) (lv_room (by simp only [List.map, List.sum_cons, List.sum_nil, jrc, jci, jcl, jcr, jcn]; exact Nat.le_of_ble_eq_true rfl)) dL_schedule_11 ⟨by show _ ≤ 8; omega, by show _ ≤ 75; omega⟩) (fun E ce q9 μX H locs hw hI hce hcv hcl => ?_) (fun v1 μ2 H locs hw hI => ?_)
  · rcases hw.2.2.2 with rfl | rfl | rfl
    · have hw := hw.1 rfl
      refine vx_catch hown [] ⟨0, 16, 19, 21⟩ [⟨0, 16, 23, 13⟩, ⟨0, 16, 27, 15⟩] (name := "java/lang/IndexOutOfBoundsException") htab (fun z hz => absurd hz List.not_mem_nil) (by decide) (by decide) (hts (.classLink RL 21 "java/lang/IndexOutOfBoundsException") (List.mem_of_getElem? (i := 1) (by decide +kernel))) (va_Nw.use rfl (hG.2.2.2.2.2.2.2.2.1 _ (by decide +kernel))) hce hcv hcl ?_
      refine W.eq (g2 := F0 m 19 ls [va_rf (some q9)]) rfl ?_
      refine j_astoreA (r := x6) (r0 := (some q9)) (F := fun w => [(0, va_rf x0), (1, .int x1), (2, .int x2), (3, .int x3), (4, .int x4), (5, .int x5), (6, w)]) (F2 := fun w => [(7, va_rf (some q9)), (0, va_rf x0), (1, .int x1), (2, .int x2), (3, .int x3), (4, .int x4), (5, .int x5), (6, w)]) hx hb dL_schedule_19 hl (by decide) (fun w hw => by rcases hw with rfl | ⟨_, rfl⟩ <;> rfl) (fun ls hl => ?_)
      refine lv_iconst (v := (1)) hx hb dL_schedule_21 (by decide) ?_
      exact vx_ret (j_iretz hx hb hr hlocks hI hw (by omega) (by omega) dL_schedule_22)
    · have hw := hw.2.1 rfl
      refine vx_catch hown [⟨0, 16, 19, 21⟩] ⟨0, 16, 23, 13⟩ [⟨0, 16, 27, 15⟩] (name := "java/lang/IllegalArgumentException") htab (List.forall_mem_cons.mpr ⟨Or.inr ⟨by decide, "java/lang/IndexOutOfBoundsException", (hts (.classLink RL 21 "java/lang/IndexOutOfBoundsException") (List.mem_of_getElem? (i := 1) (by decide +kernel))), hG.2.2.2.2.2.2.2.2.2.1 _ (by decide +kernel) _ (by decide +kernel) (by decide +kernel)⟩, (fun z hz => absurd hz List.not_mem_nil)⟩) (by decide) (by decide) (hts (.classLink RL 13 "java/lang/IllegalArgumentException") (List.mem_of_getElem? (i := 2) (by decide +kernel))) (va_Nw.use rfl (hG.2.2.2.2.2.2.2.2.1 _ (by decide +kernel))) hce hcv hcl ?_
      refine W.eq (g2 := F0 m 23 ls [va_rf (some q9)]) rfl ?_
      refine j_astoreA (r := x6) (r0 := (some q9)) (F := fun w => [(0, va_rf x0), (1, .int x1), (2, .int x2), (3, .int x3), (4, .int x4), (5, .int x5), (6, w)]) (F2 := fun w => [(7, va_rf (some q9)), (0, va_rf x0), (1, .int x1), (2, .int x2), (3, .int x3), (4, .int x4), (5, .int x5), (6, w)]) hx hb dL_schedule_23 hl (by decide) (fun w hw => by rcases hw with rfl | ⟨_, rfl⟩ <;> rfl) (fun ls hl => ?_)
      refine lv_iconst (v := (2)) hx hb dL_schedule_25 (by decide) ?_
      exact vx_ret (j_iretz hx hb hr hlocks hI hw (by omega) (by omega) dL_schedule_26)
    · have hw := hw.2.2.1 rfl
      refine vx_catch hown [⟨0, 16, 19, 21⟩, ⟨0, 16, 23, 13⟩] ⟨0, 16, 27, 15⟩ [] (name := "java/lang/IllegalStateException") htab (List.forall_mem_cons.mpr ⟨Or.inr ⟨by decide, "java/lang/IndexOutOfBoundsException", (hts (.classLink RL 21 "java/lang/IndexOutOfBoundsException") (List.mem_of_getElem? (i := 1) (by decide +kernel))), hG.2.2.2.2.2.2.2.2.2.1 _ (by decide +kernel) _ (by decide +kernel) (by decide +kernel)⟩, (List.forall_mem_cons.mpr ⟨Or.inr ⟨by decide, "java/lang/IllegalArgumentException", (hts (.classLink RL 13 "java/lang/IllegalArgumentException") (List.mem_of_getElem? (i := 2) (by decide +kernel))), hG.2.2.2.2.2.2.2.2.2.1 _ (by decide +kernel) _ (by decide +kernel) (by decide +kernel)⟩, (fun z hz => absurd hz List.not_mem_nil)⟩)⟩) (by decide) (by decide) (hts (.classLink RL 15 "java/lang/IllegalStateException") (List.mem_of_getElem? (i := 3) (by decide +kernel))) (va_Nw.use rfl (hG.2.2.2.2.2.2.2.2.1 _ (by decide +kernel))) hce hcv hcl ?_
      refine W.eq (g2 := F0 m 27 ls [va_rf (some q9)]) rfl ?_
      refine j_astoreA (r := x6) (r0 := (some q9)) (F := fun w => [(0, va_rf x0), (1, .int x1), (2, .int x2), (3, .int x3), (4, .int x4), (5, .int x5), (6, w)]) (F2 := fun w => [(7, va_rf (some q9)), (0, va_rf x0), (1, .int x1), (2, .int x2), (3, .int x3), (4, .int x4), (5, .int x5), (6, w)]) hx hb dL_schedule_27 hl (by decide) (fun w hw => by rcases hw with rfl | ⟨_, rfl⟩ <;> rfl) (fun ls hl => ?_)
      refine lv_iconst (v := (3)) hx hb dL_schedule_29 (by decide) ?_
      exact vx_ret (j_iretz hx hb hr hlocks hI hw (by omega) (by omega) dL_schedule_30)
  refine W.eq (g2 := F0 m 14 ls [.int v1, .int (0 : Int32), va_rf x6]) rfl ?_
  refine lv_i2l hx hb dL_schedule_14 rfl ?_
  obtain ⟨μ4, hμ4, hw⟩ := hw
  refine j_lastz (r := x6) hx hb hK hI hμ4 dL_schedule_15 (fun H locs hI => ?_)
  refine lv_goto (tgt := 31) hx hb dL_schedule_16 (by decide) ?_
  refine lv_iconst (v := (0)) hx hb dL_schedule_31 (by decide) ?_
  exact vx_ret (j_iretz hx hb hr hlocks hI hw (by omega) (by omega) dL_schedule_32)
set_option maxHeartbeats 4000000 in
set_option maxRecDepth 100000 in
theorem kL_schedule (l : Launch) (hfl : l.stackTraces = false) (D : jD) (z : Nat × Nat) (x0 : Option Nat) (x1 : Int32) (x2 : Int32) (x3 : Int32) (x4 : Int32) (x5 : Int32) (x6 : Option Nat) (μ : jM) (sz : Nat) (Q : Int32 → jM → Prop) : vx_Met l yL_schedule wsL_schedule rmL_schedule (jPre2z D z μ sz [va_rf x0, .int x1, .int x2, .int x3, .int x4, .int x5, va_rf x6] (wL_schedule z x0 x1 x2 x3 x4 x5 x6 μ Q)) (jRz jfI Q D z (jA z μ sz)) (jXCz (fun _ _ => False) D z (jA z μ sz)) 8 75 (jA z μ sz) := by
  refine vx_ofWH (cc := cL_schedule) (maxL := 8) (ret := (some .int)) (by decide) rfl ?_
  intro p e s m args below meth c s₁ B hml hv
  obtain ⟨rfl, hsz, hH, hz0, hK, hG, hw⟩ := hv
  subst hsz
  have hX : jX2 D z (jA z μ s.heap.size) p l s m _ meth c yL_schedule cL_schedule 8 wsL_schedule (some .int) := ⟨B.exec, B.bytes, hml, findClass_of_methodNamed B.named, atoms_spec (ws := wsL_schedule) B.pre, B.returns, B.notSynchronized, (name_of_methodNamed B.named B.method).1, hK, hG, hfl⟩
  obtain ⟨ls, hg, hl⟩ : ∃ ls : Array Slot, entryFrame m ([va_rf x0, .int x1, .int x2, .int x3, .int x4, .int x5, va_rf x6] : List Value).toArray 8 = F0 m 0 ls [] ∧ lv_has ls 8 [(0, va_rf x0), (1, .int x1), (2, .int x2), (3, .int x3), (4, .int x4), (5, .int x5), (6, va_rf x6)] := by
    cases x0 <;> cases x6 <;> exact ⟨_, lg_entry_eq .., lv_entry _ (n := 8) (Nat.le_of_ble_eq_true rfl)⟩
  rw [hg]
  exact kL_schedule_0 hX ((vx_table (x := yL_schedule) B (atoms_spec (ws := wsL_schedule) B.pre _ (List.mem_of_getElem? (i := 0) rfl))).trans rfl) hw (jIz.start hH hz0) (lv_sub hl [0, 1, 2, 3, 4, 5, 6] rfl) (by decide) (by decide)
set_option maxHeartbeats 4000000 in
set_option maxRecDepth 100000 in
theorem kX9_flowAt_0 {b : Nat} (hX : jX2 D z A p l s m args meth c yX9_flowAt cX9_flowAt 2 wsX9_flowAt (some (.object "CashPools$Flow"))) (hno : ∀ x ∈ c.exceptionTable.toList, False) {Q : Option Nat → jM → Prop} {X : String → jM → Prop}  {x1 : Int32} {μ : jM} {H : Heap} {locs : List Loc} {ls : Array Slot} {cells slots : Nat} (hw : wX9_flowAt_0 z b Q X x1 μ) (hI : jIz D z A s.heap μ H locs) (hl : lv_has ls 2 [(0, va_rf (some b)), (1, .int x1)]) (hcn : cells + 1 ≤ 1) (hsn : slots + 6 ≤ 6) : W p l e rmX9_flowAt s m args below meth c H locs cells slots (vx_MQ below (jRz jfR Q D z A) (jXCz X D z A) args s 1 6 A) (F0 m 0 ls []) := by
  unfold wX9_flowAt_0 at hw
  obtain ⟨hx, hb, hml, hown, hts, hr, hlocks, hnm, hK, hG, hfl⟩ := id hX
  have hown : s.vm.findClass RX9 = some m.cls := hown
  have hfX3 : ∀ w ∈ wsX30, w.before args s = true := fun w h => hts w (List.mem_cons_of_mem _ (List.mem_append_left _ (List.mem_append_left _ (List.mem_append_right _ h))))
  have hfX9 : ∀ w ∈ wsX90, w.before args s = true := fun w h => hts w (List.mem_cons_of_mem _ (List.mem_append_left _ (List.mem_append_left _ (List.mem_append_left _ (List.mem_append_right _ h)))))
  refine lv_iload_n hx hb dX9_flowAt_0 rfl (lv_at hl 1 rfl) ?_
  refine lv_if_lt (tgt := 18) hx hb dX9_flowAt_1 (by decide) (fun hc => ?_) (fun hc => ?_)
  · have hw := hw.1 hc
    exact j_throw2z (names := ["java/lang/RuntimeException", "java/lang/Exception"]) (cls := "java/lang/IndexOutOfBoundsException") (text := "there is no such flow") (ik := 223) (is := 234) (ic := 227) hx hb hno hfl hml hl.1 hown (by decide +kernel) (by decide +kernel) (hts (.classLink RX9 223 "java/lang/IndexOutOfBoundsException") (List.mem_of_getElem? (i := 1) (by decide +kernel))) (hts (.initialized "java/lang/IndexOutOfBoundsException") (List.mem_of_getElem? (i := 2) (by decide +kernel))) hG (by decide +kernel) (fun w h => hts w (List.mem_cons_of_mem _ (List.mem_append_right _ h))) (by decide +kernel) (by decide +kernel) (by decide +kernel) dX9_flowAt_18 dX9_flowAt_21 dX9_flowAt_22 dX9_flowAt_24 dX9_flowAt_27 (Nat.le_of_ble_eq_true rfl) (Nat.le_of_ble_eq_true rfl) (by show _ ≤ 1; omega) (by show _ ≤ 6; omega) hlocks hI hw (by omega) (by omega)
  · have hw := hw.2 hc
    refine lv_iload_n hx hb dX9_flowAt_4 rfl (lv_at hl 1 rfl) ?_
    refine j_aload_n (r := (some b)) hx hb dX9_flowAt_5 rfl (lv_at hl 0 rfl) ?_
    obtain ⟨v1, hv1, hw⟩ := hw
    refine j_getz (C := RX9) (T := TX9) (N := 1) (ci := 11) (r := (some b)) (v := va_rf v1) hx hb hfX9 hown hK hI rfl 0 (by decide) (hts (.fieldLink RX9 10 "CashPools" "desk" "LCashPools$Desk;") (List.mem_of_getElem? (i := 3) (by decide +kernel))) (fun _ h => h) hv1 dX9_flowAt_6 ?_
    obtain ⟨v2, hv2, hw⟩ := hw
    refine j_getz (C := RX3) (T := TX3) (N := 8) (ci := 6) (r := v1) (v := va_rf v2) hx hb hfX3 hown hK hI rfl 3 (by decide) (hts (.fieldLink RX9 123 "CashPools$Desk" "everyFlow" "Ljava/util/ArrayList;") (List.mem_of_getElem? (i := 4) (by decide +kernel))) (fun _ h => h) hv2 dX9_flowAt_9 ?_
    obtain ⟨b5, ⟨hrb5, hfs⟩, hw⟩ := hw
    refine j_goz hI (va_runV (As := []) (rest := [.int x1]) ⟨hx, hb, hml, hown, hts⟩ (kJx4a65c_size_8abf5 l hfl D z b5  μ H.size _) (cwV 0 hts gX9_flowAt_Jx4a65c_size_8abf5 rfl rfl rfl (by decide +kernel) ⟨Nat.le_of_ble_eq_true rfl, Nat.le_of_ble_eq_true rfl⟩) (j_prV2z hK hG hI hw (ci := 2) rfl hfs) rfl rfl hl.1 (by rw [hrb5]; rfl) (lv_room (Nat.le_of_ble_eq_true rfl)) dX9_flowAt_12 ⟨by show _ ≤ 1; omega, by show _ ≤ 6; omega⟩) (fun v3 μ4 H locs hw hI => ?_)
    refine W.eq (g2 := F0 m 15 ls [.int v3, .int x1]) rfl ?_
    refine lv_icmp_lt (tgt := 28) hx hb dX9_flowAt_15 (by decide) (fun hc => ?_) (fun hc => ?_)
    · have hw := hw.1 hc
      refine j_aload_n (r := (some b)) hx hb dX9_flowAt_28 rfl (lv_at hl 0 rfl) ?_
      obtain ⟨v6, hv6, hw⟩ := hw
      refine j_getz (C := RX9) (T := TX9) (N := 1) (ci := 11) (r := (some b)) (v := va_rf v6) hx hb hfX9 hown hK hI rfl 0 (by decide) (hts (.fieldLink RX9 10 "CashPools" "desk" "LCashPools$Desk;") (List.mem_of_getElem? (i := 3) (by decide +kernel))) (fun _ h => h) hv6 dX9_flowAt_29 ?_
      obtain ⟨v7, hv7, hw⟩ := hw
      refine j_getz (C := RX3) (T := TX3) (N := 8) (ci := 6) (r := v6) (v := va_rf v7) hx hb hfX3 hown hK hI rfl 3 (by decide) (hts (.fieldLink RX9 123 "CashPools$Desk" "everyFlow" "Ljava/util/ArrayList;") (List.mem_of_getElem? (i := 4) (by decide +kernel))) (fun _ h => h) hv7 dX9_flowAt_32 ?_
      refine lv_iload_n hx hb dX9_flowAt_35 rfl (lv_at hl 1 rfl) ?_
      obtain ⟨b10, ⟨hrb10, hfs⟩, hw⟩ := hw
      refine j_goz hI (va_runV (As := [.int x1]) (rest := []) ⟨hx, hb, hml, hown, hts⟩ (kJx4a65c_get_915e3 l hfl D z b10 x1 μ4 H.size _) (cwV 1 hts gX9_flowAt_Jx4a65c_get_915e3 rfl rfl rfl (by decide +kernel) ⟨Nat.le_of_ble_eq_true rfl, Nat.le_of_ble_eq_true rfl⟩) (j_prV2z hK hG hI hw (ci := 2) rfl hfs) rfl rfl hl.1 (by rw [hrb10]; rfl) (lv_room (Nat.le_of_ble_eq_true rfl)) dX9_flowAt_36 ⟨by show _ ≤ 1; omega, by show _ ≤ 6; omega⟩) (fun v8 μ9 H locs hw hI => ?_)
      refine W.eq (g2 := F0 m 39 ls [va_rf v8]) rfl ?_
      obtain ⟨h11, hw⟩ := hw
      refine j_castz (C := RX4) (T := TX4) (N := 7) (ci := 7) (r := v8) hx hb hown (hts (.classLink RX9 128 "CashPools$Flow") (List.mem_of_getElem? (i := 5) (by decide +kernel))) hK hI rfl h11 dX9_flowAt_39 ?_
      exact vx_ret (j_aretz (v := v8) hx hb hr (Or.inl ⟨_, rfl⟩) hlocks hI hw (by omega) (by omega) dX9_flowAt_42)
    · have hw := hw.2 hc
      exact j_throw2z (names := ["java/lang/RuntimeException", "java/lang/Exception"]) (cls := "java/lang/IndexOutOfBoundsException") (text := "there is no such flow") (ik := 223) (is := 234) (ic := 227) hx hb hno hfl hml hl.1 hown (by decide +kernel) (by decide +kernel) (hts (.classLink RX9 223 "java/lang/IndexOutOfBoundsException") (List.mem_of_getElem? (i := 1) (by decide +kernel))) (hts (.initialized "java/lang/IndexOutOfBoundsException") (List.mem_of_getElem? (i := 2) (by decide +kernel))) hG (by decide +kernel) (fun w h => hts w (List.mem_cons_of_mem _ (List.mem_append_right _ h))) (by decide +kernel) (by decide +kernel) (by decide +kernel) dX9_flowAt_18 dX9_flowAt_21 dX9_flowAt_22 dX9_flowAt_24 dX9_flowAt_27 (Nat.le_of_ble_eq_true rfl) (Nat.le_of_ble_eq_true rfl) (by show _ ≤ 1; omega) (by show _ ≤ 6; omega) hlocks hI hw (by omega) (by omega)
set_option maxHeartbeats 4000000 in
set_option maxRecDepth 100000 in
theorem kX9_flowAt (l : Launch) (hfl : l.stackTraces = false) (D : jD) (z : Nat × Nat) (b : Nat) (x1 : Int32) (μ : jM) (sz : Nat) (Q : Option Nat → jM → Prop) (X : String → jM → Prop) : vx_Met l yX9_flowAt wsX9_flowAt rmX9_flowAt (jPre2z D z μ sz [.ref b, .int x1] (wX9_flowAt z b x1 μ Q X)) (jRz jfR Q D z (jA z μ sz)) (jXCz X D z (jA z μ sz)) 1 6 (jA z μ sz) := by
  refine vx_ofW (cc := cX9_flowAt) (maxL := 2) (ret := (some (.object "CashPools$Flow"))) (by decide) rfl ?_
  intro p e s m args below meth c s₁ B hml hno hv
  obtain ⟨rfl, hsz, hH, hz0, hK, hG, hw⟩ := hv
  subst hsz
  have hX : jX2 D z (jA z μ s.heap.size) p l s m _ meth c yX9_flowAt cX9_flowAt 2 wsX9_flowAt (some (.object "CashPools$Flow")) := ⟨B.exec, B.bytes, hml, findClass_of_methodNamed B.named, atoms_spec (ws := wsX9_flowAt) B.pre, B.returns, B.notSynchronized, (name_of_methodNamed B.named B.method).1, hK, hG, hfl⟩
  obtain ⟨ls, hg, hl⟩ : ∃ ls : Array Slot, entryFrame m ([.ref b, .int x1] : List Value).toArray 2 = F0 m 0 ls [] ∧ lv_has ls 2 [(0, va_rf (some b)), (1, .int x1)] := by
    exact ⟨_, lg_entry_eq .., lv_entry _ (n := 2) (Nat.le_of_ble_eq_true rfl)⟩
  rw [hg]
  exact kX9_flowAt_0 hX hno hw (jIz.start hH hz0) (lv_sub hl [0, 1] rfl) (by decide) (by decide)
set_option maxHeartbeats 4000000 in
set_option maxRecDepth 100000 in
theorem kX9_cancel_0 {b : Nat} (hX : jX2 D z A p l s m args meth c yX9_cancel cX9_cancel 4 wsX9_cancel (some .int)) (hno : ∀ x ∈ c.exceptionTable.toList, False) {Q : Int32 → jM → Prop} {X : String → jM → Prop}  {x1 : Int32} {μ : jM} {H : Heap} {locs : List Loc} {ls : Array Slot} {cells slots : Nat} (hw : wX9_cancel_0 z b Q X x1 μ) (hI : jIz D z A s.heap μ H locs) (hl : lv_has ls 4 [(0, va_rf (some b)), (1, .int x1)]) (hcn : cells + 1 ≤ 1) (hsn : slots + 6 ≤ 6) : W p l e rmX9_cancel s m args below meth c H locs cells slots (vx_MQ below (jRz jfI Q D z A) (jXCz X D z A) args s 1 6 A) (F0 m 0 ls []) := by
  unfold wX9_cancel_0 at hw
  obtain ⟨hx, hb, hml, hown, hts, hr, hlocks, hnm, hK, hG, hfl⟩ := id hX
  have hown : s.vm.findClass RX9 = some m.cls := hown
  have hfX4 : ∀ w ∈ wsX40, w.before args s = true := fun w h => hts w (List.mem_cons_of_mem _ (List.mem_append_left _ (List.mem_append_left _ (List.mem_append_left _ (List.mem_append_left _ (List.mem_append_right _ h))))))
  refine j_aload_n (r := (some b)) hx hb dX9_cancel_0 rfl (lv_at hl 0 rfl) ?_
  refine lv_iload_n hx hb dX9_cancel_1 rfl (lv_at hl 1 rfl) ?_
  obtain ⟨hfs, hw⟩ := hw
  refine j_goXz hI (vx_runV (As := [.int x1]) (rest := []) ⟨hx, hb, hml, hown, hts⟩ (kX9_flowAt l hfl D z b x1 μ H.size _ _) (cwV 1 hts gX9_cancel_X9_flowAt rfl rfl rfl (by decide +kernel) ⟨Nat.le_of_ble_eq_true rfl, Nat.le_of_ble_eq_true rfl⟩) (j_prV2z hK hG hI hw (ci := 11) rfl hfs) rfl rfl hl.1 rfl (lv_room (Nat.le_of_ble_eq_true rfl)) dX9_cancel_2 ⟨by show _ ≤ 1; omega, by show _ ≤ 6; omega⟩) (fun E ce q9 μX H locs hw hI hce hcv hcl => ?_) (fun v1 μ2 H locs hw hI => ?_)
  · exact j_outz hno hlocks hI hce hcv hcl hw (by omega) (by omega)
  refine W.eq (g2 := F0 m 5 ls [va_rf v1]) rfl ?_
  refine j_astore_n (r := v1) (lv' := [(2, va_rf v1), (0, va_rf (some b)), (1, .int x1)]) hx hb dX9_cancel_5 rfl hl (by decide) rfl (fun ls hl => ?_)
  refine j_aload_n (r := v1) hx hb dX9_cancel_6 rfl (lv_at hl 0 rfl) ?_
  obtain ⟨v3, hv3, hw⟩ := hw
  refine j_getz (C := RX4) (T := TX4) (N := 7) (ci := 7) (r := v1) (v := .int v3) hx hb hfX4 hown hK hI rfl 4 (by decide) (hts (.fieldLink RX9 141 "CashPools$Flow" "left" "I") (List.mem_of_getElem? (i := 1) (by decide +kernel))) (fun _ h => h) hv3 dX9_cancel_7 ?_
  refine j_istore_nA (r := v1) (F := fun w => [(2, w), (0, va_rf (some b)), (1, .int x1)]) (F2 := fun w => [(3, .int v3), (2, w), (0, va_rf (some b)), (1, .int x1)]) hx hb dX9_cancel_10 rfl hl (by decide) (fun w hw => by rcases hw with rfl | ⟨_, rfl⟩ <;> rfl) (fun ls hl => ?_)
  refine j_aload_n (r := v1) hx hb dX9_cancel_11 rfl (lv_at hl 1 rfl) ?_
  refine lv_iconst (v := (0)) hx hb dX9_cancel_12 (by decide) ?_
  obtain ⟨μ4, hμ4, hw⟩ := hw
  refine j_putz (C := RX4) (T := TX4) (N := 7) (ci := 7) (r := v1) (v := .int (0 : Int32)) hx hb hfX4 tyX4 tyX4_ok nmX4 hown hK hI rfl 4 (by decide) (hts (.fieldLink RX9 141 "CashPools$Flow" "left" "I") (List.mem_of_getElem? (i := 1) (by decide +kernel))) (fun _ h => h) rfl (tyX4_ok 4 (by decide)) rfl rfl hμ4 dX9_cancel_13 (fun H locs hI => ?_)
  refine lv_iload_n hx hb dX9_cancel_16 rfl (lv_at hl 0 rfl) ?_
  exact vx_ret (j_iretz hx hb hr hlocks hI hw (by omega) (by omega) dX9_cancel_17)
set_option maxHeartbeats 4000000 in
set_option maxRecDepth 100000 in
theorem kX9_cancel (l : Launch) (hfl : l.stackTraces = false) (D : jD) (z : Nat × Nat) (b : Nat) (x1 : Int32) (μ : jM) (sz : Nat) (Q : Int32 → jM → Prop) (X : String → jM → Prop) : vx_Met l yX9_cancel wsX9_cancel rmX9_cancel (jPre2z D z μ sz [.ref b, .int x1] (wX9_cancel z b x1 μ Q X)) (jRz jfI Q D z (jA z μ sz)) (jXCz X D z (jA z μ sz)) 1 6 (jA z μ sz) := by
  refine vx_ofW (cc := cX9_cancel) (maxL := 4) (ret := (some .int)) (by decide) rfl ?_
  intro p e s m args below meth c s₁ B hml hno hv
  obtain ⟨rfl, hsz, hH, hz0, hK, hG, hw⟩ := hv
  subst hsz
  have hX : jX2 D z (jA z μ s.heap.size) p l s m _ meth c yX9_cancel cX9_cancel 4 wsX9_cancel (some .int) := ⟨B.exec, B.bytes, hml, findClass_of_methodNamed B.named, atoms_spec (ws := wsX9_cancel) B.pre, B.returns, B.notSynchronized, (name_of_methodNamed B.named B.method).1, hK, hG, hfl⟩
  obtain ⟨ls, hg, hl⟩ : ∃ ls : Array Slot, entryFrame m ([.ref b, .int x1] : List Value).toArray 4 = F0 m 0 ls [] ∧ lv_has ls 4 [(0, va_rf (some b)), (1, .int x1)] := by
    exact ⟨_, lg_entry_eq .., lv_entry _ (n := 4) (Nat.le_of_ble_eq_true rfl)⟩
  rw [hg]
  exact kX9_cancel_0 hX hno hw (jIz.start hH hz0) (lv_sub hl [0, 1] rfl) (by decide) (by decide)
set_option maxHeartbeats 4000000 in
set_option maxRecDepth 100000 in
theorem kL_cancel_0 (hX : jX2 D z A p l s m args meth c yL_cancel cL_cancel 4 wsL_cancel (some .int)) (htab : c.exceptionTable.toList = ([⟨0, 9, 12, 21⟩] : List ExceptionTableEntry)) {Q : Int32 → jM → Prop}  {x0 : Option Nat} {x1 : Int32} {x2 : Option Nat} {μ : jM} {H : Heap} {locs : List Loc} {ls : Array Slot} {cells slots : Nat} (hw : wL_cancel_0 z Q x0 x1 x2 μ) (hI : jIz D z A s.heap μ H locs) (hl : lv_has ls 4 [(0, va_rf x0), (1, .int x1), (2, va_rf x2)]) (hcn : cells + 1 ≤ 1) (hsn : slots + 6 ≤ 6) : W p l e rmL_cancel s m args below meth c H locs cells slots (vx_MQ below (jRz jfI Q D z A) (jXCz (fun _ _ => False) D z A) args s 1 6 A) (F0 m 0 ls []) := by
  unfold wL_cancel_0 at hw
  obtain ⟨hx, hb, hml, hown, hts, hr, hlocks, hnm, hK, hG, hfl⟩ := id hX
  have hown : s.vm.findClass RL = some m.cls := hown
  refine j_aload_n (r := x2) hx hb dL_cancel_0 rfl (lv_at hl 2 rfl) ?_
  refine lv_iconst (v := (0)) hx hb dL_cancel_1 (by decide) ?_
  refine j_aload_n (r := x0) hx hb dL_cancel_2 rfl (lv_at hl 0 rfl) ?_
  refine lv_iload_n hx hb dL_cancel_3 rfl (lv_at hl 1 rfl) ?_
  obtain ⟨b3, ⟨hrb3, hfs⟩, hw⟩ := hw
  refine j_goXz hI (vx_runV (As := [.int x1]) (rest := [.int (0 : Int32), va_rf x2]) ⟨hx, hb, hml, hown, hts⟩ (kX9_cancel l hfl D z b3 x1 μ H.size _ _) (cwV 1 hts gL_cancel_X9_cancel rfl rfl rfl (by decide +kernel) ⟨Nat.le_of_ble_eq_true rfl, Nat.le_of_ble_eq_true rfl⟩) (j_prV2z hK hG hI hw (ci := 11) rfl hfs) rfl rfl hl.1 (by rw [hrb3]; rfl) (lv_room (by simp only [List.map, List.sum_cons, List.sum_nil, jrc, jci, jcl, jcr, jcn]; exact Nat.le_of_ble_eq_true rfl)) dL_cancel_4 ⟨by show _ ≤ 1; omega, by show _ ≤ 6; omega⟩) (fun E ce q9 μX H locs hw hI hce hcv hcl => ?_) (fun v1 μ2 H locs hw hI => ?_)
  · obtain ⟨hw, rfl⟩ := hw
    · have hw := hw rfl
      refine vx_catch hown [] ⟨0, 9, 12, 21⟩ [] (name := "java/lang/IndexOutOfBoundsException") htab (fun z hz => absurd hz List.not_mem_nil) (by decide) (by decide) (hts (.classLink RL 21 "java/lang/IndexOutOfBoundsException") (List.mem_of_getElem? (i := 1) (by decide +kernel))) (va_Nw.use rfl (hG.2.2.2.2.2.2.2.2.1 _ (by decide +kernel))) hce hcv hcl ?_
      refine W.eq (g2 := F0 m 12 ls [va_rf (some q9)]) rfl ?_
      refine j_astore_nA (r := x2) (r0 := (some q9)) (F := fun w => [(0, va_rf x0), (1, .int x1), (2, w)]) (F2 := fun w => [(3, va_rf (some q9)), (0, va_rf x0), (1, .int x1), (2, w)]) hx hb dL_cancel_12 rfl hl (by decide) (fun w hw => by rcases hw with rfl | ⟨_, rfl⟩ <;> rfl) (fun ls hl => ?_)
      refine lv_iconst (v := (1)) hx hb dL_cancel_13 (by decide) ?_
      exact vx_ret (j_iretz hx hb hr hlocks hI hw (by omega) (by omega) dL_cancel_14)
  refine W.eq (g2 := F0 m 7 ls [.int v1, .int (0 : Int32), va_rf x2]) rfl ?_
  refine lv_i2l hx hb dL_cancel_7 rfl ?_
  obtain ⟨μ4, hμ4, hw⟩ := hw
  refine j_lastz (r := x2) hx hb hK hI hμ4 dL_cancel_8 (fun H locs hI => ?_)
  refine lv_goto (tgt := 15) hx hb dL_cancel_9 (by decide) ?_
  refine lv_iconst (v := (0)) hx hb dL_cancel_15 (by decide) ?_
  exact vx_ret (j_iretz hx hb hr hlocks hI hw (by omega) (by omega) dL_cancel_16)
set_option maxHeartbeats 4000000 in
set_option maxRecDepth 100000 in
theorem kL_cancel (l : Launch) (hfl : l.stackTraces = false) (D : jD) (z : Nat × Nat) (x0 : Option Nat) (x1 : Int32) (x2 : Option Nat) (μ : jM) (sz : Nat) (Q : Int32 → jM → Prop) : vx_Met l yL_cancel wsL_cancel rmL_cancel (jPre2z D z μ sz [va_rf x0, .int x1, va_rf x2] (wL_cancel z x0 x1 x2 μ Q)) (jRz jfI Q D z (jA z μ sz)) (jXCz (fun _ _ => False) D z (jA z μ sz)) 1 6 (jA z μ sz) := by
  refine vx_ofWH (cc := cL_cancel) (maxL := 4) (ret := (some .int)) (by decide) rfl ?_
  intro p e s m args below meth c s₁ B hml hv
  obtain ⟨rfl, hsz, hH, hz0, hK, hG, hw⟩ := hv
  subst hsz
  have hX : jX2 D z (jA z μ s.heap.size) p l s m _ meth c yL_cancel cL_cancel 4 wsL_cancel (some .int) := ⟨B.exec, B.bytes, hml, findClass_of_methodNamed B.named, atoms_spec (ws := wsL_cancel) B.pre, B.returns, B.notSynchronized, (name_of_methodNamed B.named B.method).1, hK, hG, hfl⟩
  obtain ⟨ls, hg, hl⟩ : ∃ ls : Array Slot, entryFrame m ([va_rf x0, .int x1, va_rf x2] : List Value).toArray 4 = F0 m 0 ls [] ∧ lv_has ls 4 [(0, va_rf x0), (1, .int x1), (2, va_rf x2)] := by
    cases x0 <;> cases x2 <;> exact ⟨_, lg_entry_eq .., lv_entry _ (n := 4) (Nat.le_of_ble_eq_true rfl)⟩
  rw [hg]
  exact kL_cancel_0 hX ((vx_table (x := yL_cancel) B (atoms_spec (ws := wsL_cancel) B.pre _ (List.mem_of_getElem? (i := 0) rfl))).trans rfl) hw (jIz.start hH hz0) (lv_sub hl [0, 1, 2] rfl) (by decide) (by decide)
set_option maxHeartbeats 4000000 in
set_option maxRecDepth 100000 in
theorem kX9_timesLeft_0 {b : Nat} (hX : jX2 D z A p l s m args meth c yX9_timesLeft cX9_timesLeft 2 wsX9_timesLeft (some .int)) (hno : ∀ x ∈ c.exceptionTable.toList, False) {Q : Int32 → jM → Prop} {X : String → jM → Prop}  {x1 : Int32} {μ : jM} {H : Heap} {locs : List Loc} {ls : Array Slot} {cells slots : Nat} (hw : wX9_timesLeft_0 z b Q X x1 μ) (hI : jIz D z A s.heap μ H locs) (hl : lv_has ls 2 [(0, va_rf (some b)), (1, .int x1)]) (hcn : cells + 1 ≤ 1) (hsn : slots + 6 ≤ 6) : W p l e rmX9_timesLeft s m args below meth c H locs cells slots (vx_MQ below (jRz jfI Q D z A) (jXCz X D z A) args s 1 6 A) (F0 m 0 ls []) := by
  unfold wX9_timesLeft_0 at hw
  obtain ⟨hx, hb, hml, hown, hts, hr, hlocks, hnm, hK, hG, hfl⟩ := id hX
  have hown : s.vm.findClass RX9 = some m.cls := hown
  have hfX4 : ∀ w ∈ wsX40, w.before args s = true := fun w h => hts w (List.mem_cons_of_mem _ (List.mem_append_left _ (List.mem_append_left _ (List.mem_append_left _ (List.mem_append_left _ (List.mem_append_right _ h))))))
  refine j_aload_n (r := (some b)) hx hb dX9_timesLeft_0 rfl (lv_at hl 0 rfl) ?_
  refine lv_iload_n hx hb dX9_timesLeft_1 rfl (lv_at hl 1 rfl) ?_
  obtain ⟨hfs, hw⟩ := hw
  refine j_goXz hI (vx_runV (As := [.int x1]) (rest := []) ⟨hx, hb, hml, hown, hts⟩ (kX9_flowAt l hfl D z b x1 μ H.size _ _) (cwV 1 hts gX9_timesLeft_X9_flowAt rfl rfl rfl (by decide +kernel) ⟨Nat.le_of_ble_eq_true rfl, Nat.le_of_ble_eq_true rfl⟩) (j_prV2z hK hG hI hw (ci := 11) rfl hfs) rfl rfl hl.1 rfl (lv_room (Nat.le_of_ble_eq_true rfl)) dX9_timesLeft_2 ⟨by show _ ≤ 1; omega, by show _ ≤ 6; omega⟩) (fun E ce q9 μX H locs hw hI hce hcv hcl => ?_) (fun v1 μ2 H locs hw hI => ?_)
  · exact j_outz hno hlocks hI hce hcv hcl hw (by omega) (by omega)
  refine W.eq (g2 := F0 m 5 ls [va_rf v1]) rfl ?_
  obtain ⟨v3, hv3, hw⟩ := hw
  refine j_getz (C := RX4) (T := TX4) (N := 7) (ci := 7) (r := v1) (v := .int v3) hx hb hfX4 hown hK hI rfl 4 (by decide) (hts (.fieldLink RX9 141 "CashPools$Flow" "left" "I") (List.mem_of_getElem? (i := 1) (by decide +kernel))) (fun _ h => h) hv3 dX9_timesLeft_5 ?_
  exact vx_ret (j_iretz hx hb hr hlocks hI hw (by omega) (by omega) dX9_timesLeft_8)
set_option maxHeartbeats 4000000 in
set_option maxRecDepth 100000 in
theorem kX9_timesLeft (l : Launch) (hfl : l.stackTraces = false) (D : jD) (z : Nat × Nat) (b : Nat) (x1 : Int32) (μ : jM) (sz : Nat) (Q : Int32 → jM → Prop) (X : String → jM → Prop) : vx_Met l yX9_timesLeft wsX9_timesLeft rmX9_timesLeft (jPre2z D z μ sz [.ref b, .int x1] (wX9_timesLeft z b x1 μ Q X)) (jRz jfI Q D z (jA z μ sz)) (jXCz X D z (jA z μ sz)) 1 6 (jA z μ sz) := by
  refine vx_ofW (cc := cX9_timesLeft) (maxL := 2) (ret := (some .int)) (by decide) rfl ?_
  intro p e s m args below meth c s₁ B hml hno hv
  obtain ⟨rfl, hsz, hH, hz0, hK, hG, hw⟩ := hv
  subst hsz
  have hX : jX2 D z (jA z μ s.heap.size) p l s m _ meth c yX9_timesLeft cX9_timesLeft 2 wsX9_timesLeft (some .int) := ⟨B.exec, B.bytes, hml, findClass_of_methodNamed B.named, atoms_spec (ws := wsX9_timesLeft) B.pre, B.returns, B.notSynchronized, (name_of_methodNamed B.named B.method).1, hK, hG, hfl⟩
  obtain ⟨ls, hg, hl⟩ : ∃ ls : Array Slot, entryFrame m ([.ref b, .int x1] : List Value).toArray 2 = F0 m 0 ls [] ∧ lv_has ls 2 [(0, va_rf (some b)), (1, .int x1)] := by
    exact ⟨_, lg_entry_eq .., lv_entry _ (n := 2) (Nat.le_of_ble_eq_true rfl)⟩
  rw [hg]
  exact kX9_timesLeft_0 hX hno hw (jIz.start hH hz0) (lv_sub hl [0, 1] rfl) (by decide) (by decide)
set_option maxHeartbeats 4000000 in
set_option maxRecDepth 100000 in
theorem kL_timesLeft_0 (hX : jX2 D z A p l s m args meth c yL_timesLeft cL_timesLeft 4 wsL_timesLeft (some .int)) (htab : c.exceptionTable.toList = ([⟨0, 9, 12, 21⟩] : List ExceptionTableEntry)) {Q : Int32 → jM → Prop}  {x0 : Option Nat} {x1 : Int32} {x2 : Option Nat} {μ : jM} {H : Heap} {locs : List Loc} {ls : Array Slot} {cells slots : Nat} (hw : wL_timesLeft_0 z Q x0 x1 x2 μ) (hI : jIz D z A s.heap μ H locs) (hl : lv_has ls 4 [(0, va_rf x0), (1, .int x1), (2, va_rf x2)]) (hcn : cells + 1 ≤ 1) (hsn : slots + 6 ≤ 6) : W p l e rmL_timesLeft s m args below meth c H locs cells slots (vx_MQ below (jRz jfI Q D z A) (jXCz (fun _ _ => False) D z A) args s 1 6 A) (F0 m 0 ls []) := by
  unfold wL_timesLeft_0 at hw
  obtain ⟨hx, hb, hml, hown, hts, hr, hlocks, hnm, hK, hG, hfl⟩ := id hX
  have hown : s.vm.findClass RL = some m.cls := hown
  refine j_aload_n (r := x2) hx hb dL_timesLeft_0 rfl (lv_at hl 2 rfl) ?_
  refine lv_iconst (v := (0)) hx hb dL_timesLeft_1 (by decide) ?_
  refine j_aload_n (r := x0) hx hb dL_timesLeft_2 rfl (lv_at hl 0 rfl) ?_
  refine lv_iload_n hx hb dL_timesLeft_3 rfl (lv_at hl 1 rfl) ?_
  obtain ⟨b3, ⟨hrb3, hfs⟩, hw⟩ := hw
  refine j_goXz hI (vx_runV (As := [.int x1]) (rest := [.int (0 : Int32), va_rf x2]) ⟨hx, hb, hml, hown, hts⟩ (kX9_timesLeft l hfl D z b3 x1 μ H.size _ _) (cwV 1 hts gL_timesLeft_X9_timesLeft rfl rfl rfl (by decide +kernel) ⟨Nat.le_of_ble_eq_true rfl, Nat.le_of_ble_eq_true rfl⟩) (j_prV2z hK hG hI hw (ci := 11) rfl hfs) rfl rfl hl.1 (by rw [hrb3]; rfl) (lv_room (by simp only [List.map, List.sum_cons, List.sum_nil, jrc, jci, jcl, jcr, jcn]; exact Nat.le_of_ble_eq_true rfl)) dL_timesLeft_4 ⟨by show _ ≤ 1; omega, by show _ ≤ 6; omega⟩) (fun E ce q9 μX H locs hw hI hce hcv hcl => ?_) (fun v1 μ2 H locs hw hI => ?_)
  · obtain ⟨hw, rfl⟩ := hw
    · have hw := hw rfl
      refine vx_catch hown [] ⟨0, 9, 12, 21⟩ [] (name := "java/lang/IndexOutOfBoundsException") htab (fun z hz => absurd hz List.not_mem_nil) (by decide) (by decide) (hts (.classLink RL 21 "java/lang/IndexOutOfBoundsException") (List.mem_of_getElem? (i := 1) (by decide +kernel))) (va_Nw.use rfl (hG.2.2.2.2.2.2.2.2.1 _ (by decide +kernel))) hce hcv hcl ?_
      refine W.eq (g2 := F0 m 12 ls [va_rf (some q9)]) rfl ?_
      refine j_astore_nA (r := x2) (r0 := (some q9)) (F := fun w => [(0, va_rf x0), (1, .int x1), (2, w)]) (F2 := fun w => [(3, va_rf (some q9)), (0, va_rf x0), (1, .int x1), (2, w)]) hx hb dL_timesLeft_12 rfl hl (by decide) (fun w hw => by rcases hw with rfl | ⟨_, rfl⟩ <;> rfl) (fun ls hl => ?_)
      refine lv_iconst (v := (1)) hx hb dL_timesLeft_13 (by decide) ?_
      exact vx_ret (j_iretz hx hb hr hlocks hI hw (by omega) (by omega) dL_timesLeft_14)
  refine W.eq (g2 := F0 m 7 ls [.int v1, .int (0 : Int32), va_rf x2]) rfl ?_
  refine lv_i2l hx hb dL_timesLeft_7 rfl ?_
  obtain ⟨μ4, hμ4, hw⟩ := hw
  refine j_lastz (r := x2) hx hb hK hI hμ4 dL_timesLeft_8 (fun H locs hI => ?_)
  refine lv_goto (tgt := 15) hx hb dL_timesLeft_9 (by decide) ?_
  refine lv_iconst (v := (0)) hx hb dL_timesLeft_15 (by decide) ?_
  exact vx_ret (j_iretz hx hb hr hlocks hI hw (by omega) (by omega) dL_timesLeft_16)
set_option maxHeartbeats 4000000 in
set_option maxRecDepth 100000 in
theorem kL_timesLeft (l : Launch) (hfl : l.stackTraces = false) (D : jD) (z : Nat × Nat) (x0 : Option Nat) (x1 : Int32) (x2 : Option Nat) (μ : jM) (sz : Nat) (Q : Int32 → jM → Prop) : vx_Met l yL_timesLeft wsL_timesLeft rmL_timesLeft (jPre2z D z μ sz [va_rf x0, .int x1, va_rf x2] (wL_timesLeft z x0 x1 x2 μ Q)) (jRz jfI Q D z (jA z μ sz)) (jXCz (fun _ _ => False) D z (jA z μ sz)) 1 6 (jA z μ sz) := by
  refine vx_ofWH (cc := cL_timesLeft) (maxL := 4) (ret := (some .int)) (by decide) rfl ?_
  intro p e s m args below meth c s₁ B hml hv
  obtain ⟨rfl, hsz, hH, hz0, hK, hG, hw⟩ := hv
  subst hsz
  have hX : jX2 D z (jA z μ s.heap.size) p l s m _ meth c yL_timesLeft cL_timesLeft 4 wsL_timesLeft (some .int) := ⟨B.exec, B.bytes, hml, findClass_of_methodNamed B.named, atoms_spec (ws := wsL_timesLeft) B.pre, B.returns, B.notSynchronized, (name_of_methodNamed B.named B.method).1, hK, hG, hfl⟩
  obtain ⟨ls, hg, hl⟩ : ∃ ls : Array Slot, entryFrame m ([va_rf x0, .int x1, va_rf x2] : List Value).toArray 4 = F0 m 0 ls [] ∧ lv_has ls 4 [(0, va_rf x0), (1, .int x1), (2, va_rf x2)] := by
    cases x0 <;> cases x2 <;> exact ⟨_, lg_entry_eq .., lv_entry _ (n := 4) (Nat.le_of_ble_eq_true rfl)⟩
  rw [hg]
  exact kL_timesLeft_0 hX ((vx_table (x := yL_timesLeft) B (atoms_spec (ws := wsL_timesLeft) B.pre _ (List.mem_of_getElem? (i := 0) rfl))).trans rfl) hw (jIz.start hH hz0) (lv_sub hl [0, 1, 2] rfl) (by decide) (by decide)
set_option maxHeartbeats 4000000 in
set_option maxRecDepth 100000 in
theorem kX4_sumWithin_6 {b : Nat} (hX : jX2 D z A p l s m args meth c yX4_sumWithin cX4_sumWithin 8 wsX4_sumWithin (some .long)) {Q : Int64 → jM → Prop}  (n : Nat) : ∀ {x1 : Option Nat} {x2 : Int32} {x3 : Int32} {x4 : Int64} {x6 : Int32} {μ : jM} {H : Heap} {locs : List Loc} {ls : Array Slot} {cells slots : Nat}, wX4_sumWithin_6 z b Q n x1 x2 x3 x4 x6 μ → jIz D z A s.heap μ H locs → lv_has ls 8 [(0, va_rf (some b)), (1, va_rf x1), (2, .int x2), (3, .int x3), (4, .long x4), (6, .int x6)] → cells + 0 ≤ 0 → slots + 0 ≤ 0 → W p l e rmX4_sumWithin s m args below meth c H locs cells slots (MQ below (jRz jfJ Q D z A) args s 0 0 A) (F0 m 6 ls []) := by
  induction n with
  | zero =>
    intros
    rename_i hw _ _ _ _
    exact (show False from hw).elim
  | succ n ih =>
    intro x1 x2 x3 x4 x6 μ H locs ls cells slots hw hI hl hcn hsn
    have hw : wX4_sumWithin_6_b z b Q (wX4_sumWithin_6 z b Q n) x1 x2 x3 x4 x6 μ := hw
    unfold wX4_sumWithin_6_b at hw
    obtain ⟨hx, hb, hml, hown, hts, hr, hlocks, hnm, hK, hG, hfl⟩ := id hX
    have hown : s.vm.findClass RX4 = some m.cls := hown
    have hfX4 : ∀ w ∈ wsX40, w.before args s = true := fun w h => hts w (List.mem_cons_of_mem _ (List.mem_append_left _ (List.mem_append_right _ h)))
    refine lv_iload hx hb dX4_sumWithin_6 (lv_at hl 5 rfl) ?_
    refine j_aload_n (r := (some b)) hx hb dX4_sumWithin_8 rfl (lv_at hl 0 rfl) ?_
    obtain ⟨v1, hv1, hw⟩ := hw
    refine j_getz (C := RX4) (T := TX4) (N := 7) (ci := 7) (r := (some b)) (v := .int v1) hx hb hfX4 hown hK hI rfl 4 (by decide) (hts (.fieldLink RX4 23 "CashPools$Flow" "left" "I") (List.mem_of_getElem? (i := 1) (by decide +kernel))) (fun _ h => h) hv1 dX4_sumWithin_9 ?_
    refine lv_icmp_ge (tgt := 61) hx hb dX4_sumWithin_12 (by decide) (fun hc => ?_) (fun hc => ?_)
    · have hw := hw.1 hc
      refine lv_lload hx hb dX4_sumWithin_61 (lv_at hl 4 rfl) ?_
      exact j_lretz hx hb hr hlocks hI hw (by omega) (by omega) dX4_sumWithin_63
    · have hw := hw.2 hc
      refine j_aload_n (r := x1) hx hb dX4_sumWithin_15 rfl (lv_at hl 1 rfl) ?_
      refine j_aload_n (r := (some b)) hx hb dX4_sumWithin_16 rfl (lv_at hl 0 rfl) ?_
      obtain ⟨v2, hv2, hw⟩ := hw
      refine j_getz (C := RX4) (T := TX4) (N := 7) (ci := 7) (r := (some b)) (v := .int v2) hx hb hfX4 hown hK hI rfl 3 (by decide) (hts (.fieldLink RX4 20 "CashPools$Flow" "due" "I") (List.mem_of_getElem? (i := 2) (by decide +kernel))) (fun _ h => h) hv2 dX4_sumWithin_17 ?_
      refine lv_iload hx hb dX4_sumWithin_20 (lv_at hl 5 rfl) ?_
      refine j_aload_n (r := (some b)) hx hb dX4_sumWithin_22 rfl (lv_at hl 0 rfl) ?_
      obtain ⟨v3, hv3, hw⟩ := hw
      refine j_getz (C := RX4) (T := TX4) (N := 7) (ci := 7) (r := (some b)) (v := .int v3) hx hb hfX4 hown hK hI rfl 2 (by decide) (hts (.fieldLink RX4 17 "CashPools$Flow" "step" "I") (List.mem_of_getElem? (i := 3) (by decide +kernel))) (fun _ h => h) hv3 dX4_sumWithin_23 ?_
      refine lv_imul hx hb dX4_sumWithin_26 ?_
      refine lv_iadd hx hb dX4_sumWithin_27 ?_
      obtain ⟨b6, ⟨hrb6, hfs⟩, hw⟩ := hw
      refine j_goz hI (va_runV (As := [.int (v2 + (x6 * v3))]) (rest := []) ⟨hx, hb, hml, hown, hts⟩ (kX2_firstSettlingFrom l hfl D z b6 (v2 + (x6 * v3)) μ H.size _) (cwV 1 hts gX4_sumWithin_X2_firstSettlingFrom rfl rfl rfl (by decide +kernel) ⟨Nat.le_of_ble_eq_true rfl, Nat.le_of_ble_eq_true rfl⟩) (j_prV2z hK hG hI hw (ci := 5) rfl hfs) rfl rfl hl.1 (by rw [hrb6]; rfl) (lv_room (Nat.le_of_ble_eq_true rfl)) dX4_sumWithin_28 ⟨by show _ ≤ 0; omega, by show _ ≤ 0; omega⟩) (fun v4 μ5 H locs hw hI => ?_)
      refine W.eq (g2 := F0 m 31 ls [.int v4]) rfl ?_
      refine lv_istore (lv' := [(7, .int v4), (0, va_rf (some b)), (1, va_rf x1), (2, .int x2), (3, .int x3), (4, .long x4), (6, .int x6)]) hx hb dX4_sumWithin_31 hl (by decide) rfl (fun ls hl => ?_)
      refine lv_iload hx hb dX4_sumWithin_33 (lv_at hl 0 rfl) ?_
      refine lv_iload_n hx hb dX4_sumWithin_35 rfl (lv_at hl 3 rfl) ?_
      refine lv_icmp_lt (tgt := 55) hx hb dX4_sumWithin_36 (by decide) (fun hc => ?_) (fun hc => ?_)
      · have hw := hw.1 hc
        obtain ⟨v7, ev7⟩ : ∃ y : Int32, y = x6 + (1 : Int32) := ⟨_, rfl⟩
        have hw := hw v7 ev7
        refine lv_iinc (v := v7) (lv' := [(6, .int v7), (7, .int v4), (0, va_rf (some b)), (1, va_rf x1), (2, .int x2), (3, .int x3), (4, .long x4)]) hx hb dX4_sumWithin_55 hl (k := 6) rfl (by rw [ev7]; rfl) (by decide) rfl (fun ls hl => ?_)
        refine lv_goto (tgt := 6) hx hb dX4_sumWithin_58 (by decide) ?_
        exact ih hw hI (lv_sub hl [2, 3, 4, 5, 6, 0] rfl) (by omega) (by omega)
      · have hw := hw.2 hc
        refine lv_iload hx hb dX4_sumWithin_39 (lv_at hl 0 rfl) ?_
        refine lv_iload_n hx hb dX4_sumWithin_41 rfl (lv_at hl 4 rfl) ?_
        refine lv_icmp_gt (tgt := 55) hx hb dX4_sumWithin_42 (by decide) (fun hc => ?_) (fun hc => ?_)
        · have hw := hw.1 hc
          obtain ⟨v8, ev8⟩ : ∃ y : Int32, y = x6 + (1 : Int32) := ⟨_, rfl⟩
          have hw := hw v8 ev8
          refine lv_iinc (v := v8) (lv' := [(6, .int v8), (7, .int v4), (0, va_rf (some b)), (1, va_rf x1), (2, .int x2), (3, .int x3), (4, .long x4)]) hx hb dX4_sumWithin_55 hl (k := 6) rfl (by rw [ev8]; rfl) (by decide) rfl (fun ls hl => ?_)
          refine lv_goto (tgt := 6) hx hb dX4_sumWithin_58 (by decide) ?_
          exact ih hw hI (lv_sub hl [2, 3, 4, 5, 6, 0] rfl) (by omega) (by omega)
        · have hw := hw.2 hc
          refine lv_lload hx hb dX4_sumWithin_45 (lv_at hl 5 rfl) ?_
          refine j_aload_n (r := (some b)) hx hb dX4_sumWithin_47 rfl (lv_at hl 1 rfl) ?_
          obtain ⟨v9, hv9, hw⟩ := hw
          refine j_getz (C := RX4) (T := TX4) (N := 7) (ci := 7) (r := (some b)) (v := .int v9) hx hb hfX4 hown hK hI rfl 1 (by decide) (hts (.fieldLink RX4 13 "CashPools$Flow" "amount" "I") (List.mem_of_getElem? (i := 4) (by decide +kernel))) (fun _ h => h) hv9 dX4_sumWithin_48 ?_
          refine lv_i2l hx hb dX4_sumWithin_51 rfl ?_
          refine lv_ladd hx hb dX4_sumWithin_52 ?_
          refine lv_topl (fun v10 ev10 => ?_)
          have hw := hw v10 ev10
          refine lv_lstore (lv' := [(4, .long v10), (7, .int v4), (0, va_rf (some b)), (1, va_rf x1), (2, .int x2), (3, .int x3), (6, .int x6)]) hx hb dX4_sumWithin_53 hl (by decide) rfl (fun ls hl => ?_)
          obtain ⟨v11, ev11⟩ : ∃ y : Int32, y = x6 + (1 : Int32) := ⟨_, rfl⟩
          have hw := hw v11 ev11
          refine lv_iinc (v := v11) (lv' := [(6, .int v11), (4, .long v10), (7, .int v4), (0, va_rf (some b)), (1, va_rf x1), (2, .int x2), (3, .int x3)]) hx hb dX4_sumWithin_55 hl (k := 6) rfl (by rw [ev11]; rfl) (by decide) rfl (fun ls hl => ?_)
          refine lv_goto (tgt := 6) hx hb dX4_sumWithin_58 (by decide) ?_
          exact ih hw hI (lv_sub hl [3, 4, 5, 6, 1, 0] rfl) (by omega) (by omega)
set_option maxHeartbeats 4000000 in
set_option maxRecDepth 100000 in
theorem kX4_sumWithin_0 {b : Nat} (hX : jX2 D z A p l s m args meth c yX4_sumWithin cX4_sumWithin 8 wsX4_sumWithin (some .long)) {Q : Int64 → jM → Prop}  {x1 : Option Nat} {x2 : Int32} {x3 : Int32} {μ : jM} {H : Heap} {locs : List Loc} {ls : Array Slot} {cells slots : Nat} (hw : wX4_sumWithin_0 z b Q x1 x2 x3 μ) (hI : jIz D z A s.heap μ H locs) (hl : lv_has ls 8 [(0, va_rf (some b)), (1, va_rf x1), (2, .int x2), (3, .int x3)]) (hcn : cells + 0 ≤ 0) (hsn : slots + 0 ≤ 0) : W p l e rmX4_sumWithin s m args below meth c H locs cells slots (MQ below (jRz jfJ Q D z A) args s 0 0 A) (F0 m 0 ls []) := by
  unfold wX4_sumWithin_0 at hw
  obtain ⟨hx, hb, hml, hown, hts, hr, hlocks, hnm, hK, hG, hfl⟩ := id hX
  have hown : s.vm.findClass RX4 = some m.cls := hown
  refine lv_lconst (v := (0)) hx hb dX4_sumWithin_0 (by decide) ?_
  refine lv_topl (fun v1 ev1 => ?_)
  have hw := hw v1 ev1
  refine lv_lstore (lv' := [(4, .long v1), (0, va_rf (some b)), (1, va_rf x1), (2, .int x2), (3, .int x3)]) hx hb dX4_sumWithin_1 hl (by decide) rfl (fun ls hl => ?_)
  refine lv_iconst (v := (0)) hx hb dX4_sumWithin_3 (by decide) ?_
  refine lv_topi (fun v2 ev2 => ?_)
  have hw := hw v2 ev2
  refine lv_istore (lv' := [(6, .int v2), (4, .long v1), (0, va_rf (some b)), (1, va_rf x1), (2, .int x2), (3, .int x3)]) hx hb dX4_sumWithin_4 hl (by decide) rfl (fun ls hl => ?_)
  obtain ⟨n3, hw⟩ := hw
  exact kX4_sumWithin_6 hX  n3 hw hI (lv_sub hl [2, 3, 4, 5, 1, 0] rfl) (by omega) (by omega)
set_option maxHeartbeats 4000000 in
set_option maxRecDepth 100000 in
theorem kX4_sumWithin (l : Launch) (hfl : l.stackTraces = false) (D : jD) (z : Nat × Nat) (b : Nat) (x1 : Option Nat) (x2 : Int32) (x3 : Int32) (μ : jM) (sz : Nat) (Q : Int64 → jM → Prop) : Met l yX4_sumWithin wsX4_sumWithin rmX4_sumWithin (jPre2z D z μ sz [.ref b, va_rf x1, .int x2, .int x3] (wX4_sumWithin z b x1 x2 x3 μ Q)) (jRz jfJ Q D z (jA z μ sz)) 0 0 (jA z μ sz) := by
  refine Met.ofW (cc := cX4_sumWithin) (maxL := 8) (ret := (some .long)) (by decide) rfl ?_
  intro p e s m args below meth c s₁ B hml hv
  obtain ⟨rfl, hsz, hH, hz0, hK, hG, hw⟩ := hv
  subst hsz
  have hX : jX2 D z (jA z μ s.heap.size) p l s m _ meth c yX4_sumWithin cX4_sumWithin 8 wsX4_sumWithin (some .long) := ⟨B.exec, B.bytes, hml, findClass_of_methodNamed B.named, atoms_spec (ws := wsX4_sumWithin) B.pre, B.returns, B.notSynchronized, (name_of_methodNamed B.named B.method).1, hK, hG, hfl⟩
  obtain ⟨ls, hg, hl⟩ : ∃ ls : Array Slot, entryFrame m ([.ref b, va_rf x1, .int x2, .int x3] : List Value).toArray 8 = F0 m 0 ls [] ∧ lv_has ls 8 [(0, va_rf (some b)), (1, va_rf x1), (2, .int x2), (3, .int x3)] := by
    cases x1 <;> exact ⟨_, lg_entry_eq .., lv_entry _ (n := 8) (Nat.le_of_ble_eq_true rfl)⟩
  rw [hg]
  exact kX4_sumWithin_0 hX hw (jIz.start hH hz0) (lv_sub hl [0, 1, 2, 3] rfl) (by decide) (by decide)
set_option maxHeartbeats 4000000 in
set_option maxRecDepth 100000 in
theorem kX3_sumOfFlows_6 {b : Nat} (hX : jX2 D z A p l s m args meth c yX3_sumOfFlows cX3_sumOfFlows 8 wsX3_sumOfFlows (some .long)) {Q : Int64 → jM → Prop}  (n : Nat) : ∀ {x1 : Option Nat} {x2 : Int32} {x3 : Int32} {x4 : Int64} {x6 : Int32} {μ : jM} {H : Heap} {locs : List Loc} {ls : Array Slot} {cells slots : Nat}, wX3_sumOfFlows_6 z b Q n x1 x2 x3 x4 x6 μ → jIz D z A s.heap μ H locs → lv_has ls 8 [(0, va_rf (some b)), (1, va_rf x1), (2, .int x2), (3, .int x3), (4, .long x4), (6, .int x6)] → cells + 0 ≤ 0 → slots + 0 ≤ 0 → W p l e rmX3_sumOfFlows s m args below meth c H locs cells slots (MQ below (jRz jfJ Q D z A) args s 0 0 A) (F0 m 6 ls []) := by
  induction n with
  | zero =>
    intros
    rename_i hw _ _ _ _
    exact (show False from hw).elim
  | succ n ih =>
    intro x1 x2 x3 x4 x6 μ H locs ls cells slots hw hI hl hcn hsn
    have hw : wX3_sumOfFlows_6_b z b Q (wX3_sumOfFlows_6 z b Q n) x1 x2 x3 x4 x6 μ := hw
    unfold wX3_sumOfFlows_6_b at hw
    obtain ⟨hx, hb, hml, hown, hts, hr, hlocks, hnm, hK, hG, hfl⟩ := id hX
    have hown : s.vm.findClass RX3 = some m.cls := hown
    have hfX3 : ∀ w ∈ wsX30, w.before args s = true := fun w h => hts w (List.mem_cons_of_mem _ (List.mem_append_left _ (List.mem_append_left _ (List.mem_append_left _ (List.mem_append_right _ h)))))
    have hfX4 : ∀ w ∈ wsX40, w.before args s = true := fun w h => hts w (List.mem_cons_of_mem _ (List.mem_append_left _ (List.mem_append_left _ (List.mem_append_right _ h))))
    refine lv_iload hx hb dX3_sumOfFlows_6 (lv_at hl 5 rfl) ?_
    refine j_aload_n (r := (some b)) hx hb dX3_sumOfFlows_8 rfl (lv_at hl 0 rfl) ?_
    obtain ⟨v1, hv1, hw⟩ := hw
    refine j_getz (C := RX3) (T := TX3) (N := 8) (ci := 6) (r := (some b)) (v := va_rf v1) hx hb hfX3 hown hK hI rfl 3 (by decide) (hts (.fieldLink RX3 24 "CashPools$Desk" "everyFlow" "Ljava/util/ArrayList;") (List.mem_of_getElem? (i := 1) (by decide +kernel))) (fun _ h => h) hv1 dX3_sumOfFlows_9 ?_
    obtain ⟨b4, ⟨hrb4, hfs⟩, hw⟩ := hw
    refine j_goz hI (va_runV (As := []) (rest := [.int x6]) ⟨hx, hb, hml, hown, hts⟩ (kJx4a65c_size_8abf5 l hfl D z b4  μ H.size _) (cwV 0 hts gX3_sumOfFlows_Jx4a65c_size_8abf5 rfl rfl rfl (by decide +kernel) ⟨Nat.le_of_ble_eq_true rfl, Nat.le_of_ble_eq_true rfl⟩) (j_prV2z hK hG hI hw (ci := 2) rfl hfs) rfl rfl hl.1 (by rw [hrb4]; rfl) (lv_room (Nat.le_of_ble_eq_true rfl)) dX3_sumOfFlows_12 ⟨by show _ ≤ 0; omega, by show _ ≤ 0; omega⟩) (fun v2 μ3 H locs hw hI => ?_)
    refine W.eq (g2 := F0 m 15 ls [.int v2, .int x6]) rfl ?_
    refine lv_icmp_ge (tgt := 63) hx hb dX3_sumOfFlows_15 (by decide) (fun hc => ?_) (fun hc => ?_)
    · have hw := hw.1 hc
      refine lv_lload hx hb dX3_sumOfFlows_63 (lv_at hl 4 rfl) ?_
      exact j_lretz hx hb hr hlocks hI hw (by omega) (by omega) dX3_sumOfFlows_65
    · have hw := hw.2 hc
      refine j_aload_n (r := (some b)) hx hb dX3_sumOfFlows_18 rfl (lv_at hl 0 rfl) ?_
      obtain ⟨v5, hv5, hw⟩ := hw
      refine j_getz (C := RX3) (T := TX3) (N := 8) (ci := 6) (r := (some b)) (v := va_rf v5) hx hb hfX3 hown hK hI rfl 3 (by decide) (hts (.fieldLink RX3 24 "CashPools$Desk" "everyFlow" "Ljava/util/ArrayList;") (List.mem_of_getElem? (i := 1) (by decide +kernel))) (fun _ h => h) hv5 dX3_sumOfFlows_19 ?_
      refine lv_iload hx hb dX3_sumOfFlows_22 (lv_at hl 5 rfl) ?_
      obtain ⟨b8, ⟨hrb8, hfs⟩, hw⟩ := hw
      refine j_goz hI (va_runV (As := [.int x6]) (rest := []) ⟨hx, hb, hml, hown, hts⟩ (kJx4a65c_get_915e3 l hfl D z b8 x6 μ3 H.size _) (cwV 1 hts gX3_sumOfFlows_Jx4a65c_get_915e3 rfl rfl rfl (by decide +kernel) ⟨Nat.le_of_ble_eq_true rfl, Nat.le_of_ble_eq_true rfl⟩) (j_prV2z hK hG hI hw (ci := 2) rfl hfs) rfl rfl hl.1 (by rw [hrb8]; rfl) (lv_room (Nat.le_of_ble_eq_true rfl)) dX3_sumOfFlows_24 ⟨by show _ ≤ 0; omega, by show _ ≤ 0; omega⟩) (fun v6 μ7 H locs hw hI => ?_)
      refine W.eq (g2 := F0 m 27 ls [va_rf v6]) rfl ?_
      obtain ⟨h9, hw⟩ := hw
      refine j_castz (C := RX4) (T := TX4) (N := 7) (ci := 7) (r := v6) hx hb hown (hts (.classLink RX3 113 "CashPools$Flow") (List.mem_of_getElem? (i := 2) (by decide +kernel))) hK hI rfl h9 dX3_sumOfFlows_27 ?_
      refine j_astore (r := v6) (lv' := [(7, va_rf v6), (0, va_rf (some b)), (1, va_rf x1), (2, .int x2), (3, .int x3), (4, .long x4), (6, .int x6)]) hx hb dX3_sumOfFlows_30 hl (by decide) rfl (fun ls hl => ?_)
      refine j_aload (r := v6) hx hb dX3_sumOfFlows_32 (lv_at hl 0 rfl) ?_
      obtain ⟨v10, hv10, hw⟩ := hw
      refine j_getz (C := RX4) (T := TX4) (N := 7) (ci := 7) (r := v6) (v := va_rf v10) hx hb hfX4 hown hK hI rfl 0 (by decide) (hts (.fieldLink RX3 185 "CashPools$Flow" "account" "LCashPools$Account;") (List.mem_of_getElem? (i := 3) (by decide +kernel))) (fun _ h => h) hv10 dX3_sumOfFlows_34 ?_
      refine j_aload_n (r := x1) hx hb dX3_sumOfFlows_37 rfl (lv_at hl 2 rfl) ?_
      refine lv_acmp_ne (rx := v10) (ry := x1) (tgt := 57) hx hb dX3_sumOfFlows_38 (by decide) (fun hc => ?_) (fun hc => ?_)
      · have hw := hw.1 hc
        obtain ⟨v11, ev11⟩ : ∃ y : Int32, y = x6 + (1 : Int32) := ⟨_, rfl⟩
        have hw := hw v11 ev11
        refine lv_iinc (v := v11) (lv' := [(6, .int v11), (7, va_rf v6), (0, va_rf (some b)), (1, va_rf x1), (2, .int x2), (3, .int x3), (4, .long x4)]) hx hb dX3_sumOfFlows_57 hl (k := 6) rfl (by rw [ev11]; rfl) (by decide) rfl (fun ls hl => ?_)
        refine lv_goto (tgt := 6) hx hb dX3_sumOfFlows_60 (by decide) ?_
        exact ih hw hI (lv_sub hl [2, 3, 4, 5, 6, 0] rfl) (by omega) (by omega)
      · have hw := hw.2 hc
        refine lv_lload hx hb dX3_sumOfFlows_41 (lv_at hl 5 rfl) ?_
        refine j_aload (r := v6) hx hb dX3_sumOfFlows_43 (lv_at hl 0 rfl) ?_
        refine j_aload_n (r := (some b)) hx hb dX3_sumOfFlows_45 rfl (lv_at hl 1 rfl) ?_
        obtain ⟨v12, hv12, hw⟩ := hw
        refine j_getz (C := RX3) (T := TX3) (N := 8) (ci := 6) (r := (some b)) (v := va_rf v12) hx hb hfX3 hown hK hI rfl 5 (by decide) (hts (.fieldLink RX3 33 "CashPools$Desk" "calendar" "LCashPools$Calendar;") (List.mem_of_getElem? (i := 4) (by decide +kernel))) (fun _ h => h) hv12 dX3_sumOfFlows_46 ?_
        refine lv_iload_n hx hb dX3_sumOfFlows_49 rfl (lv_at hl 3 rfl) ?_
        refine lv_iload_n hx hb dX3_sumOfFlows_50 rfl (lv_at hl 4 rfl) ?_
        obtain ⟨b15, ⟨hrb15, hfs⟩, hw⟩ := hw
        refine j_goz hI (va_runV (As := [va_rf v12, .int x2, .int x3]) (rest := [.long x4]) ⟨hx, hb, hml, hown, hts⟩ (kX4_sumWithin l hfl D z b15 v12 x2 x3 μ7 H.size _) (cwV 3 hts gX3_sumOfFlows_X4_sumWithin rfl rfl rfl (by decide +kernel) ⟨Nat.le_of_ble_eq_true rfl, Nat.le_of_ble_eq_true rfl⟩) (j_prV2z hK hG hI hw (ci := 7) rfl hfs) rfl rfl hl.1 (by rw [hrb15]; rfl) (lv_room (Nat.le_of_ble_eq_true rfl)) dX3_sumOfFlows_51 ⟨by show _ ≤ 0; omega, by show _ ≤ 0; omega⟩) (fun v13 μ14 H locs hw hI => ?_)
        refine W.eq (g2 := F0 m 54 ls [.long v13, .long x4]) rfl ?_
        refine lv_ladd hx hb dX3_sumOfFlows_54 ?_
        refine lv_topl (fun v16 ev16 => ?_)
        have hw := hw v16 ev16
        refine lv_lstore (lv' := [(4, .long v16), (7, va_rf v6), (0, va_rf (some b)), (1, va_rf x1), (2, .int x2), (3, .int x3), (6, .int x6)]) hx hb dX3_sumOfFlows_55 hl (by decide) rfl (fun ls hl => ?_)
        obtain ⟨v17, ev17⟩ : ∃ y : Int32, y = x6 + (1 : Int32) := ⟨_, rfl⟩
        have hw := hw v17 ev17
        refine lv_iinc (v := v17) (lv' := [(6, .int v17), (4, .long v16), (7, va_rf v6), (0, va_rf (some b)), (1, va_rf x1), (2, .int x2), (3, .int x3)]) hx hb dX3_sumOfFlows_57 hl (k := 6) rfl (by rw [ev17]; rfl) (by decide) rfl (fun ls hl => ?_)
        refine lv_goto (tgt := 6) hx hb dX3_sumOfFlows_60 (by decide) ?_
        exact ih hw hI (lv_sub hl [3, 4, 5, 6, 1, 0] rfl) (by omega) (by omega)
set_option maxHeartbeats 4000000 in
set_option maxRecDepth 100000 in
theorem kX3_sumOfFlows_0 {b : Nat} (hX : jX2 D z A p l s m args meth c yX3_sumOfFlows cX3_sumOfFlows 8 wsX3_sumOfFlows (some .long)) {Q : Int64 → jM → Prop}  {x1 : Option Nat} {x2 : Int32} {x3 : Int32} {μ : jM} {H : Heap} {locs : List Loc} {ls : Array Slot} {cells slots : Nat} (hw : wX3_sumOfFlows_0 z b Q x1 x2 x3 μ) (hI : jIz D z A s.heap μ H locs) (hl : lv_has ls 8 [(0, va_rf (some b)), (1, va_rf x1), (2, .int x2), (3, .int x3)]) (hcn : cells + 0 ≤ 0) (hsn : slots + 0 ≤ 0) : W p l e rmX3_sumOfFlows s m args below meth c H locs cells slots (MQ below (jRz jfJ Q D z A) args s 0 0 A) (F0 m 0 ls []) := by
  unfold wX3_sumOfFlows_0 at hw
  obtain ⟨hx, hb, hml, hown, hts, hr, hlocks, hnm, hK, hG, hfl⟩ := id hX
  have hown : s.vm.findClass RX3 = some m.cls := hown
  refine lv_lconst (v := (0)) hx hb dX3_sumOfFlows_0 (by decide) ?_
  refine lv_topl (fun v1 ev1 => ?_)
  have hw := hw v1 ev1
  refine lv_lstore (lv' := [(4, .long v1), (0, va_rf (some b)), (1, va_rf x1), (2, .int x2), (3, .int x3)]) hx hb dX3_sumOfFlows_1 hl (by decide) rfl (fun ls hl => ?_)
  refine lv_iconst (v := (0)) hx hb dX3_sumOfFlows_3 (by decide) ?_
  refine lv_topi (fun v2 ev2 => ?_)
  have hw := hw v2 ev2
  refine lv_istore (lv' := [(6, .int v2), (4, .long v1), (0, va_rf (some b)), (1, va_rf x1), (2, .int x2), (3, .int x3)]) hx hb dX3_sumOfFlows_4 hl (by decide) rfl (fun ls hl => ?_)
  obtain ⟨n3, hw⟩ := hw
  exact kX3_sumOfFlows_6 hX  n3 hw hI (lv_sub hl [2, 3, 4, 5, 1, 0] rfl) (by omega) (by omega)
set_option maxHeartbeats 4000000 in
set_option maxRecDepth 100000 in
theorem kX3_sumOfFlows (l : Launch) (hfl : l.stackTraces = false) (D : jD) (z : Nat × Nat) (b : Nat) (x1 : Option Nat) (x2 : Int32) (x3 : Int32) (μ : jM) (sz : Nat) (Q : Int64 → jM → Prop) : Met l yX3_sumOfFlows wsX3_sumOfFlows rmX3_sumOfFlows (jPre2z D z μ sz [.ref b, va_rf x1, .int x2, .int x3] (wX3_sumOfFlows z b x1 x2 x3 μ Q)) (jRz jfJ Q D z (jA z μ sz)) 0 0 (jA z μ sz) := by
  refine Met.ofW (cc := cX3_sumOfFlows) (maxL := 8) (ret := (some .long)) (by decide) rfl ?_
  intro p e s m args below meth c s₁ B hml hv
  obtain ⟨rfl, hsz, hH, hz0, hK, hG, hw⟩ := hv
  subst hsz
  have hX : jX2 D z (jA z μ s.heap.size) p l s m _ meth c yX3_sumOfFlows cX3_sumOfFlows 8 wsX3_sumOfFlows (some .long) := ⟨B.exec, B.bytes, hml, findClass_of_methodNamed B.named, atoms_spec (ws := wsX3_sumOfFlows) B.pre, B.returns, B.notSynchronized, (name_of_methodNamed B.named B.method).1, hK, hG, hfl⟩
  obtain ⟨ls, hg, hl⟩ : ∃ ls : Array Slot, entryFrame m ([.ref b, va_rf x1, .int x2, .int x3] : List Value).toArray 8 = F0 m 0 ls [] ∧ lv_has ls 8 [(0, va_rf (some b)), (1, va_rf x1), (2, .int x2), (3, .int x3)] := by
    cases x1 <;> exact ⟨_, lg_entry_eq .., lv_entry _ (n := 8) (Nat.le_of_ble_eq_true rfl)⟩
  rw [hg]
  exact kX3_sumOfFlows_0 hX hw (jIz.start hH hz0) (lv_sub hl [0, 1, 2, 3] rfl) (by decide) (by decide)
set_option maxHeartbeats 4000000 in
set_option maxRecDepth 100000 in
theorem kX9_scheduled_0 {b : Nat} (hX : jX2 D z A p l s m args meth c yX9_scheduled cX9_scheduled 5 wsX9_scheduled (some .long)) (hno : ∀ x ∈ c.exceptionTable.toList, False) {Q : Int64 → jM → Prop} {X : String → jM → Prop}  {x1 : Int32} {x2 : Int32} {x3 : Int32} {μ : jM} {H : Heap} {locs : List Loc} {ls : Array Slot} {cells slots : Nat} (hw : wX9_scheduled_0 z b Q X x1 x2 x3 μ) (hI : jIz D z A s.heap μ H locs) (hl : lv_has ls 5 [(0, va_rf (some b)), (1, .int x1), (2, .int x2), (3, .int x3)]) (hcn : cells + 3 ≤ 3) (hsn : slots + 18 ≤ 18) : W p l e rmX9_scheduled s m args below meth c H locs cells slots (vx_MQ below (jRz jfJ Q D z A) (jXCz X D z A) args s 3 18 A) (F0 m 0 ls []) := by
  unfold wX9_scheduled_0 at hw
  obtain ⟨hx, hb, hml, hown, hts, hr, hlocks, hnm, hK, hG, hfl⟩ := id hX
  have hown : s.vm.findClass RX9 = some m.cls := hown
  have hfX3 : ∀ w ∈ wsX30, w.before args s = true := fun w h => hts w (List.mem_cons_of_mem _ (List.mem_append_left _ (List.mem_append_left _ (List.mem_append_left _ (List.mem_append_left _ (List.mem_append_left _ (List.mem_append_right _ h)))))))
  have hfX9 : ∀ w ∈ wsX90, w.before args s = true := fun w h => hts w (List.mem_cons_of_mem _ (List.mem_append_left _ (List.mem_append_left _ (List.mem_append_left _ (List.mem_append_left _ (List.mem_append_left _ (List.mem_append_left _ (List.mem_append_right _ h))))))))
  refine j_aload_n (r := (some b)) hx hb dX9_scheduled_0 rfl (lv_at hl 0 rfl) ?_
  refine lv_iload_n hx hb dX9_scheduled_1 rfl (lv_at hl 1 rfl) ?_
  obtain ⟨hfs, hw⟩ := hw
  refine j_goXz hI (vx_runV (As := [.int x1]) (rest := []) ⟨hx, hb, hml, hown, hts⟩ (kX9_accountAt l hfl D z b x1 μ H.size _ _) (cwV 1 hts gX9_scheduled_X9_accountAt rfl rfl rfl (by decide +kernel) ⟨Nat.le_of_ble_eq_true rfl, Nat.le_of_ble_eq_true rfl⟩) (j_prV2z hK hG hI hw (ci := 11) rfl hfs) rfl rfl hl.1 rfl (lv_room (Nat.le_of_ble_eq_true rfl)) dX9_scheduled_2 ⟨by show _ ≤ 3; omega, by show _ ≤ 18; omega⟩) (fun E ce q9 μX H locs hw hI hce hcv hcl => ?_) (fun v1 μ2 H locs hw hI => ?_)
  · exact j_outz hno hlocks hI hce hcv hcl hw (by omega) (by omega)
  refine W.eq (g2 := F0 m 5 ls [va_rf v1]) rfl ?_
  refine j_astore (r := v1) (lv' := [(4, va_rf v1), (0, va_rf (some b)), (1, .int x1), (2, .int x2), (3, .int x3)]) hx hb dX9_scheduled_5 hl (by decide) rfl (fun ls hl => ?_)
  refine lv_iload_n hx hb dX9_scheduled_7 rfl (lv_at hl 3 rfl) ?_
  refine j_aload_n (r := (some b)) hx hb dX9_scheduled_8 rfl (lv_at hl 1 rfl) ?_
  obtain ⟨v3, hv3, hw⟩ := hw
  refine j_getz (C := RX9) (T := TX9) (N := 1) (ci := 11) (r := (some b)) (v := va_rf v3) hx hb hfX9 hown hK hI rfl 0 (by decide) (hts (.fieldLink RX9 10 "CashPools" "desk" "LCashPools$Desk;") (List.mem_of_getElem? (i := 1) (by decide +kernel))) (fun _ h => h) hv3 dX9_scheduled_9 ?_
  obtain ⟨v4, hv4, hw⟩ := hw
  refine j_getz (C := RX3) (T := TX3) (N := 8) (ci := 6) (r := v3) (v := .int v4) hx hb hfX3 hown hK hI rfl 6 (by decide) (hts (.fieldLink RX9 91 "CashPools$Desk" "day" "I") (List.mem_of_getElem? (i := 2) (by decide +kernel))) (fun _ h => h) hv4 dX9_scheduled_12 ?_
  refine lv_sipush (v := (450)) hx hb dX9_scheduled_15 (by decide) ?_
  refine j_goXz hI (vx_runS (As := [.int x2, .int v4, .int (450 : Int32)]) (rest := []) ⟨hx, hb, hml, hown, hts⟩ (kX9_requireWithin l hfl D z x2 v4 (450 : Int32) μ2 H.size _ _) (va_cwS 3 hts gX9_scheduled_X9_requireWithin rfl rfl rfl (by decide +kernel) ⟨Nat.le_of_ble_eq_true rfl, Nat.le_of_ble_eq_true rfl⟩) (j_prS2z hK hG hI hw) rfl rfl hl.1 rfl (lv_room (Nat.le_of_ble_eq_true rfl)) dX9_scheduled_18 ⟨by show _ ≤ 3; omega, by show _ ≤ 18; omega⟩) (fun E ce q9 μX H locs hw hI hce hcv hcl => ?_) (fun u5 μ6 H locs hw hI => ?_)
  · exact j_outz hno hlocks hI hce hcv hcl hw (by omega) (by omega)
  refine W.eq (g2 := F0 m 21 ls []) rfl ?_
  refine lv_iload_n hx hb dX9_scheduled_21 rfl (lv_at hl 4 rfl) ?_
  refine lv_iload_n hx hb dX9_scheduled_22 rfl (lv_at hl 3 rfl) ?_
  refine lv_sipush (v := (450)) hx hb dX9_scheduled_23 (by decide) ?_
  refine j_goXz hI (vx_runS (As := [.int x3, .int x2, .int (450 : Int32)]) (rest := []) ⟨hx, hb, hml, hown, hts⟩ (kX9_requireWithin l hfl D z x3 x2 (450 : Int32) μ6 H.size _ _) (va_cwS 3 hts gX9_scheduled_X9_requireWithin rfl rfl rfl (by decide +kernel) ⟨Nat.le_of_ble_eq_true rfl, Nat.le_of_ble_eq_true rfl⟩) (j_prS2z hK hG hI hw) rfl rfl hl.1 rfl (lv_room (Nat.le_of_ble_eq_true rfl)) dX9_scheduled_26 ⟨by show _ ≤ 3; omega, by show _ ≤ 18; omega⟩) (fun E ce q9 μX H locs hw hI hce hcv hcl => ?_) (fun u7 μ8 H locs hw hI => ?_)
  · exact j_outz hno hlocks hI hce hcv hcl hw (by omega) (by omega)
  refine W.eq (g2 := F0 m 29 ls []) rfl ?_
  refine j_aload_n (r := (some b)) hx hb dX9_scheduled_29 rfl (lv_at hl 1 rfl) ?_
  obtain ⟨v9, hv9, hw⟩ := hw
  refine j_getz (C := RX9) (T := TX9) (N := 1) (ci := 11) (r := (some b)) (v := va_rf v9) hx hb hfX9 hown hK hI rfl 0 (by decide) (hts (.fieldLink RX9 10 "CashPools" "desk" "LCashPools$Desk;") (List.mem_of_getElem? (i := 1) (by decide +kernel))) (fun _ h => h) hv9 dX9_scheduled_30 ?_
  refine j_aload (r := v1) hx hb dX9_scheduled_33 (lv_at hl 0 rfl) ?_
  refine lv_iload_n hx hb dX9_scheduled_35 rfl (lv_at hl 3 rfl) ?_
  refine lv_iload_n hx hb dX9_scheduled_36 rfl (lv_at hl 4 rfl) ?_
  obtain ⟨b12, ⟨hrb12, hfs⟩, hw⟩ := hw
  refine j_goz hI (va_runV (As := [va_rf v1, .int x2, .int x3]) (rest := []) ⟨hx, hb, hml, hown, hts⟩ (kX3_sumOfFlows l hfl D z b12 v1 x2 x3 μ8 H.size _) (cwV 3 hts gX9_scheduled_X3_sumOfFlows rfl rfl rfl (by decide +kernel) ⟨Nat.le_of_ble_eq_true rfl, Nat.le_of_ble_eq_true rfl⟩) (j_prV2z hK hG hI hw (ci := 6) rfl hfs) rfl rfl hl.1 (by rw [hrb12]; rfl) (lv_room (Nat.le_of_ble_eq_true rfl)) dX9_scheduled_37 ⟨by show _ ≤ 3; omega, by show _ ≤ 18; omega⟩) (fun v10 μ11 H locs hw hI => ?_)
  refine W.eq (g2 := F0 m 40 ls [.long v10]) rfl ?_
  exact vx_ret (j_lretz hx hb hr hlocks hI hw (by omega) (by omega) dX9_scheduled_40)
set_option maxHeartbeats 4000000 in
set_option maxRecDepth 100000 in
theorem kX9_scheduled (l : Launch) (hfl : l.stackTraces = false) (D : jD) (z : Nat × Nat) (b : Nat) (x1 : Int32) (x2 : Int32) (x3 : Int32) (μ : jM) (sz : Nat) (Q : Int64 → jM → Prop) (X : String → jM → Prop) : vx_Met l yX9_scheduled wsX9_scheduled rmX9_scheduled (jPre2z D z μ sz [.ref b, .int x1, .int x2, .int x3] (wX9_scheduled z b x1 x2 x3 μ Q X)) (jRz jfJ Q D z (jA z μ sz)) (jXCz X D z (jA z μ sz)) 3 18 (jA z μ sz) := by
  refine vx_ofW (cc := cX9_scheduled) (maxL := 5) (ret := (some .long)) (by decide) rfl ?_
  intro p e s m args below meth c s₁ B hml hno hv
  obtain ⟨rfl, hsz, hH, hz0, hK, hG, hw⟩ := hv
  subst hsz
  have hX : jX2 D z (jA z μ s.heap.size) p l s m _ meth c yX9_scheduled cX9_scheduled 5 wsX9_scheduled (some .long) := ⟨B.exec, B.bytes, hml, findClass_of_methodNamed B.named, atoms_spec (ws := wsX9_scheduled) B.pre, B.returns, B.notSynchronized, (name_of_methodNamed B.named B.method).1, hK, hG, hfl⟩
  obtain ⟨ls, hg, hl⟩ : ∃ ls : Array Slot, entryFrame m ([.ref b, .int x1, .int x2, .int x3] : List Value).toArray 5 = F0 m 0 ls [] ∧ lv_has ls 5 [(0, va_rf (some b)), (1, .int x1), (2, .int x2), (3, .int x3)] := by
    exact ⟨_, lg_entry_eq .., lv_entry _ (n := 5) (Nat.le_of_ble_eq_true rfl)⟩
  rw [hg]
  exact kX9_scheduled_0 hX hno hw (jIz.start hH hz0) (lv_sub hl [0, 1, 2, 3] rfl) (by decide) (by decide)
end
