section
variable {p : Program} {l : Launch} {e : Env} {s : State} {m : MethodId} {args : Array Value} {below : List Frame} {meth : Method} {c : Code} {D : jD} {z : Nat × Nat} {A : Nat → Prop}
set_option maxHeartbeats 4000000 in
set_option maxRecDepth 100000 in
theorem kX8_leftBefore_45 (hX : jX2 D z A p l s m args meth c yX8_leftBefore cX8_leftBefore 7 wsX8_leftBefore (some .long)) {Q : Int64 → jM → Prop} {nR : Nat} {RC : Option Nat → Int32 → Int32 → jM → (Int64 → jM → Prop) → Prop} (hRC : ∀ (y0 : Option Nat) (y1 : Int32) (y2 : Int32) (μ : jM) (sz : Nat) (Q : Int64 → jM → Prop), Met l yX8_leftBefore wsX8_leftBefore (rmX8_leftBefore nR) (jPre2z D z μ sz [va_rf y0, .int y1, .int y2] (RC y0 y1 y2 μ Q)) (jRz jfJ Q D z (jA z μ sz)) 0 0 (jA z μ sz)) (n : Nat) : ∀ {x0 : Option Nat} {x1 : Int32} {x3 : Int64} {x5 : Int32} {μ : jM} {H : Heap} {locs : List Loc} {ls : Array Slot} {cells slots : Nat}, wX8_leftBefore_45 z RC Q n x0 x1 x3 x5 μ → jIz D z A s.heap μ H locs → lv_has ls 7 [(0, va_rf x0), (1, .int x1), (3, .long x3), (5, .int x5)] → cells + 0 ≤ 0 → slots + 0 ≤ 0 → W p l e (rmX8_leftBefore (nR + 1)) s m args below meth c H locs cells slots (MQ below (jRz jfJ Q D z A) args s 0 0 A) (F0 m 45 ls []) := by
  induction n with
  | zero =>
    intros
    rename_i hw _ _ _ _
    exact (show False from hw).elim
  | succ n ih =>
    intro x0 x1 x3 x5 μ H locs ls cells slots hw hI hl hcn hsn
    have hw : wX8_leftBefore_45_b z RC Q (wX8_leftBefore_45 z RC Q n) x0 x1 x3 x5 μ := hw
    unfold wX8_leftBefore_45_b at hw
    obtain ⟨hx, hb, hml, hown, hts, hr, hlocks, hnm, hK, hG, hfl⟩ := id hX
    have hown : s.vm.findClass RX8 = some m.cls := hown
    have hfX0 : ∀ w ∈ wsX00, w.before args s = true := fun w h => hts w (List.mem_cons_of_mem _ (List.mem_append_left _ (List.mem_append_right _ h)))
    refine lv_iload hx hb dX8_leftBefore_45 (lv_at hl 3 rfl) ?_
    refine j_aload_n (r := x0) hx hb dX8_leftBefore_47 rfl (lv_at hl 0 rfl) ?_
    obtain ⟨v1, hv1, hw⟩ := hw
    refine j_getz (C := RX0) (T := TX0) (N := 12) (ci := 3) (r := x0) (v := va_rf v1) hx hb hfX0 hown hK hI rfl 4 (by decide) (hts (.fieldLink RX8 15 "CashPools$Account" "children" "Ljava/util/ArrayList;") (List.mem_of_getElem? (i := 3) (by decide +kernel))) (fun _ h => h) hv1 dX8_leftBefore_48 ?_
    obtain ⟨b4, ⟨hrb4, hfs⟩, hw⟩ := hw
    refine j_goz hI (va_runV (As := []) (rest := [.int x5]) ⟨hx, hb, hml, hown, hts⟩ (kJx4a65c_size_8abf5 l hfl D z b4  μ H.size _) (cwV 0 hts gX8_leftBefore_Jx4a65c_size_8abf5 rfl rfl rfl (by decide +kernel) ⟨by show 1 ≤ nR + 1 + 17; omega, by show 20 ≤ (nR + 1) * 26 + 479; omega⟩) (j_prV2z hK hG hI hw (ci := 2) rfl hfs) rfl rfl hl.1 (by rw [hrb4]; rfl) (lv_room (Nat.le_of_ble_eq_true rfl)) dX8_leftBefore_51 ⟨by show _ ≤ 0; omega, by show _ ≤ 0; omega⟩) (fun v2 μ3 H locs hw hI => ?_)
    refine W.eq (g2 := F0 m 54 ls [.int v2, .int x5]) rfl ?_
    refine lv_icmp_ge (tgt := 100) hx hb dX8_leftBefore_54 (by decide) (fun hc => ?_) (fun hc => ?_)
    · have hw := hw.1 hc
      refine lv_lload_n hx hb dX8_leftBefore_100 rfl (lv_at hl 2 rfl) ?_
      exact j_lretz hx hb hr hlocks hI hw (by omega) (by omega) dX8_leftBefore_101
    · have hw := hw.2 hc
      refine j_aload_n (r := x0) hx hb dX8_leftBefore_57 rfl (lv_at hl 0 rfl) ?_
      obtain ⟨v5, hv5, hw⟩ := hw
      refine j_getz (C := RX0) (T := TX0) (N := 12) (ci := 3) (r := x0) (v := va_rf v5) hx hb hfX0 hown hK hI rfl 4 (by decide) (hts (.fieldLink RX8 15 "CashPools$Account" "children" "Ljava/util/ArrayList;") (List.mem_of_getElem? (i := 3) (by decide +kernel))) (fun _ h => h) hv5 dX8_leftBefore_58 ?_
      refine lv_iload hx hb dX8_leftBefore_61 (lv_at hl 3 rfl) ?_
      obtain ⟨b8, ⟨hrb8, hfs⟩, hw⟩ := hw
      refine j_goz hI (va_runV (As := [.int x5]) (rest := []) ⟨hx, hb, hml, hown, hts⟩ (kJx4a65c_get_915e3 l hfl D z b8 x5 μ3 H.size _) (cwV 1 hts gX8_leftBefore_Jx4a65c_get_915e3 rfl rfl rfl (by decide +kernel) ⟨by show 3 ≤ nR + 1 + 17; omega, by show 64 ≤ (nR + 1) * 26 + 479; omega⟩) (j_prV2z hK hG hI hw (ci := 2) rfl hfs) rfl rfl hl.1 (by rw [hrb8]; rfl) (lv_room (Nat.le_of_ble_eq_true rfl)) dX8_leftBefore_63 ⟨by show _ ≤ 0; omega, by show _ ≤ 0; omega⟩) (fun v6 μ7 H locs hw hI => ?_)
      refine W.eq (g2 := F0 m 66 ls [va_rf v6]) rfl ?_
      obtain ⟨h9, hw⟩ := hw
      refine j_castz (C := RX0) (T := TX0) (N := 12) (ci := 3) (r := v6) hx hb hown (hts (.classLink RX8 10 "CashPools$Account") (List.mem_of_getElem? (i := 4) (by decide +kernel))) hK hI rfl h9 dX8_leftBefore_66 ?_
      refine j_astore (r := v6) (lv' := [(6, va_rf v6), (0, va_rf x0), (1, .int x1), (3, .long x3), (5, .int x5)]) hx hb dX8_leftBefore_69 hl (by decide) rfl (fun ls hl => ?_)
      refine j_aload (r := v6) hx hb dX8_leftBefore_71 (lv_at hl 0 rfl) ?_
      obtain ⟨v10, hv10, hw⟩ := hw
      refine j_getz (C := RX0) (T := TX0) (N := 12) (ci := 3) (r := v6) (v := .int v10) hx hb hfX0 hown hK hI rfl 0 (by decide) (hts (.fieldLink RX8 75 "CashPools$Account" "number" "I") (List.mem_of_getElem? (i := 2) (by decide +kernel))) (fun _ h => h) hv10 dX8_leftBefore_73 ?_
      refine lv_iload_n hx hb dX8_leftBefore_76 rfl (lv_at hl 2 rfl) ?_
      refine lv_icmp_ge (tgt := 94) hx hb dX8_leftBefore_77 (by decide) (fun hc => ?_) (fun hc => ?_)
      · have hw := hw.1 hc
        obtain ⟨v11, ev11⟩ : ∃ y : Int32, y = x5 + (1 : Int32) := ⟨_, rfl⟩
        have hw := hw v11 ev11
        refine lv_iinc (v := v11) (lv' := [(5, .int v11), (6, va_rf v6), (0, va_rf x0), (1, .int x1), (3, .long x3)]) hx hb dX8_leftBefore_94 hl (k := 4) rfl (by rw [ev11]; rfl) (by decide) rfl (fun ls hl => ?_)
        refine lv_goto (tgt := 45) hx hb dX8_leftBefore_97 (by decide) ?_
        exact ih hw hI (lv_sub hl [2, 3, 4, 0] rfl) (by omega) (by omega)
      · have hw := hw.2 hc
        refine lv_lload_n hx hb dX8_leftBefore_80 rfl (lv_at hl 3 rfl) ?_
        refine j_aload (r := v6) hx hb dX8_leftBefore_81 (lv_at hl 0 rfl) ?_
        refine j_aload (r := v6) hx hb dX8_leftBefore_83 (lv_at hl 0 rfl) ?_
        refine j_goz hI (va_runS (As := [va_rf v6]) (rest := [va_rf v6, .long x3]) ⟨hx, hb, hml, hown, hts⟩ (kX8_heldBetweenPasses l hfl D z v6 μ7 H.size _) (va_cwS 1 hts gX8_leftBefore_X8_heldBetweenPasses rfl rfl rfl (by decide +kernel) ⟨by show 17 ≤ nR + 1 + 17; omega, by show 479 ≤ (nR + 1) * 26 + 479; omega⟩) (j_prS2z hK hG hI hw) rfl rfl hl.1 rfl (lv_room (by simp only [List.map, List.sum_cons, List.sum_nil, jrc, jci, jcl, jcr, jcn]; exact Nat.le_of_ble_eq_true rfl)) dX8_leftBefore_85 ⟨by show _ ≤ 0; omega, by show _ ≤ 0; omega⟩) (fun v12 μ13 H locs hw hI => ?_)
        refine W.eq (g2 := F0 m 88 ls [.long v12, va_rf v6, .long x3]) rfl ?_
        refine lv_lload_n hx hb dX8_leftBefore_88 rfl (lv_at hl 3 rfl) ?_
        refine j_goz hI (va_runS (As := [va_rf v6, .long v12, .long x3]) (rest := [.long x3]) ⟨hx, hb, hml, hown, hts⟩ (kX8_partOf l hfl D z v6 v12 x3 μ13 H.size _) (va_cwS 3 hts gX8_leftBefore_X8_partOf rfl rfl rfl (by decide +kernel) ⟨by show 3 ≤ nR + 1 + 17; omega, by show 160 ≤ (nR + 1) * 26 + 479; omega⟩) (j_prS2z hK hG hI hw) rfl rfl hl.1 rfl (lv_room (Nat.le_of_ble_eq_true rfl)) dX8_leftBefore_89 ⟨by show _ ≤ 0; omega, by show _ ≤ 0; omega⟩) (fun v14 μ15 H locs hw hI => ?_)
        refine W.eq (g2 := F0 m 92 ls [.long v14, .long x3]) rfl ?_
        refine lv_lsub hx hb dX8_leftBefore_92 ?_
        refine lv_topl (fun v16 ev16 => ?_)
        have hw := hw v16 ev16
        refine lv_lstore_n (lv' := [(3, .long v16), (6, va_rf v6), (0, va_rf x0), (1, .int x1), (5, .int x5)]) hx hb dX8_leftBefore_93 rfl hl (by decide) rfl (fun ls hl => ?_)
        obtain ⟨v17, ev17⟩ : ∃ y : Int32, y = x5 + (1 : Int32) := ⟨_, rfl⟩
        have hw := hw v17 ev17
        refine lv_iinc (v := v17) (lv' := [(5, .int v17), (3, .long v16), (6, va_rf v6), (0, va_rf x0), (1, .int x1)]) hx hb dX8_leftBefore_94 hl (k := 4) rfl (by rw [ev17]; rfl) (by decide) rfl (fun ls hl => ?_)
        refine lv_goto (tgt := 45) hx hb dX8_leftBefore_97 (by decide) ?_
        exact ih hw hI (lv_sub hl [3, 4, 1, 0] rfl) (by omega) (by omega)
set_option maxHeartbeats 4000000 in
set_option maxRecDepth 100000 in
theorem kX8_leftBefore_0 (hX : jX2 D z A p l s m args meth c yX8_leftBefore cX8_leftBefore 7 wsX8_leftBefore (some .long)) {Q : Int64 → jM → Prop} {nR : Nat} {RC : Option Nat → Int32 → Int32 → jM → (Int64 → jM → Prop) → Prop} (hRC : ∀ (y0 : Option Nat) (y1 : Int32) (y2 : Int32) (μ : jM) (sz : Nat) (Q : Int64 → jM → Prop), Met l yX8_leftBefore wsX8_leftBefore (rmX8_leftBefore nR) (jPre2z D z μ sz [va_rf y0, .int y1, .int y2] (RC y0 y1 y2 μ Q)) (jRz jfJ Q D z (jA z μ sz)) 0 0 (jA z μ sz)) {x0 : Option Nat} {x1 : Int32} {x2 : Int32} {μ : jM} {H : Heap} {locs : List Loc} {ls : Array Slot} {cells slots : Nat} (hw : wX8_leftBefore_0 z RC Q x0 x1 x2 μ) (hI : jIz D z A s.heap μ H locs) (hl : lv_has ls 7 [(0, va_rf x0), (1, .int x1), (2, .int x2)]) (hcn : cells + 0 ≤ 0) (hsn : slots + 0 ≤ 0) : W p l e (rmX8_leftBefore (nR + 1)) s m args below meth c H locs cells slots (MQ below (jRz jfJ Q D z A) args s 0 0 A) (F0 m 0 ls []) := by
  unfold wX8_leftBefore_0 at hw
  obtain ⟨hx, hb, hml, hown, hts, hr, hlocks, hnm, hK, hG, hfl⟩ := id hX
  have hown : s.vm.findClass RX8 = some m.cls := hown
  have hfX0 : ∀ w ∈ wsX00, w.before args s = true := fun w h => hts w (List.mem_cons_of_mem _ (List.mem_append_left _ (List.mem_append_right _ h)))
  refine lv_iload_n hx hb dX8_leftBefore_0 rfl (lv_at hl 2 rfl) ?_
  refine lv_bipush (v := (10)) hx hb dX8_leftBefore_1 (by decide) ?_
  refine lv_icmp_le (tgt := 8) hx hb dX8_leftBefore_3 (by decide) (fun hc => ?_) (fun hc => ?_)
  · have hw := hw.1 hc
    refine j_aload_n (r := x0) hx hb dX8_leftBefore_8 rfl (lv_at hl 0 rfl) ?_
    refine j_goz hI (va_runS (As := [va_rf x0]) (rest := []) ⟨hx, hb, hml, hown, hts⟩ (kX8_heldBetweenPasses l hfl D z x0 μ H.size _) (va_cwS 1 hts gX8_leftBefore_X8_heldBetweenPasses rfl rfl rfl (by decide +kernel) ⟨by show 17 ≤ nR + 1 + 17; omega, by show 479 ≤ (nR + 1) * 26 + 479; omega⟩) (j_prS2z hK hG hI hw) rfl rfl hl.1 rfl (lv_room (Nat.le_of_ble_eq_true rfl)) dX8_leftBefore_9 ⟨by show _ ≤ 0; omega, by show _ ≤ 0; omega⟩) (fun v1 μ2 H locs hw hI => ?_)
    refine W.eq (g2 := F0 m 12 ls [.long v1]) rfl ?_
    refine lv_lstore_n (lv' := [(3, .long v1), (0, va_rf x0), (1, .int x1), (2, .int x2)]) hx hb dX8_leftBefore_12 rfl hl (by decide) rfl (fun ls hl => ?_)
    refine j_aload_n (r := x0) hx hb dX8_leftBefore_13 rfl (lv_at hl 1 rfl) ?_
    obtain ⟨v3, hv3, hw⟩ := hw
    refine j_getz (C := RX0) (T := TX0) (N := 12) (ci := 3) (r := x0) (v := va_rf v3) hx hb hfX0 hown hK hI rfl 1 (by decide) (hts (.fieldLink RX8 52 "CashPools$Account" "parent" "LCashPools$Account;") (List.mem_of_getElem? (i := 1) (by decide +kernel))) (fun _ h => h) hv3 dX8_leftBefore_14 ?_
    refine j_ifnull (r := v3) (tgt := 42) hx hb dX8_leftBefore_17 (by decide) (fun hc => ?_) (fun hc => ?_)
    · have hw := hw.1 hc
      refine lv_iconst (v := (0)) hx hb dX8_leftBefore_42 (by decide) ?_
      refine lv_topi (fun v4 ev4 => ?_)
      have hw := hw v4 ev4
      refine lv_istore (lv' := [(5, .int v4), (3, .long v1), (0, va_rf x0), (1, .int x1), (2, .int x2)]) hx hb dX8_leftBefore_43 hl (by decide) rfl (fun ls hl => ?_)
      obtain ⟨n5, hw⟩ := hw
      exact kX8_leftBefore_45 hX hRC n5 hw hI (lv_sub hl [2, 3, 1, 0] rfl) (by omega) (by omega)
    · have hw := hw.2 hc
      refine lv_lload_n hx hb dX8_leftBefore_20 rfl (lv_at hl 0 rfl) ?_
      refine j_aload_n (r := x0) hx hb dX8_leftBefore_21 rfl (lv_at hl 1 rfl) ?_
      refine lv_lload_n hx hb dX8_leftBefore_22 rfl (lv_at hl 0 rfl) ?_
      refine j_aload_n (r := x0) hx hb dX8_leftBefore_23 rfl (lv_at hl 1 rfl) ?_
      obtain ⟨v6, hv6, hw⟩ := hw
      refine j_getz (C := RX0) (T := TX0) (N := 12) (ci := 3) (r := x0) (v := va_rf v6) hx hb hfX0 hown hK hI rfl 1 (by decide) (hts (.fieldLink RX8 52 "CashPools$Account" "parent" "LCashPools$Account;") (List.mem_of_getElem? (i := 1) (by decide +kernel))) (fun _ h => h) hv6 dX8_leftBefore_24 ?_
      refine j_aload_n (r := x0) hx hb dX8_leftBefore_27 rfl (lv_at hl 1 rfl) ?_
      obtain ⟨v7, hv7, hw⟩ := hw
      refine j_getz (C := RX0) (T := TX0) (N := 12) (ci := 3) (r := x0) (v := .int v7) hx hb hfX0 hown hK hI rfl 0 (by decide) (hts (.fieldLink RX8 75 "CashPools$Account" "number" "I") (List.mem_of_getElem? (i := 2) (by decide +kernel))) (fun _ h => h) hv7 dX8_leftBefore_28 ?_
      refine lv_iload_n hx hb dX8_leftBefore_31 rfl (lv_at hl 3 rfl) ?_
      refine lv_iconst (v := (1)) hx hb dX8_leftBefore_32 (by decide) ?_
      refine lv_iadd hx hb dX8_leftBefore_33 ?_
      refine j_goz hI (va_runS (As := [va_rf v6, .int v7, .int (x2 + (1 : Int32))]) (rest := [.long v1, va_rf x0, .long v1]) ⟨hx, hb, hml, hown, hts⟩ (hRC v6 v7 (x2 + (1 : Int32)) μ2 H.size _) (va_cwS 3 hts gX8_leftBefore_X8_leftBefore rfl rfl rfl (by decide +kernel) ⟨by show nR + 17 + 1 ≤ nR + 1 + 17; omega, by show 8 + (7 + 11) + (nR * 26 + 479) ≤ (nR + 1) * 26 + 479; omega⟩) (j_prS2z hK hG hI hw) rfl rfl hl.1 rfl (lv_room (by simp only [List.map, List.sum_cons, List.sum_nil, jrc, jci, jcl, jcr, jcn]; exact Nat.le_of_ble_eq_true rfl)) dX8_leftBefore_34 ⟨by show _ ≤ 0; omega, by show _ ≤ 0; omega⟩) (fun v8 μ9 H locs hw hI => ?_)
      refine W.eq (g2 := F0 m 37 ls [.long v8, .long v1, va_rf x0, .long v1]) rfl ?_
      refine j_goz hI (va_runS (As := [va_rf x0, .long v1, .long v8]) (rest := [.long v1]) ⟨hx, hb, hml, hown, hts⟩ (kX8_partOf l hfl D z x0 v1 v8 μ9 H.size _) (va_cwS 3 hts gX8_leftBefore_X8_partOf rfl rfl rfl (by decide +kernel) ⟨by show 3 ≤ nR + 1 + 17; omega, by show 160 ≤ (nR + 1) * 26 + 479; omega⟩) (j_prS2z hK hG hI hw) rfl rfl hl.1 rfl (lv_room (Nat.le_of_ble_eq_true rfl)) dX8_leftBefore_37 ⟨by show _ ≤ 0; omega, by show _ ≤ 0; omega⟩) (fun v10 μ11 H locs hw hI => ?_)
      refine W.eq (g2 := F0 m 40 ls [.long v10, .long v1]) rfl ?_
      refine lv_ladd hx hb dX8_leftBefore_40 ?_
      refine lv_topl (fun v12 ev12 => ?_)
      have hw := hw v12 ev12
      refine lv_lstore_n (lv' := [(3, .long v12), (0, va_rf x0), (1, .int x1), (2, .int x2)]) hx hb dX8_leftBefore_41 rfl hl (by decide) rfl (fun ls hl => ?_)
      refine lv_iconst (v := (0)) hx hb dX8_leftBefore_42 (by decide) ?_
      refine lv_topi (fun v13 ev13 => ?_)
      have hw := hw v13 ev13
      refine lv_istore (lv' := [(5, .int v13), (3, .long v12), (0, va_rf x0), (1, .int x1), (2, .int x2)]) hx hb dX8_leftBefore_43 hl (by decide) rfl (fun ls hl => ?_)
      obtain ⟨n14, hw⟩ := hw
      exact kX8_leftBefore_45 hX hRC n14 hw hI (lv_sub hl [2, 3, 1, 0] rfl) (by omega) (by omega)
  · have hw := hw.2 hc
    refine lv_lconst (v := (0)) hx hb dX8_leftBefore_6 (by decide) ?_
    exact j_lretz hx hb hr hlocks hI hw (by omega) (by omega) dX8_leftBefore_7
set_option maxHeartbeats 4000000 in
set_option maxRecDepth 100000 in
theorem kX8_leftBefore_r (l : Launch) (hfl : l.stackTraces = false) (D : jD) (z : Nat × Nat) (n : Nat) : ∀ (x0 : Option Nat) (x1 : Int32) (x2 : Int32) (μ : jM) (sz : Nat) (Q : Int64 → jM → Prop), Met l yX8_leftBefore wsX8_leftBefore (rmX8_leftBefore n) (jPre2z D z μ sz [va_rf x0, .int x1, .int x2] (wX8_leftBefore z n x0 x1 x2 μ Q)) (jRz jfJ Q D z (jA z μ sz)) 0 0 (jA z μ sz) := by
  induction n with
  | zero =>
    intro x0 x1 x2 μ sz Q
    refine Met.ofW (cc := cX8_leftBefore) (maxL := 7) (ret := (some .long)) (by decide) rfl ?_
    intro p e s m args below meth c s₁ B hml hv
    obtain ⟨_, _, _, _, _, _, hw⟩ := hv
    exact (show False from hw).elim
  | succ n ih =>
    intro x0 x1 x2 μ sz Q
    refine Met.ofW (cc := cX8_leftBefore) (maxL := 7) (ret := (some .long)) (by decide) rfl ?_
    intro p e s m args below meth c s₁ B hml hv
    obtain ⟨rfl, hsz, hH, hz0, hK, hG, hw⟩ := hv
    subst hsz
    have hX : jX2 D z (jA z μ s.heap.size) p l s m _ meth c yX8_leftBefore cX8_leftBefore 7 wsX8_leftBefore (some .long) := ⟨B.exec, B.bytes, hml, findClass_of_methodNamed B.named, atoms_spec (ws := wsX8_leftBefore) B.pre, B.returns, B.notSynchronized, (name_of_methodNamed B.named B.method).1, hK, hG, hfl⟩
    obtain ⟨ls, hg, hl⟩ : ∃ ls : Array Slot, entryFrame m ([va_rf x0, .int x1, .int x2] : List Value).toArray 7 = F0 m 0 ls [] ∧ lv_has ls 7 [(0, va_rf x0), (1, .int x1), (2, .int x2)] := by
      cases x0 <;> exact ⟨_, lg_entry_eq .., lv_entry _ (n := 7) (Nat.le_of_ble_eq_true rfl)⟩
    rw [hg]
    exact kX8_leftBefore_0 hX ih hw (jIz.start hH hz0) (lv_sub hl [0, 1, 2] rfl) (by decide) (by decide)
theorem kX8_leftBefore (l : Launch) (hfl : l.stackTraces = false) (D : jD) (z : Nat × Nat) (x0 : Option Nat) (x1 : Int32) (x2 : Int32) (μ : jM) (sz : Nat) (Q : Int64 → jM → Prop) : Met l yX8_leftBefore wsX8_leftBefore (rmX8_leftBefore 12) (jPre2z D z μ sz [va_rf x0, .int x1, .int x2] (wX8_leftBefore z 12 x0 x1 x2 μ Q)) (jRz jfJ Q D z (jA z μ sz)) 0 0 (jA z μ sz) := kX8_leftBefore_r l hfl D z 12 x0 x1 x2 μ sz Q
set_option maxHeartbeats 4000000 in
set_option maxRecDepth 100000 in
theorem kX8_sweptCash_0 (hX : jX2 D z A p l s m args meth c yX8_sweptCash cX8_sweptCash 1 wsX8_sweptCash (some .long)) {Q : Int64 → jM → Prop}  {x0 : Option Nat} {μ : jM} {H : Heap} {locs : List Loc} {ls : Array Slot} {cells slots : Nat} (hw : wX8_sweptCash_0 z Q x0 μ) (hI : jIz D z A s.heap μ H locs) (hl : lv_has ls 1 [(0, va_rf x0)]) (hcn : cells + 0 ≤ 0) (hsn : slots + 0 ≤ 0) : W p l e rmX8_sweptCash s m args below meth c H locs cells slots (MQ below (jRz jfJ Q D z A) args s 0 0 A) (F0 m 0 ls []) := by
  unfold wX8_sweptCash_0 at hw
  obtain ⟨hx, hb, hml, hown, hts, hr, hlocks, hnm, hK, hG, hfl⟩ := id hX
  have hown : s.vm.findClass RX8 = some m.cls := hown
  refine j_aload_n (r := x0) hx hb dX8_sweptCash_0 rfl (lv_at hl 0 rfl) ?_
  refine lv_bipush (v := (10)) hx hb dX8_sweptCash_1 (by decide) ?_
  refine lv_iconst (v := (0)) hx hb dX8_sweptCash_3 (by decide) ?_
  refine j_goz hI (va_runS (As := [va_rf x0, .int (10 : Int32), .int (0 : Int32)]) (rest := []) ⟨hx, hb, hml, hown, hts⟩ (kX8_leftBefore l hfl D z x0 (10 : Int32) (0 : Int32) μ H.size _) (va_cwS 3 hts gX8_sweptCash_X8_leftBefore rfl rfl rfl (by decide +kernel) ⟨Nat.le_of_ble_eq_true rfl, Nat.le_of_ble_eq_true rfl⟩) (j_prS2z hK hG hI hw) rfl rfl hl.1 rfl (lv_room (Nat.le_of_ble_eq_true rfl)) dX8_sweptCash_4 ⟨by show _ ≤ 0; omega, by show _ ≤ 0; omega⟩) (fun v1 μ2 H locs hw hI => ?_)
  refine W.eq (g2 := F0 m 7 ls [.long v1]) rfl ?_
  exact j_lretz hx hb hr hlocks hI hw (by omega) (by omega) dX8_sweptCash_7
set_option maxHeartbeats 4000000 in
set_option maxRecDepth 100000 in
theorem kX8_sweptCash (l : Launch) (hfl : l.stackTraces = false) (D : jD) (z : Nat × Nat) (x0 : Option Nat) (μ : jM) (sz : Nat) (Q : Int64 → jM → Prop) : Met l yX8_sweptCash wsX8_sweptCash rmX8_sweptCash (jPre2z D z μ sz [va_rf x0] (wX8_sweptCash z x0 μ Q)) (jRz jfJ Q D z (jA z μ sz)) 0 0 (jA z μ sz) := by
  refine Met.ofW (cc := cX8_sweptCash) (maxL := 1) (ret := (some .long)) (by decide) rfl ?_
  intro p e s m args below meth c s₁ B hml hv
  obtain ⟨rfl, hsz, hH, hz0, hK, hG, hw⟩ := hv
  subst hsz
  have hX : jX2 D z (jA z μ s.heap.size) p l s m _ meth c yX8_sweptCash cX8_sweptCash 1 wsX8_sweptCash (some .long) := ⟨B.exec, B.bytes, hml, findClass_of_methodNamed B.named, atoms_spec (ws := wsX8_sweptCash) B.pre, B.returns, B.notSynchronized, (name_of_methodNamed B.named B.method).1, hK, hG, hfl⟩
  obtain ⟨ls, hg, hl⟩ : ∃ ls : Array Slot, entryFrame m ([va_rf x0] : List Value).toArray 1 = F0 m 0 ls [] ∧ lv_has ls 1 [(0, va_rf x0)] := by
    cases x0 <;> exact ⟨_, lg_entry_eq .., lv_entry _ (n := 1) (Nat.le_of_ble_eq_true rfl)⟩
  rw [hg]
  exact kX8_sweptCash_0 hX hw (jIz.start hH hz0) (lv_sub hl [0] rfl) (by decide) (by decide)
set_option maxHeartbeats 4000000 in
set_option maxRecDepth 100000 in
theorem kX9_afterSweep_0 {b : Nat} (hX : jX2 D z A p l s m args meth c yX9_afterSweep cX9_afterSweep 2 wsX9_afterSweep (some .long)) (hno : ∀ x ∈ c.exceptionTable.toList, False) {Q : Int64 → jM → Prop} {X : String → jM → Prop}  {x1 : Int32} {μ : jM} {H : Heap} {locs : List Loc} {ls : Array Slot} {cells slots : Nat} (hw : wX9_afterSweep_0 z b Q X x1 μ) (hI : jIz D z A s.heap μ H locs) (hl : lv_has ls 2 [(0, va_rf (some b)), (1, .int x1)]) (hcn : cells + 1 ≤ 1) (hsn : slots + 6 ≤ 6) : W p l e rmX9_afterSweep s m args below meth c H locs cells slots (vx_MQ below (jRz jfJ Q D z A) (jXCz X D z A) args s 1 6 A) (F0 m 0 ls []) := by
  unfold wX9_afterSweep_0 at hw
  obtain ⟨hx, hb, hml, hown, hts, hr, hlocks, hnm, hK, hG, hfl⟩ := id hX
  have hown : s.vm.findClass RX9 = some m.cls := hown
  refine j_aload_n (r := (some b)) hx hb dX9_afterSweep_0 rfl (lv_at hl 0 rfl) ?_
  refine lv_iload_n hx hb dX9_afterSweep_1 rfl (lv_at hl 1 rfl) ?_
  obtain ⟨hfs, hw⟩ := hw
  refine j_goXz hI (vx_runV (As := [.int x1]) (rest := []) ⟨hx, hb, hml, hown, hts⟩ (kX9_accountAt l hfl D z b x1 μ H.size _ _) (cwV 1 hts gX9_afterSweep_X9_accountAt rfl rfl rfl (by decide +kernel) ⟨Nat.le_of_ble_eq_true rfl, Nat.le_of_ble_eq_true rfl⟩) (j_prV2z hK hG hI hw (ci := 11) rfl hfs) rfl rfl hl.1 rfl (lv_room (Nat.le_of_ble_eq_true rfl)) dX9_afterSweep_2 ⟨by show _ ≤ 1; omega, by show _ ≤ 6; omega⟩) (fun E ce q9 μX H locs hw hI hce hcv hcl => ?_) (fun v1 μ2 H locs hw hI => ?_)
  · exact j_outz hno hlocks hI hce hcv hcl hw (by omega) (by omega)
  refine W.eq (g2 := F0 m 5 ls [va_rf v1]) rfl ?_
  refine j_goz hI (va_runS (As := [va_rf v1]) (rest := []) ⟨hx, hb, hml, hown, hts⟩ (kX8_sweptCash l hfl D z v1 μ2 H.size _) (va_cwS 1 hts gX9_afterSweep_X8_sweptCash rfl rfl rfl (by decide +kernel) ⟨Nat.le_of_ble_eq_true rfl, Nat.le_of_ble_eq_true rfl⟩) (j_prS2z hK hG hI hw) rfl rfl hl.1 rfl (lv_room (Nat.le_of_ble_eq_true rfl)) dX9_afterSweep_5 ⟨by show _ ≤ 1; omega, by show _ ≤ 6; omega⟩) (fun v3 μ4 H locs hw hI => ?_)
  refine W.eq (g2 := F0 m 8 ls [.long v3]) rfl ?_
  exact vx_ret (j_lretz hx hb hr hlocks hI hw (by omega) (by omega) dX9_afterSweep_8)
set_option maxHeartbeats 4000000 in
set_option maxRecDepth 100000 in
theorem kX9_afterSweep (l : Launch) (hfl : l.stackTraces = false) (D : jD) (z : Nat × Nat) (b : Nat) (x1 : Int32) (μ : jM) (sz : Nat) (Q : Int64 → jM → Prop) (X : String → jM → Prop) : vx_Met l yX9_afterSweep wsX9_afterSweep rmX9_afterSweep (jPre2z D z μ sz [.ref b, .int x1] (wX9_afterSweep z b x1 μ Q X)) (jRz jfJ Q D z (jA z μ sz)) (jXCz X D z (jA z μ sz)) 1 6 (jA z μ sz) := by
  refine vx_ofW (cc := cX9_afterSweep) (maxL := 2) (ret := (some .long)) (by decide) rfl ?_
  intro p e s m args below meth c s₁ B hml hno hv
  obtain ⟨rfl, hsz, hH, hz0, hK, hG, hw⟩ := hv
  subst hsz
  have hX : jX2 D z (jA z μ s.heap.size) p l s m _ meth c yX9_afterSweep cX9_afterSweep 2 wsX9_afterSweep (some .long) := ⟨B.exec, B.bytes, hml, findClass_of_methodNamed B.named, atoms_spec (ws := wsX9_afterSweep) B.pre, B.returns, B.notSynchronized, (name_of_methodNamed B.named B.method).1, hK, hG, hfl⟩
  obtain ⟨ls, hg, hl⟩ : ∃ ls : Array Slot, entryFrame m ([.ref b, .int x1] : List Value).toArray 2 = F0 m 0 ls [] ∧ lv_has ls 2 [(0, va_rf (some b)), (1, .int x1)] := by
    exact ⟨_, lg_entry_eq .., lv_entry _ (n := 2) (Nat.le_of_ble_eq_true rfl)⟩
  rw [hg]
  exact kX9_afterSweep_0 hX hno hw (jIz.start hH hz0) (lv_sub hl [0, 1] rfl) (by decide) (by decide)
set_option maxHeartbeats 4000000 in
set_option maxRecDepth 100000 in
theorem kL_afterSweep_0 (hX : jX2 D z A p l s m args meth c yL_afterSweep cL_afterSweep 4 wsL_afterSweep (some .int)) (htab : c.exceptionTable.toList = ([⟨0, 8, 11, 21⟩] : List ExceptionTableEntry)) {Q : Int32 → jM → Prop}  {x0 : Option Nat} {x1 : Int32} {x2 : Option Nat} {μ : jM} {H : Heap} {locs : List Loc} {ls : Array Slot} {cells slots : Nat} (hw : wL_afterSweep_0 z Q x0 x1 x2 μ) (hI : jIz D z A s.heap μ H locs) (hl : lv_has ls 4 [(0, va_rf x0), (1, .int x1), (2, va_rf x2)]) (hcn : cells + 1 ≤ 1) (hsn : slots + 6 ≤ 6) : W p l e rmL_afterSweep s m args below meth c H locs cells slots (vx_MQ below (jRz jfI Q D z A) (jXCz (fun _ _ => False) D z A) args s 1 6 A) (F0 m 0 ls []) := by
  unfold wL_afterSweep_0 at hw
  obtain ⟨hx, hb, hml, hown, hts, hr, hlocks, hnm, hK, hG, hfl⟩ := id hX
  have hown : s.vm.findClass RL = some m.cls := hown
  refine j_aload_n (r := x2) hx hb dL_afterSweep_0 rfl (lv_at hl 2 rfl) ?_
  refine lv_iconst (v := (0)) hx hb dL_afterSweep_1 (by decide) ?_
  refine j_aload_n (r := x0) hx hb dL_afterSweep_2 rfl (lv_at hl 0 rfl) ?_
  refine lv_iload_n hx hb dL_afterSweep_3 rfl (lv_at hl 1 rfl) ?_
  obtain ⟨b3, ⟨hrb3, hfs⟩, hw⟩ := hw
  refine j_goXz hI (vx_runV (As := [.int x1]) (rest := [.int (0 : Int32), va_rf x2]) ⟨hx, hb, hml, hown, hts⟩ (kX9_afterSweep l hfl D z b3 x1 μ H.size _ _) (cwV 1 hts gL_afterSweep_X9_afterSweep rfl rfl rfl (by decide +kernel) ⟨Nat.le_of_ble_eq_true rfl, Nat.le_of_ble_eq_true rfl⟩) (j_prV2z hK hG hI hw (ci := 11) rfl hfs) rfl rfl hl.1 (by rw [hrb3]; rfl) (lv_room (by simp only [List.map, List.sum_cons, List.sum_nil, jrc, jci, jcl, jcr, jcn]; exact Nat.le_of_ble_eq_true rfl)) dL_afterSweep_4 ⟨by show _ ≤ 1; omega, by show _ ≤ 6; omega⟩) (fun E ce q9 μX H locs hw hI hce hcv hcl => ?_) (fun v1 μ2 H locs hw hI => ?_)
  · obtain ⟨hw, rfl⟩ := hw
    · have hw := hw rfl
      refine vx_catch hown [] ⟨0, 8, 11, 21⟩ [] (name := "java/lang/IndexOutOfBoundsException") htab (fun z hz => absurd hz List.not_mem_nil) (by decide) (by decide) (hts (.classLink RL 21 "java/lang/IndexOutOfBoundsException") (List.mem_of_getElem? (i := 1) (by decide +kernel))) (va_Nw.use rfl (hG.2.2.2.2.2.2.2.2.1 _ (by decide +kernel))) hce hcv hcl ?_
      refine W.eq (g2 := F0 m 11 ls [va_rf (some q9)]) rfl ?_
      refine j_astore_nA (r := x2) (r0 := (some q9)) (F := fun w => [(0, va_rf x0), (1, .int x1), (2, w)]) (F2 := fun w => [(3, va_rf (some q9)), (0, va_rf x0), (1, .int x1), (2, w)]) hx hb dL_afterSweep_11 rfl hl (by decide) (fun w hw => by rcases hw with rfl | ⟨_, rfl⟩ <;> rfl) (fun ls hl => ?_)
      refine lv_iconst (v := (1)) hx hb dL_afterSweep_12 (by decide) ?_
      exact vx_ret (j_iretz hx hb hr hlocks hI hw (by omega) (by omega) dL_afterSweep_13)
  refine W.eq (g2 := F0 m 7 ls [.long v1, .int (0 : Int32), va_rf x2]) rfl ?_
  obtain ⟨μ4, hμ4, hw⟩ := hw
  refine j_lastz (r := x2) hx hb hK hI hμ4 dL_afterSweep_7 (fun H locs hI => ?_)
  refine lv_goto (tgt := 14) hx hb dL_afterSweep_8 (by decide) ?_
  refine lv_iconst (v := (0)) hx hb dL_afterSweep_14 (by decide) ?_
  exact vx_ret (j_iretz hx hb hr hlocks hI hw (by omega) (by omega) dL_afterSweep_15)
set_option maxHeartbeats 4000000 in
set_option maxRecDepth 100000 in
theorem kL_afterSweep (l : Launch) (hfl : l.stackTraces = false) (D : jD) (z : Nat × Nat) (x0 : Option Nat) (x1 : Int32) (x2 : Option Nat) (μ : jM) (sz : Nat) (Q : Int32 → jM → Prop) : vx_Met l yL_afterSweep wsL_afterSweep rmL_afterSweep (jPre2z D z μ sz [va_rf x0, .int x1, va_rf x2] (wL_afterSweep z x0 x1 x2 μ Q)) (jRz jfI Q D z (jA z μ sz)) (jXCz (fun _ _ => False) D z (jA z μ sz)) 1 6 (jA z μ sz) := by
  refine vx_ofWH (cc := cL_afterSweep) (maxL := 4) (ret := (some .int)) (by decide) rfl ?_
  intro p e s m args below meth c s₁ B hml hv
  obtain ⟨rfl, hsz, hH, hz0, hK, hG, hw⟩ := hv
  subst hsz
  have hX : jX2 D z (jA z μ s.heap.size) p l s m _ meth c yL_afterSweep cL_afterSweep 4 wsL_afterSweep (some .int) := ⟨B.exec, B.bytes, hml, findClass_of_methodNamed B.named, atoms_spec (ws := wsL_afterSweep) B.pre, B.returns, B.notSynchronized, (name_of_methodNamed B.named B.method).1, hK, hG, hfl⟩
  obtain ⟨ls, hg, hl⟩ : ∃ ls : Array Slot, entryFrame m ([va_rf x0, .int x1, va_rf x2] : List Value).toArray 4 = F0 m 0 ls [] ∧ lv_has ls 4 [(0, va_rf x0), (1, .int x1), (2, va_rf x2)] := by
    cases x0 <;> cases x2 <;> exact ⟨_, lg_entry_eq .., lv_entry _ (n := 4) (Nat.le_of_ble_eq_true rfl)⟩
  rw [hg]
  exact kL_afterSweep_0 hX ((vx_table (x := yL_afterSweep) B (atoms_spec (ws := wsL_afterSweep) B.pre _ (List.mem_of_getElem? (i := 0) rfl))).trans rfl) hw (jIz.start hH hz0) (lv_sub hl [0, 1, 2] rfl) (by decide) (by decide)
set_option maxHeartbeats 4000000 in
set_option maxRecDepth 100000 in
theorem kX0_keep_0 {b : Nat} (hX : jX2 D z A p l s m args meth c yX0_keep cX0_keep 1 wsX0_keep none) {Q : Unit → jM → Prop}   {μ : jM} {H : Heap} {locs : List Loc} {ls : Array Slot} {cells slots : Nat} (hw : wX0_keep_0 z b Q  μ) (hI : jIz D z A s.heap μ H locs) (hl : lv_has ls 1 [(0, va_rf (some b))]) (hcn : cells + 0 ≤ 0) (hsn : slots + 0 ≤ 0) : W p l e rmX0_keep s m args below meth c H locs cells slots (MQ below (jRz jfV Q D z A) args s 0 0 A) (F0 m 0 ls []) := by
  unfold wX0_keep_0 at hw
  obtain ⟨hx, hb, hml, hown, hts, hr, hlocks, hnm, hK, hG, hfl⟩ := id hX
  have hown : s.vm.findClass RX0 = some m.cls := hown
  have hfX0 : ∀ w ∈ wsX00, w.before args s = true := fun w h => hts w (List.mem_cons_of_mem _ (List.mem_append_right _ h))
  refine j_aload_n (r := (some b)) hx hb dX0_keep_0 rfl (lv_at hl 0 rfl) ?_
  refine j_aload_n (r := (some b)) hx hb dX0_keep_1 rfl (lv_at hl 0 rfl) ?_
  obtain ⟨v1, hv1, hw⟩ := hw
  refine j_getz (C := RX0) (T := TX0) (N := 12) (ci := 3) (r := (some b)) (v := .long v1) hx hb hfX0 hown hK hI rfl 8 (by decide) (hts (.fieldLink RX0 47 "CashPools$Account" "cash" "J") (List.mem_of_getElem? (i := 1) (by decide +kernel))) (fun _ h => h) hv1 dX0_keep_2 ?_
  obtain ⟨μ2, hμ2, hw⟩ := hw
  refine j_putz (C := RX0) (T := TX0) (N := 12) (ci := 3) (r := (some b)) (v := .long v1) hx hb hfX0 tyX0 tyX0_ok nmX0 hown hK hI rfl 10 (by decide) (hts (.fieldLink RX0 54 "CashPools$Account" "keptCash" "J") (List.mem_of_getElem? (i := 2) (by decide +kernel))) (fun _ h => h) rfl (tyX0_ok 10 (by decide)) rfl rfl hμ2 dX0_keep_5 (fun H locs hI => ?_)
  refine j_aload_n (r := (some b)) hx hb dX0_keep_8 rfl (lv_at hl 0 rfl) ?_
  refine j_aload_n (r := (some b)) hx hb dX0_keep_9 rfl (lv_at hl 0 rfl) ?_
  obtain ⟨v3, hv3, hw⟩ := hw
  refine j_getz (C := RX0) (T := TX0) (N := 12) (ci := 3) (r := (some b)) (v := .long v3) hx hb hfX0 hown hK hI rfl 9 (by decide) (hts (.fieldLink RX0 51 "CashPools$Account" "interest" "J") (List.mem_of_getElem? (i := 3) (by decide +kernel))) (fun _ h => h) hv3 dX0_keep_10 ?_
  obtain ⟨μ4, hμ4, hw⟩ := hw
  refine j_putz (C := RX0) (T := TX0) (N := 12) (ci := 3) (r := (some b)) (v := .long v3) hx hb hfX0 tyX0 tyX0_ok nmX0 hown hK hI rfl 11 (by decide) (hts (.fieldLink RX0 57 "CashPools$Account" "keptInterest" "J") (List.mem_of_getElem? (i := 4) (by decide +kernel))) (fun _ h => h) rfl (tyX0_ok 11 (by decide)) rfl rfl hμ4 dX0_keep_13 (fun H locs hI => ?_)
  exact j_vretz hx hb hr hlocks hI hw (by omega) (by omega) dX0_keep_16
set_option maxHeartbeats 4000000 in
set_option maxRecDepth 100000 in
theorem kX0_keep (l : Launch) (hfl : l.stackTraces = false) (D : jD) (z : Nat × Nat) (b : Nat)  (μ : jM) (sz : Nat) (Q : Unit → jM → Prop) : Met l yX0_keep wsX0_keep rmX0_keep (jPre2z D z μ sz [.ref b] (wX0_keep z b  μ Q)) (jRz jfV Q D z (jA z μ sz)) 0 0 (jA z μ sz) := by
  refine Met.ofW (cc := cX0_keep) (maxL := 1) (ret := none) (by decide) rfl ?_
  intro p e s m args below meth c s₁ B hml hv
  obtain ⟨rfl, hsz, hH, hz0, hK, hG, hw⟩ := hv
  subst hsz
  have hX : jX2 D z (jA z μ s.heap.size) p l s m _ meth c yX0_keep cX0_keep 1 wsX0_keep none := ⟨B.exec, B.bytes, hml, findClass_of_methodNamed B.named, atoms_spec (ws := wsX0_keep) B.pre, B.returns, B.notSynchronized, (name_of_methodNamed B.named B.method).1, hK, hG, hfl⟩
  obtain ⟨ls, hg, hl⟩ : ∃ ls : Array Slot, entryFrame m ([.ref b] : List Value).toArray 1 = F0 m 0 ls [] ∧ lv_has ls 1 [(0, va_rf (some b))] := by
    exact ⟨_, lg_entry_eq .., lv_entry _ (n := 1) (Nat.le_of_ble_eq_true rfl)⟩
  rw [hg]
  exact kX0_keep_0 hX hw (jIz.start hH hz0) (lv_sub hl [0] rfl) (by decide) (by decide)
set_option maxHeartbeats 4000000 in
set_option maxRecDepth 100000 in
theorem kX7_keep_0 {b : Nat} (hX : jX2 D z A p l s m args meth c yX7_keep cX7_keep 1 wsX7_keep none) {Q : Unit → jM → Prop}   {μ : jM} {H : Heap} {locs : List Loc} {ls : Array Slot} {cells slots : Nat} (hw : wX7_keep_0 z b Q  μ) (hI : jIz D z A s.heap μ H locs) (hl : lv_has ls 1 [(0, va_rf (some b))]) (hcn : cells + 0 ≤ 0) (hsn : slots + 0 ≤ 0) : W p l e rmX7_keep s m args below meth c H locs cells slots (MQ below (jRz jfV Q D z A) args s 0 0 A) (F0 m 0 ls []) := by
  unfold wX7_keep_0 at hw
  obtain ⟨hx, hb, hml, hown, hts, hr, hlocks, hnm, hK, hG, hfl⟩ := id hX
  have hown : s.vm.findClass RX7 = some m.cls := hown
  have hfX7 : ∀ w ∈ wsX70, w.before args s = true := fun w h => hts w (List.mem_cons_of_mem _ (List.mem_append_right _ h))
  refine j_aload_n (r := (some b)) hx hb dX7_keep_0 rfl (lv_at hl 0 rfl) ?_
  refine j_aload_n (r := (some b)) hx hb dX7_keep_1 rfl (lv_at hl 0 rfl) ?_
  obtain ⟨v1, hv1, hw⟩ := hw
  refine j_getz (C := RX7) (T := TX7) (N := 10) (ci := 10) (r := (some b)) (v := .long v1) hx hb hfX7 hown hK hI rfl 2 (by decide) (hts (.fieldLink RX7 31 "CashPools$Side" "sum" "J") (List.mem_of_getElem? (i := 1) (by decide +kernel))) (fun _ h => h) hv1 dX7_keep_2 ?_
  obtain ⟨μ2, hμ2, hw⟩ := hw
  refine j_putz (C := RX7) (T := TX7) (N := 10) (ci := 10) (r := (some b)) (v := .long v1) hx hb hfX7 tyX7 tyX7_ok nmX7 hown hK hI rfl 7 (by decide) (hts (.fieldLink RX7 73 "CashPools$Side" "keptSum" "J") (List.mem_of_getElem? (i := 2) (by decide +kernel))) (fun _ h => h) rfl (tyX7_ok 7 (by decide)) rfl rfl hμ2 dX7_keep_5 (fun H locs hI => ?_)
  refine j_aload_n (r := (some b)) hx hb dX7_keep_8 rfl (lv_at hl 0 rfl) ?_
  refine j_aload_n (r := (some b)) hx hb dX7_keep_9 rfl (lv_at hl 0 rfl) ?_
  obtain ⟨v3, hv3, hw⟩ := hw
  refine j_getz (C := RX7) (T := TX7) (N := 10) (ci := 10) (r := (some b)) (v := .long v3) hx hb hfX7 hown hK hI rfl 3 (by decide) (hts (.fieldLink RX7 58 "CashPools$Side" "booked" "J") (List.mem_of_getElem? (i := 3) (by decide +kernel))) (fun _ h => h) hv3 dX7_keep_10 ?_
  obtain ⟨μ4, hμ4, hw⟩ := hw
  refine j_putz (C := RX7) (T := TX7) (N := 10) (ci := 10) (r := (some b)) (v := .long v3) hx hb hfX7 tyX7 tyX7_ok nmX7 hown hK hI rfl 8 (by decide) (hts (.fieldLink RX7 76 "CashPools$Side" "keptBooked" "J") (List.mem_of_getElem? (i := 4) (by decide +kernel))) (fun _ h => h) rfl (tyX7_ok 8 (by decide)) rfl rfl hμ4 dX7_keep_13 (fun H locs hI => ?_)
  refine j_aload_n (r := (some b)) hx hb dX7_keep_16 rfl (lv_at hl 0 rfl) ?_
  obtain ⟨v5, hv5, hw⟩ := hw
  refine j_getz (C := RX7) (T := TX7) (N := 10) (ci := 10) (r := (some b)) (v := va_rf v5) hx hb hfX7 hown hK hI rfl 4 (by decide) (hts (.fieldLink RX7 9 "CashPools$Side" "weights" "[J") (List.mem_of_getElem? (i := 5) (by decide +kernel))) (fun _ h => h) hv5 dX7_keep_17 ?_
  refine lv_iconst (v := (0)) hx hb dX7_keep_20 (by decide) ?_
  refine j_aload_n (r := (some b)) hx hb dX7_keep_21 rfl (lv_at hl 0 rfl) ?_
  obtain ⟨v6, hv6, hw⟩ := hw
  refine j_getz (C := RX7) (T := TX7) (N := 10) (ci := 10) (r := (some b)) (v := va_rf v6) hx hb hfX7 hown hK hI rfl 9 (by decide) (hts (.fieldLink RX7 21 "CashPools$Side" "keptWeights" "[J") (List.mem_of_getElem? (i := 6) (by decide +kernel))) (fun _ h => h) hv6 dX7_keep_22 ?_
  refine lv_iconst (v := (0)) hx hb dX7_keep_25 (by decide) ?_
  refine lv_bipush (v := (10)) hx hb dX7_keep_26 (by decide) ?_
  obtain ⟨μ7, hμ7, hw⟩ := hw
  refine j_copyjz (r0 := v5) (r1 := v6) hx hb (by rw [hml]; exact hl.1.symm) hown (hts (.methodLink RX7 79 arraycopyName) (List.mem_of_getElem? (i := 7) (by decide +kernel))) (hts (.native arraycopyName) (List.mem_of_getElem? (i := 8) (by decide +kernel))) (hts (.static arraycopyName) (List.mem_of_getElem? (i := 9) (by decide +kernel))) (hts (.initialized "java/lang/System") (List.mem_of_getElem? (i := 10) (by decide +kernel))) hK hI hμ7 (Nat.le_of_ble_eq_true rfl) (by simp only [List.map, List.sum_cons, List.sum_nil, jrc, jci, jcl, jcr, jcn]; exact Nat.le_of_ble_eq_true rfl) dX7_keep_28 (fun H locs hI => ?_)
  exact j_vretz hx hb hr hlocks hI hw (by omega) (by omega) dX7_keep_31
set_option maxHeartbeats 4000000 in
set_option maxRecDepth 100000 in
theorem kX7_keep (l : Launch) (hfl : l.stackTraces = false) (D : jD) (z : Nat × Nat) (b : Nat)  (μ : jM) (sz : Nat) (Q : Unit → jM → Prop) : Met l yX7_keep wsX7_keep rmX7_keep (jPre2z D z μ sz [.ref b] (wX7_keep z b  μ Q)) (jRz jfV Q D z (jA z μ sz)) 0 0 (jA z μ sz) := by
  refine Met.ofW (cc := cX7_keep) (maxL := 1) (ret := none) (by decide) rfl ?_
  intro p e s m args below meth c s₁ B hml hv
  obtain ⟨rfl, hsz, hH, hz0, hK, hG, hw⟩ := hv
  subst hsz
  have hX : jX2 D z (jA z μ s.heap.size) p l s m _ meth c yX7_keep cX7_keep 1 wsX7_keep none := ⟨B.exec, B.bytes, hml, findClass_of_methodNamed B.named, atoms_spec (ws := wsX7_keep) B.pre, B.returns, B.notSynchronized, (name_of_methodNamed B.named B.method).1, hK, hG, hfl⟩
  obtain ⟨ls, hg, hl⟩ : ∃ ls : Array Slot, entryFrame m ([.ref b] : List Value).toArray 1 = F0 m 0 ls [] ∧ lv_has ls 1 [(0, va_rf (some b))] := by
    exact ⟨_, lg_entry_eq .., lv_entry _ (n := 1) (Nat.le_of_ble_eq_true rfl)⟩
  rw [hg]
  exact kX7_keep_0 hX hw (jIz.start hH hz0) (lv_sub hl [0] rfl) (by decide) (by decide)
set_option maxHeartbeats 4000000 in
set_option maxRecDepth 100000 in
theorem kX6_keep_0 {b : Nat} (hX : jX2 D z A p l s m args meth c yX6_keep cX6_keep 1 wsX6_keep none) {Q : Unit → jM → Prop}   {μ : jM} {H : Heap} {locs : List Loc} {ls : Array Slot} {cells slots : Nat} (hw : wX6_keep_0 z b Q  μ) (hI : jIz D z A s.heap μ H locs) (hl : lv_has ls 1 [(0, va_rf (some b))]) (hcn : cells + 0 ≤ 0) (hsn : slots + 0 ≤ 0) : W p l e rmX6_keep s m args below meth c H locs cells slots (MQ below (jRz jfV Q D z A) args s 0 0 A) (F0 m 0 ls []) := by
  unfold wX6_keep_0 at hw
  obtain ⟨hx, hb, hml, hown, hts, hr, hlocks, hnm, hK, hG, hfl⟩ := id hX
  have hown : s.vm.findClass RX6 = some m.cls := hown
  have hfX6 : ∀ w ∈ wsX60, w.before args s = true := fun w h => hts w (List.mem_cons_of_mem _ (List.mem_append_left _ (List.mem_append_right _ h)))
  refine j_aload_n (r := (some b)) hx hb dX6_keep_0 rfl (lv_at hl 0 rfl) ?_
  obtain ⟨v1, hv1, hw⟩ := hw
  refine j_getz (C := RX6) (T := TX6) (N := 5) (ci := 9) (r := (some b)) (v := va_rf v1) hx hb hfX6 hown hK hI rfl 1 (by decide) (hts (.fieldLink RX6 28 "CashPools$Pool" "credit" "LCashPools$Side;") (List.mem_of_getElem? (i := 1) (by decide +kernel))) (fun _ h => h) hv1 dX6_keep_1 ?_
  obtain ⟨b4, ⟨hrb4, hfs⟩, hw⟩ := hw
  refine j_goz hI (va_runV (As := []) (rest := []) ⟨hx, hb, hml, hown, hts⟩ (kX7_keep l hfl D z b4  μ H.size _) (cwV 0 hts gX6_keep_X7_keep rfl rfl rfl (by decide +kernel) ⟨Nat.le_of_ble_eq_true rfl, Nat.le_of_ble_eq_true rfl⟩) (j_prV2z hK hG hI hw (ci := 10) rfl hfs) rfl rfl hl.1 (by rw [hrb4]; rfl) (lv_room (Nat.le_of_ble_eq_true rfl)) dX6_keep_4 ⟨by show _ ≤ 0; omega, by show _ ≤ 0; omega⟩) (fun u2 μ3 H locs hw hI => ?_)
  refine W.eq (g2 := F0 m 7 ls []) rfl ?_
  refine j_aload_n (r := (some b)) hx hb dX6_keep_7 rfl (lv_at hl 0 rfl) ?_
  obtain ⟨v5, hv5, hw⟩ := hw
  refine j_getz (C := RX6) (T := TX6) (N := 5) (ci := 9) (r := (some b)) (v := va_rf v5) hx hb hfX6 hown hK hI rfl 2 (by decide) (hts (.fieldLink RX6 32 "CashPools$Pool" "debit" "LCashPools$Side;") (List.mem_of_getElem? (i := 2) (by decide +kernel))) (fun _ h => h) hv5 dX6_keep_8 ?_
  obtain ⟨b8, ⟨hrb8, hfs⟩, hw⟩ := hw
  refine j_goz hI (va_runV (As := []) (rest := []) ⟨hx, hb, hml, hown, hts⟩ (kX7_keep l hfl D z b8  μ3 H.size _) (cwV 0 hts gX6_keep_X7_keep rfl rfl rfl (by decide +kernel) ⟨Nat.le_of_ble_eq_true rfl, Nat.le_of_ble_eq_true rfl⟩) (j_prV2z hK hG hI hw (ci := 10) rfl hfs) rfl rfl hl.1 (by rw [hrb8]; rfl) (lv_room (Nat.le_of_ble_eq_true rfl)) dX6_keep_11 ⟨by show _ ≤ 0; omega, by show _ ≤ 0; omega⟩) (fun u6 μ7 H locs hw hI => ?_)
  refine W.eq (g2 := F0 m 14 ls []) rfl ?_
  exact j_vretz hx hb hr hlocks hI hw (by omega) (by omega) dX6_keep_14
set_option maxHeartbeats 4000000 in
set_option maxRecDepth 100000 in
theorem kX6_keep (l : Launch) (hfl : l.stackTraces = false) (D : jD) (z : Nat × Nat) (b : Nat)  (μ : jM) (sz : Nat) (Q : Unit → jM → Prop) : Met l yX6_keep wsX6_keep rmX6_keep (jPre2z D z μ sz [.ref b] (wX6_keep z b  μ Q)) (jRz jfV Q D z (jA z μ sz)) 0 0 (jA z μ sz) := by
  refine Met.ofW (cc := cX6_keep) (maxL := 1) (ret := none) (by decide) rfl ?_
  intro p e s m args below meth c s₁ B hml hv
  obtain ⟨rfl, hsz, hH, hz0, hK, hG, hw⟩ := hv
  subst hsz
  have hX : jX2 D z (jA z μ s.heap.size) p l s m _ meth c yX6_keep cX6_keep 1 wsX6_keep none := ⟨B.exec, B.bytes, hml, findClass_of_methodNamed B.named, atoms_spec (ws := wsX6_keep) B.pre, B.returns, B.notSynchronized, (name_of_methodNamed B.named B.method).1, hK, hG, hfl⟩
  obtain ⟨ls, hg, hl⟩ : ∃ ls : Array Slot, entryFrame m ([.ref b] : List Value).toArray 1 = F0 m 0 ls [] ∧ lv_has ls 1 [(0, va_rf (some b))] := by
    exact ⟨_, lg_entry_eq .., lv_entry _ (n := 1) (Nat.le_of_ble_eq_true rfl)⟩
  rw [hg]
  exact kX6_keep_0 hX hw (jIz.start hH hz0) (lv_sub hl [0] rfl) (by decide) (by decide)
set_option maxHeartbeats 4000000 in
set_option maxRecDepth 100000 in
theorem kX5_keep_0 {b : Nat} (hX : jX2 D z A p l s m args meth c yX5_keep cX5_keep 1 wsX5_keep none) {Q : Unit → jM → Prop}   {μ : jM} {H : Heap} {locs : List Loc} {ls : Array Slot} {cells slots : Nat} (hw : wX5_keep_0 z b Q  μ) (hI : jIz D z A s.heap μ H locs) (hl : lv_has ls 1 [(0, va_rf (some b))]) (hcn : cells + 0 ≤ 0) (hsn : slots + 0 ≤ 0) : W p l e rmX5_keep s m args below meth c H locs cells slots (MQ below (jRz jfV Q D z A) args s 0 0 A) (F0 m 0 ls []) := by
  unfold wX5_keep_0 at hw
  obtain ⟨hx, hb, hml, hown, hts, hr, hlocks, hnm, hK, hG, hfl⟩ := id hX
  have hown : s.vm.findClass RX5 = some m.cls := hown
  have hfX5 : ∀ w ∈ wsX50, w.before args s = true := fun w h => hts w (List.mem_cons_of_mem _ (List.mem_append_right _ h))
  refine j_aload_n (r := (some b)) hx hb dX5_keep_0 rfl (lv_at hl 0 rfl) ?_
  refine j_aload_n (r := (some b)) hx hb dX5_keep_1 rfl (lv_at hl 0 rfl) ?_
  obtain ⟨v1, hv1, hw⟩ := hw
  refine j_getz (C := RX5) (T := TX5) (N := 9) (ci := 8) (r := (some b)) (v := .long v1) hx hb hfX5 hown hK hI rfl 3 (by decide) (hts (.fieldLink RX5 26 "CashPools$Line" "used" "J") (List.mem_of_getElem? (i := 1) (by decide +kernel))) (fun _ h => h) hv1 dX5_keep_2 ?_
  obtain ⟨μ2, hμ2, hw⟩ := hw
  refine j_putz (C := RX5) (T := TX5) (N := 9) (ci := 8) (r := (some b)) (v := .long v1) hx hb hfX5 tyX5 tyX5_ok nmX5 hown hK hI rfl 6 (by decide) (hts (.fieldLink RX5 39 "CashPools$Line" "keptUsed" "J") (List.mem_of_getElem? (i := 2) (by decide +kernel))) (fun _ h => h) rfl (tyX5_ok 6 (by decide)) rfl rfl hμ2 dX5_keep_5 (fun H locs hI => ?_)
  refine j_aload_n (r := (some b)) hx hb dX5_keep_8 rfl (lv_at hl 0 rfl) ?_
  refine j_aload_n (r := (some b)) hx hb dX5_keep_9 rfl (lv_at hl 0 rfl) ?_
  obtain ⟨v3, hv3, hw⟩ := hw
  refine j_getz (C := RX5) (T := TX5) (N := 9) (ci := 8) (r := (some b)) (v := .long v3) hx hb hfX5 hown hK hI rfl 4 (by decide) (hts (.fieldLink RX5 31 "CashPools$Line" "cost" "J") (List.mem_of_getElem? (i := 3) (by decide +kernel))) (fun _ h => h) hv3 dX5_keep_10 ?_
  obtain ⟨μ4, hμ4, hw⟩ := hw
  refine j_putz (C := RX5) (T := TX5) (N := 9) (ci := 8) (r := (some b)) (v := .long v3) hx hb hfX5 tyX5 tyX5_ok nmX5 hown hK hI rfl 7 (by decide) (hts (.fieldLink RX5 42 "CashPools$Line" "keptCost" "J") (List.mem_of_getElem? (i := 4) (by decide +kernel))) (fun _ h => h) rfl (tyX5_ok 7 (by decide)) rfl rfl hμ4 dX5_keep_13 (fun H locs hI => ?_)
  refine j_aload_n (r := (some b)) hx hb dX5_keep_16 rfl (lv_at hl 0 rfl) ?_
  refine j_aload_n (r := (some b)) hx hb dX5_keep_17 rfl (lv_at hl 0 rfl) ?_
  obtain ⟨v5, hv5, hw⟩ := hw
  refine j_getz (C := RX5) (T := TX5) (N := 9) (ci := 8) (r := (some b)) (v := .long v5) hx hb hfX5 hown hK hI rfl 5 (by decide) (hts (.fieldLink RX5 22 "CashPools$Line" "sum" "J") (List.mem_of_getElem? (i := 5) (by decide +kernel))) (fun _ h => h) hv5 dX5_keep_18 ?_
  obtain ⟨μ6, hμ6, hw⟩ := hw
  refine j_putz (C := RX5) (T := TX5) (N := 9) (ci := 8) (r := (some b)) (v := .long v5) hx hb hfX5 tyX5 tyX5_ok nmX5 hown hK hI rfl 8 (by decide) (hts (.fieldLink RX5 45 "CashPools$Line" "keptSum" "J") (List.mem_of_getElem? (i := 6) (by decide +kernel))) (fun _ h => h) rfl (tyX5_ok 8 (by decide)) rfl rfl hμ6 dX5_keep_21 (fun H locs hI => ?_)
  exact j_vretz hx hb hr hlocks hI hw (by omega) (by omega) dX5_keep_24
set_option maxHeartbeats 4000000 in
set_option maxRecDepth 100000 in
theorem kX5_keep (l : Launch) (hfl : l.stackTraces = false) (D : jD) (z : Nat × Nat) (b : Nat)  (μ : jM) (sz : Nat) (Q : Unit → jM → Prop) : Met l yX5_keep wsX5_keep rmX5_keep (jPre2z D z μ sz [.ref b] (wX5_keep z b  μ Q)) (jRz jfV Q D z (jA z μ sz)) 0 0 (jA z μ sz) := by
  refine Met.ofW (cc := cX5_keep) (maxL := 1) (ret := none) (by decide) rfl ?_
  intro p e s m args below meth c s₁ B hml hv
  obtain ⟨rfl, hsz, hH, hz0, hK, hG, hw⟩ := hv
  subst hsz
  have hX : jX2 D z (jA z μ s.heap.size) p l s m _ meth c yX5_keep cX5_keep 1 wsX5_keep none := ⟨B.exec, B.bytes, hml, findClass_of_methodNamed B.named, atoms_spec (ws := wsX5_keep) B.pre, B.returns, B.notSynchronized, (name_of_methodNamed B.named B.method).1, hK, hG, hfl⟩
  obtain ⟨ls, hg, hl⟩ : ∃ ls : Array Slot, entryFrame m ([.ref b] : List Value).toArray 1 = F0 m 0 ls [] ∧ lv_has ls 1 [(0, va_rf (some b))] := by
    exact ⟨_, lg_entry_eq .., lv_entry _ (n := 1) (Nat.le_of_ble_eq_true rfl)⟩
  rw [hg]
  exact kX5_keep_0 hX hw (jIz.start hH hz0) (lv_sub hl [0] rfl) (by decide) (by decide)
set_option maxHeartbeats 4000000 in
set_option maxRecDepth 100000 in
theorem kX4_keep_0 {b : Nat} (hX : jX2 D z A p l s m args meth c yX4_keep cX4_keep 1 wsX4_keep none) {Q : Unit → jM → Prop}   {μ : jM} {H : Heap} {locs : List Loc} {ls : Array Slot} {cells slots : Nat} (hw : wX4_keep_0 z b Q  μ) (hI : jIz D z A s.heap μ H locs) (hl : lv_has ls 1 [(0, va_rf (some b))]) (hcn : cells + 0 ≤ 0) (hsn : slots + 0 ≤ 0) : W p l e rmX4_keep s m args below meth c H locs cells slots (MQ below (jRz jfV Q D z A) args s 0 0 A) (F0 m 0 ls []) := by
  unfold wX4_keep_0 at hw
  obtain ⟨hx, hb, hml, hown, hts, hr, hlocks, hnm, hK, hG, hfl⟩ := id hX
  have hown : s.vm.findClass RX4 = some m.cls := hown
  have hfX4 : ∀ w ∈ wsX40, w.before args s = true := fun w h => hts w (List.mem_cons_of_mem _ (List.mem_append_right _ h))
  refine j_aload_n (r := (some b)) hx hb dX4_keep_0 rfl (lv_at hl 0 rfl) ?_
  refine j_aload_n (r := (some b)) hx hb dX4_keep_1 rfl (lv_at hl 0 rfl) ?_
  obtain ⟨v1, hv1, hw⟩ := hw
  refine j_getz (C := RX4) (T := TX4) (N := 7) (ci := 7) (r := (some b)) (v := .int v1) hx hb hfX4 hown hK hI rfl 3 (by decide) (hts (.fieldLink RX4 20 "CashPools$Flow" "due" "I") (List.mem_of_getElem? (i := 1) (by decide +kernel))) (fun _ h => h) hv1 dX4_keep_2 ?_
  obtain ⟨μ2, hμ2, hw⟩ := hw
  refine j_putz (C := RX4) (T := TX4) (N := 7) (ci := 7) (r := (some b)) (v := .int v1) hx hb hfX4 tyX4 tyX4_ok nmX4 hown hK hI rfl 5 (by decide) (hts (.fieldLink RX4 38 "CashPools$Flow" "keptDue" "I") (List.mem_of_getElem? (i := 2) (by decide +kernel))) (fun _ h => h) rfl (tyX4_ok 5 (by decide)) rfl rfl hμ2 dX4_keep_5 (fun H locs hI => ?_)
  refine j_aload_n (r := (some b)) hx hb dX4_keep_8 rfl (lv_at hl 0 rfl) ?_
  refine j_aload_n (r := (some b)) hx hb dX4_keep_9 rfl (lv_at hl 0 rfl) ?_
  obtain ⟨v3, hv3, hw⟩ := hw
  refine j_getz (C := RX4) (T := TX4) (N := 7) (ci := 7) (r := (some b)) (v := .int v3) hx hb hfX4 hown hK hI rfl 4 (by decide) (hts (.fieldLink RX4 23 "CashPools$Flow" "left" "I") (List.mem_of_getElem? (i := 3) (by decide +kernel))) (fun _ h => h) hv3 dX4_keep_10 ?_
  obtain ⟨μ4, hμ4, hw⟩ := hw
  refine j_putz (C := RX4) (T := TX4) (N := 7) (ci := 7) (r := (some b)) (v := .int v3) hx hb hfX4 tyX4 tyX4_ok nmX4 hown hK hI rfl 6 (by decide) (hts (.fieldLink RX4 41 "CashPools$Flow" "keptLeft" "I") (List.mem_of_getElem? (i := 4) (by decide +kernel))) (fun _ h => h) rfl (tyX4_ok 6 (by decide)) rfl rfl hμ4 dX4_keep_13 (fun H locs hI => ?_)
  exact j_vretz hx hb hr hlocks hI hw (by omega) (by omega) dX4_keep_16
set_option maxHeartbeats 4000000 in
set_option maxRecDepth 100000 in
theorem kX4_keep (l : Launch) (hfl : l.stackTraces = false) (D : jD) (z : Nat × Nat) (b : Nat)  (μ : jM) (sz : Nat) (Q : Unit → jM → Prop) : Met l yX4_keep wsX4_keep rmX4_keep (jPre2z D z μ sz [.ref b] (wX4_keep z b  μ Q)) (jRz jfV Q D z (jA z μ sz)) 0 0 (jA z μ sz) := by
  refine Met.ofW (cc := cX4_keep) (maxL := 1) (ret := none) (by decide) rfl ?_
  intro p e s m args below meth c s₁ B hml hv
  obtain ⟨rfl, hsz, hH, hz0, hK, hG, hw⟩ := hv
  subst hsz
  have hX : jX2 D z (jA z μ s.heap.size) p l s m _ meth c yX4_keep cX4_keep 1 wsX4_keep none := ⟨B.exec, B.bytes, hml, findClass_of_methodNamed B.named, atoms_spec (ws := wsX4_keep) B.pre, B.returns, B.notSynchronized, (name_of_methodNamed B.named B.method).1, hK, hG, hfl⟩
  obtain ⟨ls, hg, hl⟩ : ∃ ls : Array Slot, entryFrame m ([.ref b] : List Value).toArray 1 = F0 m 0 ls [] ∧ lv_has ls 1 [(0, va_rf (some b))] := by
    exact ⟨_, lg_entry_eq .., lv_entry _ (n := 1) (Nat.le_of_ble_eq_true rfl)⟩
  rw [hg]
  exact kX4_keep_0 hX hw (jIz.start hH hz0) (lv_sub hl [0] rfl) (by decide) (by decide)
set_option maxHeartbeats 4000000 in
set_option maxRecDepth 100000 in
theorem kX3_keep_112 {b : Nat} (hX : jX2 D z A p l s m args meth c yX3_keep cX3_keep 2 wsX3_keep none) {Q : Unit → jM → Prop}  (n : Nat) : ∀ {x1 : Int32} {μ : jM} {H : Heap} {locs : List Loc} {ls : Array Slot} {cells slots : Nat}, wX3_keep_112 z b Q n x1 μ → jIz D z A s.heap μ H locs → lv_has ls 2 [(0, va_rf (some b)), (1, .int x1)] → cells + 0 ≤ 0 → slots + 0 ≤ 0 → W p l e rmX3_keep s m args below meth c H locs cells slots (MQ below (jRz jfV Q D z A) args s 0 0 A) (F0 m 112 ls []) := by
  induction n with
  | zero =>
    intros
    rename_i hw _ _ _ _
    exact (show False from hw).elim
  | succ n ih =>
    intro x1 μ H locs ls cells slots hw hI hl hcn hsn
    have hw : wX3_keep_112_b z b Q (wX3_keep_112 z b Q n) x1 μ := hw
    unfold wX3_keep_112_b at hw
    obtain ⟨hx, hb, hml, hown, hts, hr, hlocks, hnm, hK, hG, hfl⟩ := id hX
    have hown : s.vm.findClass RX3 = some m.cls := hown
    have hfX3 : ∀ w ∈ wsX30, w.before args s = true := fun w h => hts w (List.mem_cons_of_mem _ (List.mem_append_left _ (List.mem_append_left _ (List.mem_append_left _ (List.mem_append_left _ (List.mem_append_left _ (List.mem_append_left _ (List.mem_append_right _ h))))))))
    refine lv_iload_n hx hb dX3_keep_112 rfl (lv_at hl 1 rfl) ?_
    refine j_aload_n (r := (some b)) hx hb dX3_keep_113 rfl (lv_at hl 0 rfl) ?_
    obtain ⟨v1, hv1, hw⟩ := hw
    refine j_getz (C := RX3) (T := TX3) (N := 8) (ci := 6) (r := (some b)) (v := va_rf v1) hx hb hfX3 hown hK hI rfl 3 (by decide) (hts (.fieldLink RX3 24 "CashPools$Desk" "everyFlow" "Ljava/util/ArrayList;") (List.mem_of_getElem? (i := 9) (by decide +kernel))) (fun _ h => h) hv1 dX3_keep_114 ?_
    obtain ⟨b4, ⟨hrb4, hfs⟩, hw⟩ := hw
    refine j_goz hI (va_runV (As := []) (rest := [.int x1]) ⟨hx, hb, hml, hown, hts⟩ (kJx4a65c_size_8abf5 l hfl D z b4  μ H.size _) (cwV 0 hts gX3_keep_Jx4a65c_size_8abf5 rfl rfl rfl (by decide +kernel) ⟨Nat.le_of_ble_eq_true rfl, Nat.le_of_ble_eq_true rfl⟩) (j_prV2z hK hG hI hw (ci := 2) rfl hfs) rfl rfl hl.1 (by rw [hrb4]; rfl) (lv_room (Nat.le_of_ble_eq_true rfl)) dX3_keep_117 ⟨by show _ ≤ 0; omega, by show _ ≤ 0; omega⟩) (fun v2 μ3 H locs hw hI => ?_)
    refine W.eq (g2 := F0 m 120 ls [.int v2, .int x1]) rfl ?_
    refine lv_icmp_ge (tgt := 143) hx hb dX3_keep_120 (by decide) (fun hc => ?_) (fun hc => ?_)
    · have hw := hw.1 hc
      exact j_vretz hx hb hr hlocks hI hw (by omega) (by omega) dX3_keep_143
    · have hw := hw.2 hc
      refine j_aload_n (r := (some b)) hx hb dX3_keep_123 rfl (lv_at hl 0 rfl) ?_
      obtain ⟨v5, hv5, hw⟩ := hw
      refine j_getz (C := RX3) (T := TX3) (N := 8) (ci := 6) (r := (some b)) (v := va_rf v5) hx hb hfX3 hown hK hI rfl 3 (by decide) (hts (.fieldLink RX3 24 "CashPools$Desk" "everyFlow" "Ljava/util/ArrayList;") (List.mem_of_getElem? (i := 9) (by decide +kernel))) (fun _ h => h) hv5 dX3_keep_124 ?_
      refine lv_iload_n hx hb dX3_keep_127 rfl (lv_at hl 1 rfl) ?_
      obtain ⟨b8, ⟨hrb8, hfs⟩, hw⟩ := hw
      refine j_goz hI (va_runV (As := [.int x1]) (rest := []) ⟨hx, hb, hml, hown, hts⟩ (kJx4a65c_get_915e3 l hfl D z b8 x1 μ3 H.size _) (cwV 1 hts gX3_keep_Jx4a65c_get_915e3 rfl rfl rfl (by decide +kernel) ⟨Nat.le_of_ble_eq_true rfl, Nat.le_of_ble_eq_true rfl⟩) (j_prV2z hK hG hI hw (ci := 2) rfl hfs) rfl rfl hl.1 (by rw [hrb8]; rfl) (lv_room (Nat.le_of_ble_eq_true rfl)) dX3_keep_128 ⟨by show _ ≤ 0; omega, by show _ ≤ 0; omega⟩) (fun v6 μ7 H locs hw hI => ?_)
      refine W.eq (g2 := F0 m 131 ls [va_rf v6]) rfl ?_
      obtain ⟨h9, hw⟩ := hw
      refine j_castz (C := RX4) (T := TX4) (N := 7) (ci := 7) (r := v6) hx hb hown (hts (.classLink RX3 113 "CashPools$Flow") (List.mem_of_getElem? (i := 10) (by decide +kernel))) hK hI rfl h9 dX3_keep_131 ?_
      obtain ⟨b12, ⟨hrb12, hfs⟩, hw⟩ := hw
      refine j_goz hI (va_runV (As := []) (rest := []) ⟨hx, hb, hml, hown, hts⟩ (kX4_keep l hfl D z b12  μ7 H.size _) (cwV 0 hts gX3_keep_X4_keep rfl rfl rfl (by decide +kernel) ⟨Nat.le_of_ble_eq_true rfl, Nat.le_of_ble_eq_true rfl⟩) (j_prV2z hK hG hI hw (ci := 7) rfl hfs) rfl rfl hl.1 (by rw [hrb12]; rfl) (lv_room (Nat.le_of_ble_eq_true rfl)) dX3_keep_134 ⟨by show _ ≤ 0; omega, by show _ ≤ 0; omega⟩) (fun u10 μ11 H locs hw hI => ?_)
      refine W.eq (g2 := F0 m 137 ls []) rfl ?_
      obtain ⟨v13, ev13⟩ : ∃ y : Int32, y = x1 + (1 : Int32) := ⟨_, rfl⟩
      have hw := hw v13 ev13
      refine lv_iinc (v := v13) (lv' := [(1, .int v13), (0, va_rf (some b))]) hx hb dX3_keep_137 hl (k := 1) rfl (by rw [ev13]; rfl) (by decide) rfl (fun ls hl => ?_)
      refine lv_goto (tgt := 112) hx hb dX3_keep_140 (by decide) ?_
      exact ih hw hI (lv_sub hl [1, 0] rfl) (by omega) (by omega)
set_option maxHeartbeats 4000000 in
set_option maxRecDepth 100000 in
theorem kX3_keep_79 {b : Nat} (hX : jX2 D z A p l s m args meth c yX3_keep cX3_keep 2 wsX3_keep none) {Q : Unit → jM → Prop}  (n : Nat) : ∀ {x1 : Int32} {μ : jM} {H : Heap} {locs : List Loc} {ls : Array Slot} {cells slots : Nat}, wX3_keep_79 z b Q n x1 μ → jIz D z A s.heap μ H locs → lv_has ls 2 [(0, va_rf (some b)), (1, .int x1)] → cells + 0 ≤ 0 → slots + 0 ≤ 0 → W p l e rmX3_keep s m args below meth c H locs cells slots (MQ below (jRz jfV Q D z A) args s 0 0 A) (F0 m 79 ls []) := by
  induction n with
  | zero =>
    intros
    rename_i hw _ _ _ _
    exact (show False from hw).elim
  | succ n ih =>
    intro x1 μ H locs ls cells slots hw hI hl hcn hsn
    have hw : wX3_keep_79_b z b Q (wX3_keep_79 z b Q n) x1 μ := hw
    unfold wX3_keep_79_b at hw
    obtain ⟨hx, hb, hml, hown, hts, hr, hlocks, hnm, hK, hG, hfl⟩ := id hX
    have hown : s.vm.findClass RX3 = some m.cls := hown
    have hfX3 : ∀ w ∈ wsX30, w.before args s = true := fun w h => hts w (List.mem_cons_of_mem _ (List.mem_append_left _ (List.mem_append_left _ (List.mem_append_left _ (List.mem_append_left _ (List.mem_append_left _ (List.mem_append_left _ (List.mem_append_right _ h))))))))
    refine lv_iload_n hx hb dX3_keep_79 rfl (lv_at hl 1 rfl) ?_
    refine j_aload_n (r := (some b)) hx hb dX3_keep_80 rfl (lv_at hl 0 rfl) ?_
    obtain ⟨v1, hv1, hw⟩ := hw
    refine j_getz (C := RX3) (T := TX3) (N := 8) (ci := 6) (r := (some b)) (v := va_rf v1) hx hb hfX3 hown hK hI rfl 2 (by decide) (hts (.fieldLink RX3 21 "CashPools$Desk" "everyLine" "Ljava/util/ArrayList;") (List.mem_of_getElem? (i := 7) (by decide +kernel))) (fun _ h => h) hv1 dX3_keep_81 ?_
    obtain ⟨b4, ⟨hrb4, hfs⟩, hw⟩ := hw
    refine j_goz hI (va_runV (As := []) (rest := [.int x1]) ⟨hx, hb, hml, hown, hts⟩ (kJx4a65c_size_8abf5 l hfl D z b4  μ H.size _) (cwV 0 hts gX3_keep_Jx4a65c_size_8abf5 rfl rfl rfl (by decide +kernel) ⟨Nat.le_of_ble_eq_true rfl, Nat.le_of_ble_eq_true rfl⟩) (j_prV2z hK hG hI hw (ci := 2) rfl hfs) rfl rfl hl.1 (by rw [hrb4]; rfl) (lv_room (Nat.le_of_ble_eq_true rfl)) dX3_keep_84 ⟨by show _ ≤ 0; omega, by show _ ≤ 0; omega⟩) (fun v2 μ3 H locs hw hI => ?_)
    refine W.eq (g2 := F0 m 87 ls [.int v2, .int x1]) rfl ?_
    refine lv_icmp_ge (tgt := 110) hx hb dX3_keep_87 (by decide) (fun hc => ?_) (fun hc => ?_)
    · have hw := hw.1 hc
      refine lv_iconst (v := (0)) hx hb dX3_keep_110 (by decide) ?_
      refine lv_topi (fun v5 ev5 => ?_)
      have hw := hw v5 ev5
      refine lv_istore_n (lv' := [(1, .int v5), (0, va_rf (some b))]) hx hb dX3_keep_111 rfl hl (by decide) rfl (fun ls hl => ?_)
      obtain ⟨n6, hw⟩ := hw
      exact kX3_keep_112 hX  n6 hw hI (lv_sub hl [1, 0] rfl) (by omega) (by omega)
    · have hw := hw.2 hc
      refine j_aload_n (r := (some b)) hx hb dX3_keep_90 rfl (lv_at hl 0 rfl) ?_
      obtain ⟨v7, hv7, hw⟩ := hw
      refine j_getz (C := RX3) (T := TX3) (N := 8) (ci := 6) (r := (some b)) (v := va_rf v7) hx hb hfX3 hown hK hI rfl 2 (by decide) (hts (.fieldLink RX3 21 "CashPools$Desk" "everyLine" "Ljava/util/ArrayList;") (List.mem_of_getElem? (i := 7) (by decide +kernel))) (fun _ h => h) hv7 dX3_keep_91 ?_
      refine lv_iload_n hx hb dX3_keep_94 rfl (lv_at hl 1 rfl) ?_
      obtain ⟨b10, ⟨hrb10, hfs⟩, hw⟩ := hw
      refine j_goz hI (va_runV (As := [.int x1]) (rest := []) ⟨hx, hb, hml, hown, hts⟩ (kJx4a65c_get_915e3 l hfl D z b10 x1 μ3 H.size _) (cwV 1 hts gX3_keep_Jx4a65c_get_915e3 rfl rfl rfl (by decide +kernel) ⟨Nat.le_of_ble_eq_true rfl, Nat.le_of_ble_eq_true rfl⟩) (j_prV2z hK hG hI hw (ci := 2) rfl hfs) rfl rfl hl.1 (by rw [hrb10]; rfl) (lv_room (Nat.le_of_ble_eq_true rfl)) dX3_keep_95 ⟨by show _ ≤ 0; omega, by show _ ≤ 0; omega⟩) (fun v8 μ9 H locs hw hI => ?_)
      refine W.eq (g2 := F0 m 98 ls [va_rf v8]) rfl ?_
      obtain ⟨h11, hw⟩ := hw
      refine j_castz (C := RX5) (T := TX5) (N := 9) (ci := 8) (r := v8) hx hb hown (hts (.classLink RX3 74 "CashPools$Line") (List.mem_of_getElem? (i := 8) (by decide +kernel))) hK hI rfl h11 dX3_keep_98 ?_
      obtain ⟨b14, ⟨hrb14, hfs⟩, hw⟩ := hw
      refine j_goz hI (va_runV (As := []) (rest := []) ⟨hx, hb, hml, hown, hts⟩ (kX5_keep l hfl D z b14  μ9 H.size _) (cwV 0 hts gX3_keep_X5_keep rfl rfl rfl (by decide +kernel) ⟨Nat.le_of_ble_eq_true rfl, Nat.le_of_ble_eq_true rfl⟩) (j_prV2z hK hG hI hw (ci := 8) rfl hfs) rfl rfl hl.1 (by rw [hrb14]; rfl) (lv_room (Nat.le_of_ble_eq_true rfl)) dX3_keep_101 ⟨by show _ ≤ 0; omega, by show _ ≤ 0; omega⟩) (fun u12 μ13 H locs hw hI => ?_)
      refine W.eq (g2 := F0 m 104 ls []) rfl ?_
      obtain ⟨v15, ev15⟩ : ∃ y : Int32, y = x1 + (1 : Int32) := ⟨_, rfl⟩
      have hw := hw v15 ev15
      refine lv_iinc (v := v15) (lv' := [(1, .int v15), (0, va_rf (some b))]) hx hb dX3_keep_104 hl (k := 1) rfl (by rw [ev15]; rfl) (by decide) rfl (fun ls hl => ?_)
      refine lv_goto (tgt := 79) hx hb dX3_keep_107 (by decide) ?_
      exact ih hw hI (lv_sub hl [1, 0] rfl) (by omega) (by omega)
set_option maxHeartbeats 4000000 in
set_option maxRecDepth 100000 in
theorem kX3_keep_43 {b : Nat} (hX : jX2 D z A p l s m args meth c yX3_keep cX3_keep 2 wsX3_keep none) {Q : Unit → jM → Prop}  (n : Nat) : ∀ {x1 : Int32} {μ : jM} {H : Heap} {locs : List Loc} {ls : Array Slot} {cells slots : Nat}, wX3_keep_43 z b Q n x1 μ → jIz D z A s.heap μ H locs → lv_has ls 2 [(0, va_rf (some b)), (1, .int x1)] → cells + 0 ≤ 0 → slots + 0 ≤ 0 → W p l e rmX3_keep s m args below meth c H locs cells slots (MQ below (jRz jfV Q D z A) args s 0 0 A) (F0 m 43 ls []) := by
  induction n with
  | zero =>
    intros
    rename_i hw _ _ _ _
    exact (show False from hw).elim
  | succ n ih =>
    intro x1 μ H locs ls cells slots hw hI hl hcn hsn
    have hw : wX3_keep_43_b z b Q (wX3_keep_43 z b Q n) x1 μ := hw
    unfold wX3_keep_43_b at hw
    obtain ⟨hx, hb, hml, hown, hts, hr, hlocks, hnm, hK, hG, hfl⟩ := id hX
    have hown : s.vm.findClass RX3 = some m.cls := hown
    have hfX0 : ∀ w ∈ wsX00, w.before args s = true := fun w h => hts w (List.mem_cons_of_mem _ (List.mem_append_left _ (List.mem_append_left _ (List.mem_append_left _ (List.mem_append_left _ (List.mem_append_left _ (List.mem_append_right _ h)))))))
    have hfX3 : ∀ w ∈ wsX30, w.before args s = true := fun w h => hts w (List.mem_cons_of_mem _ (List.mem_append_left _ (List.mem_append_left _ (List.mem_append_left _ (List.mem_append_left _ (List.mem_append_left _ (List.mem_append_left _ (List.mem_append_right _ h))))))))
    refine lv_iload_n hx hb dX3_keep_43 rfl (lv_at hl 1 rfl) ?_
    refine j_aload_n (r := (some b)) hx hb dX3_keep_44 rfl (lv_at hl 0 rfl) ?_
    obtain ⟨v1, hv1, hw⟩ := hw
    refine j_getz (C := RX3) (T := TX3) (N := 8) (ci := 6) (r := (some b)) (v := va_rf v1) hx hb hfX3 hown hK hI rfl 1 (by decide) (hts (.fieldLink RX3 18 "CashPools$Desk" "tops" "Ljava/util/ArrayList;") (List.mem_of_getElem? (i := 5) (by decide +kernel))) (fun _ h => h) hv1 dX3_keep_45 ?_
    obtain ⟨b4, ⟨hrb4, hfs⟩, hw⟩ := hw
    refine j_goz hI (va_runV (As := []) (rest := [.int x1]) ⟨hx, hb, hml, hown, hts⟩ (kJx4a65c_size_8abf5 l hfl D z b4  μ H.size _) (cwV 0 hts gX3_keep_Jx4a65c_size_8abf5 rfl rfl rfl (by decide +kernel) ⟨Nat.le_of_ble_eq_true rfl, Nat.le_of_ble_eq_true rfl⟩) (j_prV2z hK hG hI hw (ci := 2) rfl hfs) rfl rfl hl.1 (by rw [hrb4]; rfl) (lv_room (Nat.le_of_ble_eq_true rfl)) dX3_keep_48 ⟨by show _ ≤ 0; omega, by show _ ≤ 0; omega⟩) (fun v2 μ3 H locs hw hI => ?_)
    refine W.eq (g2 := F0 m 51 ls [.int v2, .int x1]) rfl ?_
    refine lv_icmp_ge (tgt := 77) hx hb dX3_keep_51 (by decide) (fun hc => ?_) (fun hc => ?_)
    · have hw := hw.1 hc
      refine lv_iconst (v := (0)) hx hb dX3_keep_77 (by decide) ?_
      refine lv_topi (fun v5 ev5 => ?_)
      have hw := hw v5 ev5
      refine lv_istore_n (lv' := [(1, .int v5), (0, va_rf (some b))]) hx hb dX3_keep_78 rfl hl (by decide) rfl (fun ls hl => ?_)
      obtain ⟨n6, hw⟩ := hw
      exact kX3_keep_79 hX  n6 hw hI (lv_sub hl [1, 0] rfl) (by omega) (by omega)
    · have hw := hw.2 hc
      refine j_aload_n (r := (some b)) hx hb dX3_keep_54 rfl (lv_at hl 0 rfl) ?_
      obtain ⟨v7, hv7, hw⟩ := hw
      refine j_getz (C := RX3) (T := TX3) (N := 8) (ci := 6) (r := (some b)) (v := va_rf v7) hx hb hfX3 hown hK hI rfl 1 (by decide) (hts (.fieldLink RX3 18 "CashPools$Desk" "tops" "Ljava/util/ArrayList;") (List.mem_of_getElem? (i := 5) (by decide +kernel))) (fun _ h => h) hv7 dX3_keep_55 ?_
      refine lv_iload_n hx hb dX3_keep_58 rfl (lv_at hl 1 rfl) ?_
      obtain ⟨b10, ⟨hrb10, hfs⟩, hw⟩ := hw
      refine j_goz hI (va_runV (As := [.int x1]) (rest := []) ⟨hx, hb, hml, hown, hts⟩ (kJx4a65c_get_915e3 l hfl D z b10 x1 μ3 H.size _) (cwV 1 hts gX3_keep_Jx4a65c_get_915e3 rfl rfl rfl (by decide +kernel) ⟨Nat.le_of_ble_eq_true rfl, Nat.le_of_ble_eq_true rfl⟩) (j_prV2z hK hG hI hw (ci := 2) rfl hfs) rfl rfl hl.1 (by rw [hrb10]; rfl) (lv_room (Nat.le_of_ble_eq_true rfl)) dX3_keep_59 ⟨by show _ ≤ 0; omega, by show _ ≤ 0; omega⟩) (fun v8 μ9 H locs hw hI => ?_)
      refine W.eq (g2 := F0 m 62 ls [va_rf v8]) rfl ?_
      obtain ⟨h11, hw⟩ := hw
      refine j_castz (C := RX0) (T := TX0) (N := 12) (ci := 3) (r := v8) hx hb hown (hts (.classLink RX3 55 "CashPools$Account") (List.mem_of_getElem? (i := 4) (by decide +kernel))) hK hI rfl h11 dX3_keep_62 ?_
      obtain ⟨v12, hv12, hw⟩ := hw
      refine j_getz (C := RX0) (T := TX0) (N := 12) (ci := 3) (r := v8) (v := va_rf v12) hx hb hfX0 hown hK hI rfl 2 (by decide) (hts (.fieldLink RX3 64 "CashPools$Account" "pool" "LCashPools$Pool;") (List.mem_of_getElem? (i := 6) (by decide +kernel))) (fun _ h => h) hv12 dX3_keep_65 ?_
      obtain ⟨b15, ⟨hrb15, hfs⟩, hw⟩ := hw
      refine j_goz hI (va_runV (As := []) (rest := []) ⟨hx, hb, hml, hown, hts⟩ (kX6_keep l hfl D z b15  μ9 H.size _) (cwV 0 hts gX3_keep_X6_keep rfl rfl rfl (by decide +kernel) ⟨Nat.le_of_ble_eq_true rfl, Nat.le_of_ble_eq_true rfl⟩) (j_prV2z hK hG hI hw (ci := 9) rfl hfs) rfl rfl hl.1 (by rw [hrb15]; rfl) (lv_room (Nat.le_of_ble_eq_true rfl)) dX3_keep_68 ⟨by show _ ≤ 0; omega, by show _ ≤ 0; omega⟩) (fun u13 μ14 H locs hw hI => ?_)
      refine W.eq (g2 := F0 m 71 ls []) rfl ?_
      obtain ⟨v16, ev16⟩ : ∃ y : Int32, y = x1 + (1 : Int32) := ⟨_, rfl⟩
      have hw := hw v16 ev16
      refine lv_iinc (v := v16) (lv' := [(1, .int v16), (0, va_rf (some b))]) hx hb dX3_keep_71 hl (k := 1) rfl (by rw [ev16]; rfl) (by decide) rfl (fun ls hl => ?_)
      refine lv_goto (tgt := 43) hx hb dX3_keep_74 (by decide) ?_
      exact ih hw hI (lv_sub hl [1, 0] rfl) (by omega) (by omega)
set_option maxHeartbeats 4000000 in
set_option maxRecDepth 100000 in
theorem kX3_keep_10 {b : Nat} (hX : jX2 D z A p l s m args meth c yX3_keep cX3_keep 2 wsX3_keep none) {Q : Unit → jM → Prop}  (n : Nat) : ∀ {x1 : Int32} {μ : jM} {H : Heap} {locs : List Loc} {ls : Array Slot} {cells slots : Nat}, wX3_keep_10 z b Q n x1 μ → jIz D z A s.heap μ H locs → lv_has ls 2 [(0, va_rf (some b)), (1, .int x1)] → cells + 0 ≤ 0 → slots + 0 ≤ 0 → W p l e rmX3_keep s m args below meth c H locs cells slots (MQ below (jRz jfV Q D z A) args s 0 0 A) (F0 m 10 ls []) := by
  induction n with
  | zero =>
    intros
    rename_i hw _ _ _ _
    exact (show False from hw).elim
  | succ n ih =>
    intro x1 μ H locs ls cells slots hw hI hl hcn hsn
    have hw : wX3_keep_10_b z b Q (wX3_keep_10 z b Q n) x1 μ := hw
    unfold wX3_keep_10_b at hw
    obtain ⟨hx, hb, hml, hown, hts, hr, hlocks, hnm, hK, hG, hfl⟩ := id hX
    have hown : s.vm.findClass RX3 = some m.cls := hown
    have hfX3 : ∀ w ∈ wsX30, w.before args s = true := fun w h => hts w (List.mem_cons_of_mem _ (List.mem_append_left _ (List.mem_append_left _ (List.mem_append_left _ (List.mem_append_left _ (List.mem_append_left _ (List.mem_append_left _ (List.mem_append_right _ h))))))))
    refine lv_iload_n hx hb dX3_keep_10 rfl (lv_at hl 1 rfl) ?_
    refine j_aload_n (r := (some b)) hx hb dX3_keep_11 rfl (lv_at hl 0 rfl) ?_
    obtain ⟨v1, hv1, hw⟩ := hw
    refine j_getz (C := RX3) (T := TX3) (N := 8) (ci := 6) (r := (some b)) (v := va_rf v1) hx hb hfX3 hown hK hI rfl 0 (by decide) (hts (.fieldLink RX3 12 "CashPools$Desk" "everyAccount" "Ljava/util/ArrayList;") (List.mem_of_getElem? (i := 3) (by decide +kernel))) (fun _ h => h) hv1 dX3_keep_12 ?_
    obtain ⟨b4, ⟨hrb4, hfs⟩, hw⟩ := hw
    refine j_goz hI (va_runV (As := []) (rest := [.int x1]) ⟨hx, hb, hml, hown, hts⟩ (kJx4a65c_size_8abf5 l hfl D z b4  μ H.size _) (cwV 0 hts gX3_keep_Jx4a65c_size_8abf5 rfl rfl rfl (by decide +kernel) ⟨Nat.le_of_ble_eq_true rfl, Nat.le_of_ble_eq_true rfl⟩) (j_prV2z hK hG hI hw (ci := 2) rfl hfs) rfl rfl hl.1 (by rw [hrb4]; rfl) (lv_room (Nat.le_of_ble_eq_true rfl)) dX3_keep_15 ⟨by show _ ≤ 0; omega, by show _ ≤ 0; omega⟩) (fun v2 μ3 H locs hw hI => ?_)
    refine W.eq (g2 := F0 m 18 ls [.int v2, .int x1]) rfl ?_
    refine lv_icmp_ge (tgt := 41) hx hb dX3_keep_18 (by decide) (fun hc => ?_) (fun hc => ?_)
    · have hw := hw.1 hc
      refine lv_iconst (v := (0)) hx hb dX3_keep_41 (by decide) ?_
      refine lv_topi (fun v5 ev5 => ?_)
      have hw := hw v5 ev5
      refine lv_istore_n (lv' := [(1, .int v5), (0, va_rf (some b))]) hx hb dX3_keep_42 rfl hl (by decide) rfl (fun ls hl => ?_)
      obtain ⟨n6, hw⟩ := hw
      exact kX3_keep_43 hX  n6 hw hI (lv_sub hl [1, 0] rfl) (by omega) (by omega)
    · have hw := hw.2 hc
      refine j_aload_n (r := (some b)) hx hb dX3_keep_21 rfl (lv_at hl 0 rfl) ?_
      obtain ⟨v7, hv7, hw⟩ := hw
      refine j_getz (C := RX3) (T := TX3) (N := 8) (ci := 6) (r := (some b)) (v := va_rf v7) hx hb hfX3 hown hK hI rfl 0 (by decide) (hts (.fieldLink RX3 12 "CashPools$Desk" "everyAccount" "Ljava/util/ArrayList;") (List.mem_of_getElem? (i := 3) (by decide +kernel))) (fun _ h => h) hv7 dX3_keep_22 ?_
      refine lv_iload_n hx hb dX3_keep_25 rfl (lv_at hl 1 rfl) ?_
      obtain ⟨b10, ⟨hrb10, hfs⟩, hw⟩ := hw
      refine j_goz hI (va_runV (As := [.int x1]) (rest := []) ⟨hx, hb, hml, hown, hts⟩ (kJx4a65c_get_915e3 l hfl D z b10 x1 μ3 H.size _) (cwV 1 hts gX3_keep_Jx4a65c_get_915e3 rfl rfl rfl (by decide +kernel) ⟨Nat.le_of_ble_eq_true rfl, Nat.le_of_ble_eq_true rfl⟩) (j_prV2z hK hG hI hw (ci := 2) rfl hfs) rfl rfl hl.1 (by rw [hrb10]; rfl) (lv_room (Nat.le_of_ble_eq_true rfl)) dX3_keep_26 ⟨by show _ ≤ 0; omega, by show _ ≤ 0; omega⟩) (fun v8 μ9 H locs hw hI => ?_)
      refine W.eq (g2 := F0 m 29 ls [va_rf v8]) rfl ?_
      obtain ⟨h11, hw⟩ := hw
      refine j_castz (C := RX0) (T := TX0) (N := 12) (ci := 3) (r := v8) hx hb hown (hts (.classLink RX3 55 "CashPools$Account") (List.mem_of_getElem? (i := 4) (by decide +kernel))) hK hI rfl h11 dX3_keep_29 ?_
      obtain ⟨b14, ⟨hrb14, hfs⟩, hw⟩ := hw
      refine j_goz hI (va_runV (As := []) (rest := []) ⟨hx, hb, hml, hown, hts⟩ (kX0_keep l hfl D z b14  μ9 H.size _) (cwV 0 hts gX3_keep_X0_keep rfl rfl rfl (by decide +kernel) ⟨Nat.le_of_ble_eq_true rfl, Nat.le_of_ble_eq_true rfl⟩) (j_prV2z hK hG hI hw (ci := 3) rfl hfs) rfl rfl hl.1 (by rw [hrb14]; rfl) (lv_room (Nat.le_of_ble_eq_true rfl)) dX3_keep_32 ⟨by show _ ≤ 0; omega, by show _ ≤ 0; omega⟩) (fun u12 μ13 H locs hw hI => ?_)
      refine W.eq (g2 := F0 m 35 ls []) rfl ?_
      obtain ⟨v15, ev15⟩ : ∃ y : Int32, y = x1 + (1 : Int32) := ⟨_, rfl⟩
      have hw := hw v15 ev15
      refine lv_iinc (v := v15) (lv' := [(1, .int v15), (0, va_rf (some b))]) hx hb dX3_keep_35 hl (k := 1) rfl (by rw [ev15]; rfl) (by decide) rfl (fun ls hl => ?_)
      refine lv_goto (tgt := 10) hx hb dX3_keep_38 (by decide) ?_
      exact ih hw hI (lv_sub hl [1, 0] rfl) (by omega) (by omega)
set_option maxHeartbeats 4000000 in
set_option maxRecDepth 100000 in
theorem kX3_keep_0 {b : Nat} (hX : jX2 D z A p l s m args meth c yX3_keep cX3_keep 2 wsX3_keep none) {Q : Unit → jM → Prop}   {μ : jM} {H : Heap} {locs : List Loc} {ls : Array Slot} {cells slots : Nat} (hw : wX3_keep_0 z b Q  μ) (hI : jIz D z A s.heap μ H locs) (hl : lv_has ls 2 [(0, va_rf (some b))]) (hcn : cells + 0 ≤ 0) (hsn : slots + 0 ≤ 0) : W p l e rmX3_keep s m args below meth c H locs cells slots (MQ below (jRz jfV Q D z A) args s 0 0 A) (F0 m 0 ls []) := by
  unfold wX3_keep_0 at hw
  obtain ⟨hx, hb, hml, hown, hts, hr, hlocks, hnm, hK, hG, hfl⟩ := id hX
  have hown : s.vm.findClass RX3 = some m.cls := hown
  have hfX3 : ∀ w ∈ wsX30, w.before args s = true := fun w h => hts w (List.mem_cons_of_mem _ (List.mem_append_left _ (List.mem_append_left _ (List.mem_append_left _ (List.mem_append_left _ (List.mem_append_left _ (List.mem_append_left _ (List.mem_append_right _ h))))))))
  refine j_aload_n (r := (some b)) hx hb dX3_keep_0 rfl (lv_at hl 0 rfl) ?_
  refine j_aload_n (r := (some b)) hx hb dX3_keep_1 rfl (lv_at hl 0 rfl) ?_
  obtain ⟨v1, hv1, hw⟩ := hw
  refine j_getz (C := RX3) (T := TX3) (N := 8) (ci := 6) (r := (some b)) (v := .int v1) hx hb hfX3 hown hK hI rfl 6 (by decide) (hts (.fieldLink RX3 83 "CashPools$Desk" "day" "I") (List.mem_of_getElem? (i := 1) (by decide +kernel))) (fun _ h => h) hv1 dX3_keep_2 ?_
  obtain ⟨μ2, hμ2, hw⟩ := hw
  refine j_putz (C := RX3) (T := TX3) (N := 8) (ci := 6) (r := (some b)) (v := .int v1) hx hb hfX3 tyX3 tyX3_ok nmX3 hown hK hI rfl 7 (by decide) (hts (.fieldLink RX3 193 "CashPools$Desk" "keptDay" "I") (List.mem_of_getElem? (i := 2) (by decide +kernel))) (fun _ h => h) rfl (tyX3_ok 7 (by decide)) rfl rfl hμ2 dX3_keep_5 (fun H locs hI => ?_)
  refine lv_iconst (v := (0)) hx hb dX3_keep_8 (by decide) ?_
  refine lv_topi (fun v3 ev3 => ?_)
  have hw := hw v3 ev3
  refine lv_istore_n (lv' := [(1, .int v3), (0, va_rf (some b))]) hx hb dX3_keep_9 rfl hl (by decide) rfl (fun ls hl => ?_)
  obtain ⟨n4, hw⟩ := hw
  exact kX3_keep_10 hX  n4 hw hI (lv_sub hl [1, 0] rfl) (by omega) (by omega)
set_option maxHeartbeats 4000000 in
set_option maxRecDepth 100000 in
theorem kX3_keep (l : Launch) (hfl : l.stackTraces = false) (D : jD) (z : Nat × Nat) (b : Nat)  (μ : jM) (sz : Nat) (Q : Unit → jM → Prop) : Met l yX3_keep wsX3_keep rmX3_keep (jPre2z D z μ sz [.ref b] (wX3_keep z b  μ Q)) (jRz jfV Q D z (jA z μ sz)) 0 0 (jA z μ sz) := by
  refine Met.ofW (cc := cX3_keep) (maxL := 2) (ret := none) (by decide) rfl ?_
  intro p e s m args below meth c s₁ B hml hv
  obtain ⟨rfl, hsz, hH, hz0, hK, hG, hw⟩ := hv
  subst hsz
  have hX : jX2 D z (jA z μ s.heap.size) p l s m _ meth c yX3_keep cX3_keep 2 wsX3_keep none := ⟨B.exec, B.bytes, hml, findClass_of_methodNamed B.named, atoms_spec (ws := wsX3_keep) B.pre, B.returns, B.notSynchronized, (name_of_methodNamed B.named B.method).1, hK, hG, hfl⟩
  obtain ⟨ls, hg, hl⟩ : ∃ ls : Array Slot, entryFrame m ([.ref b] : List Value).toArray 2 = F0 m 0 ls [] ∧ lv_has ls 2 [(0, va_rf (some b))] := by
    exact ⟨_, lg_entry_eq .., lv_entry _ (n := 2) (Nat.le_of_ble_eq_true rfl)⟩
  rw [hg]
  exact kX3_keep_0 hX hw (jIz.start hH hz0) (lv_sub hl [0] rfl) (by decide) (by decide)
set_option maxHeartbeats 4000000 in
set_option maxRecDepth 100000 in
theorem kX0_goBack_0 {b : Nat} (hX : jX2 D z A p l s m args meth c yX0_goBack cX0_goBack 1 wsX0_goBack none) {Q : Unit → jM → Prop}   {μ : jM} {H : Heap} {locs : List Loc} {ls : Array Slot} {cells slots : Nat} (hw : wX0_goBack_0 z b Q  μ) (hI : jIz D z A s.heap μ H locs) (hl : lv_has ls 1 [(0, va_rf (some b))]) (hcn : cells + 0 ≤ 0) (hsn : slots + 0 ≤ 0) : W p l e rmX0_goBack s m args below meth c H locs cells slots (MQ below (jRz jfV Q D z A) args s 0 0 A) (F0 m 0 ls []) := by
  unfold wX0_goBack_0 at hw
  obtain ⟨hx, hb, hml, hown, hts, hr, hlocks, hnm, hK, hG, hfl⟩ := id hX
  have hown : s.vm.findClass RX0 = some m.cls := hown
  have hfX0 : ∀ w ∈ wsX00, w.before args s = true := fun w h => hts w (List.mem_cons_of_mem _ (List.mem_append_right _ h))
  refine j_aload_n (r := (some b)) hx hb dX0_goBack_0 rfl (lv_at hl 0 rfl) ?_
  refine j_aload_n (r := (some b)) hx hb dX0_goBack_1 rfl (lv_at hl 0 rfl) ?_
  obtain ⟨v1, hv1, hw⟩ := hw
  refine j_getz (C := RX0) (T := TX0) (N := 12) (ci := 3) (r := (some b)) (v := .long v1) hx hb hfX0 hown hK hI rfl 10 (by decide) (hts (.fieldLink RX0 54 "CashPools$Account" "keptCash" "J") (List.mem_of_getElem? (i := 1) (by decide +kernel))) (fun _ h => h) hv1 dX0_goBack_2 ?_
  obtain ⟨μ2, hμ2, hw⟩ := hw
  refine j_putz (C := RX0) (T := TX0) (N := 12) (ci := 3) (r := (some b)) (v := .long v1) hx hb hfX0 tyX0 tyX0_ok nmX0 hown hK hI rfl 8 (by decide) (hts (.fieldLink RX0 47 "CashPools$Account" "cash" "J") (List.mem_of_getElem? (i := 2) (by decide +kernel))) (fun _ h => h) rfl (tyX0_ok 8 (by decide)) rfl rfl hμ2 dX0_goBack_5 (fun H locs hI => ?_)
  refine j_aload_n (r := (some b)) hx hb dX0_goBack_8 rfl (lv_at hl 0 rfl) ?_
  refine j_aload_n (r := (some b)) hx hb dX0_goBack_9 rfl (lv_at hl 0 rfl) ?_
  obtain ⟨v3, hv3, hw⟩ := hw
  refine j_getz (C := RX0) (T := TX0) (N := 12) (ci := 3) (r := (some b)) (v := .long v3) hx hb hfX0 hown hK hI rfl 11 (by decide) (hts (.fieldLink RX0 57 "CashPools$Account" "keptInterest" "J") (List.mem_of_getElem? (i := 3) (by decide +kernel))) (fun _ h => h) hv3 dX0_goBack_10 ?_
  obtain ⟨μ4, hμ4, hw⟩ := hw
  refine j_putz (C := RX0) (T := TX0) (N := 12) (ci := 3) (r := (some b)) (v := .long v3) hx hb hfX0 tyX0 tyX0_ok nmX0 hown hK hI rfl 9 (by decide) (hts (.fieldLink RX0 51 "CashPools$Account" "interest" "J") (List.mem_of_getElem? (i := 4) (by decide +kernel))) (fun _ h => h) rfl (tyX0_ok 9 (by decide)) rfl rfl hμ4 dX0_goBack_13 (fun H locs hI => ?_)
  exact j_vretz hx hb hr hlocks hI hw (by omega) (by omega) dX0_goBack_16
set_option maxHeartbeats 4000000 in
set_option maxRecDepth 100000 in
theorem kX0_goBack (l : Launch) (hfl : l.stackTraces = false) (D : jD) (z : Nat × Nat) (b : Nat)  (μ : jM) (sz : Nat) (Q : Unit → jM → Prop) : Met l yX0_goBack wsX0_goBack rmX0_goBack (jPre2z D z μ sz [.ref b] (wX0_goBack z b  μ Q)) (jRz jfV Q D z (jA z μ sz)) 0 0 (jA z μ sz) := by
  refine Met.ofW (cc := cX0_goBack) (maxL := 1) (ret := none) (by decide) rfl ?_
  intro p e s m args below meth c s₁ B hml hv
  obtain ⟨rfl, hsz, hH, hz0, hK, hG, hw⟩ := hv
  subst hsz
  have hX : jX2 D z (jA z μ s.heap.size) p l s m _ meth c yX0_goBack cX0_goBack 1 wsX0_goBack none := ⟨B.exec, B.bytes, hml, findClass_of_methodNamed B.named, atoms_spec (ws := wsX0_goBack) B.pre, B.returns, B.notSynchronized, (name_of_methodNamed B.named B.method).1, hK, hG, hfl⟩
  obtain ⟨ls, hg, hl⟩ : ∃ ls : Array Slot, entryFrame m ([.ref b] : List Value).toArray 1 = F0 m 0 ls [] ∧ lv_has ls 1 [(0, va_rf (some b))] := by
    exact ⟨_, lg_entry_eq .., lv_entry _ (n := 1) (Nat.le_of_ble_eq_true rfl)⟩
  rw [hg]
  exact kX0_goBack_0 hX hw (jIz.start hH hz0) (lv_sub hl [0] rfl) (by decide) (by decide)
set_option maxHeartbeats 4000000 in
set_option maxRecDepth 100000 in
theorem kX7_goBack_0 {b : Nat} (hX : jX2 D z A p l s m args meth c yX7_goBack cX7_goBack 1 wsX7_goBack none) {Q : Unit → jM → Prop}   {μ : jM} {H : Heap} {locs : List Loc} {ls : Array Slot} {cells slots : Nat} (hw : wX7_goBack_0 z b Q  μ) (hI : jIz D z A s.heap μ H locs) (hl : lv_has ls 1 [(0, va_rf (some b))]) (hcn : cells + 0 ≤ 0) (hsn : slots + 0 ≤ 0) : W p l e rmX7_goBack s m args below meth c H locs cells slots (MQ below (jRz jfV Q D z A) args s 0 0 A) (F0 m 0 ls []) := by
  unfold wX7_goBack_0 at hw
  obtain ⟨hx, hb, hml, hown, hts, hr, hlocks, hnm, hK, hG, hfl⟩ := id hX
  have hown : s.vm.findClass RX7 = some m.cls := hown
  have hfX7 : ∀ w ∈ wsX70, w.before args s = true := fun w h => hts w (List.mem_cons_of_mem _ (List.mem_append_right _ h))
  refine j_aload_n (r := (some b)) hx hb dX7_goBack_0 rfl (lv_at hl 0 rfl) ?_
  refine j_aload_n (r := (some b)) hx hb dX7_goBack_1 rfl (lv_at hl 0 rfl) ?_
  obtain ⟨v1, hv1, hw⟩ := hw
  refine j_getz (C := RX7) (T := TX7) (N := 10) (ci := 10) (r := (some b)) (v := .long v1) hx hb hfX7 hown hK hI rfl 7 (by decide) (hts (.fieldLink RX7 73 "CashPools$Side" "keptSum" "J") (List.mem_of_getElem? (i := 1) (by decide +kernel))) (fun _ h => h) hv1 dX7_goBack_2 ?_
  obtain ⟨μ2, hμ2, hw⟩ := hw
  refine j_putz (C := RX7) (T := TX7) (N := 10) (ci := 10) (r := (some b)) (v := .long v1) hx hb hfX7 tyX7 tyX7_ok nmX7 hown hK hI rfl 2 (by decide) (hts (.fieldLink RX7 31 "CashPools$Side" "sum" "J") (List.mem_of_getElem? (i := 2) (by decide +kernel))) (fun _ h => h) rfl (tyX7_ok 2 (by decide)) rfl rfl hμ2 dX7_goBack_5 (fun H locs hI => ?_)
  refine j_aload_n (r := (some b)) hx hb dX7_goBack_8 rfl (lv_at hl 0 rfl) ?_
  refine j_aload_n (r := (some b)) hx hb dX7_goBack_9 rfl (lv_at hl 0 rfl) ?_
  obtain ⟨v3, hv3, hw⟩ := hw
  refine j_getz (C := RX7) (T := TX7) (N := 10) (ci := 10) (r := (some b)) (v := .long v3) hx hb hfX7 hown hK hI rfl 8 (by decide) (hts (.fieldLink RX7 76 "CashPools$Side" "keptBooked" "J") (List.mem_of_getElem? (i := 3) (by decide +kernel))) (fun _ h => h) hv3 dX7_goBack_10 ?_
  obtain ⟨μ4, hμ4, hw⟩ := hw
  refine j_putz (C := RX7) (T := TX7) (N := 10) (ci := 10) (r := (some b)) (v := .long v3) hx hb hfX7 tyX7 tyX7_ok nmX7 hown hK hI rfl 3 (by decide) (hts (.fieldLink RX7 58 "CashPools$Side" "booked" "J") (List.mem_of_getElem? (i := 4) (by decide +kernel))) (fun _ h => h) rfl (tyX7_ok 3 (by decide)) rfl rfl hμ4 dX7_goBack_13 (fun H locs hI => ?_)
  refine j_aload_n (r := (some b)) hx hb dX7_goBack_16 rfl (lv_at hl 0 rfl) ?_
  obtain ⟨v5, hv5, hw⟩ := hw
  refine j_getz (C := RX7) (T := TX7) (N := 10) (ci := 10) (r := (some b)) (v := va_rf v5) hx hb hfX7 hown hK hI rfl 9 (by decide) (hts (.fieldLink RX7 21 "CashPools$Side" "keptWeights" "[J") (List.mem_of_getElem? (i := 5) (by decide +kernel))) (fun _ h => h) hv5 dX7_goBack_17 ?_
  refine lv_iconst (v := (0)) hx hb dX7_goBack_20 (by decide) ?_
  refine j_aload_n (r := (some b)) hx hb dX7_goBack_21 rfl (lv_at hl 0 rfl) ?_
  obtain ⟨v6, hv6, hw⟩ := hw
  refine j_getz (C := RX7) (T := TX7) (N := 10) (ci := 10) (r := (some b)) (v := va_rf v6) hx hb hfX7 hown hK hI rfl 4 (by decide) (hts (.fieldLink RX7 9 "CashPools$Side" "weights" "[J") (List.mem_of_getElem? (i := 6) (by decide +kernel))) (fun _ h => h) hv6 dX7_goBack_22 ?_
  refine lv_iconst (v := (0)) hx hb dX7_goBack_25 (by decide) ?_
  refine lv_bipush (v := (10)) hx hb dX7_goBack_26 (by decide) ?_
  obtain ⟨μ7, hμ7, hw⟩ := hw
  refine j_copyjz (r0 := v5) (r1 := v6) hx hb (by rw [hml]; exact hl.1.symm) hown (hts (.methodLink RX7 79 arraycopyName) (List.mem_of_getElem? (i := 7) (by decide +kernel))) (hts (.native arraycopyName) (List.mem_of_getElem? (i := 8) (by decide +kernel))) (hts (.static arraycopyName) (List.mem_of_getElem? (i := 9) (by decide +kernel))) (hts (.initialized "java/lang/System") (List.mem_of_getElem? (i := 10) (by decide +kernel))) hK hI hμ7 (Nat.le_of_ble_eq_true rfl) (by simp only [List.map, List.sum_cons, List.sum_nil, jrc, jci, jcl, jcr, jcn]; exact Nat.le_of_ble_eq_true rfl) dX7_goBack_28 (fun H locs hI => ?_)
  exact j_vretz hx hb hr hlocks hI hw (by omega) (by omega) dX7_goBack_31
set_option maxHeartbeats 4000000 in
set_option maxRecDepth 100000 in
theorem kX7_goBack (l : Launch) (hfl : l.stackTraces = false) (D : jD) (z : Nat × Nat) (b : Nat)  (μ : jM) (sz : Nat) (Q : Unit → jM → Prop) : Met l yX7_goBack wsX7_goBack rmX7_goBack (jPre2z D z μ sz [.ref b] (wX7_goBack z b  μ Q)) (jRz jfV Q D z (jA z μ sz)) 0 0 (jA z μ sz) := by
  refine Met.ofW (cc := cX7_goBack) (maxL := 1) (ret := none) (by decide) rfl ?_
  intro p e s m args below meth c s₁ B hml hv
  obtain ⟨rfl, hsz, hH, hz0, hK, hG, hw⟩ := hv
  subst hsz
  have hX : jX2 D z (jA z μ s.heap.size) p l s m _ meth c yX7_goBack cX7_goBack 1 wsX7_goBack none := ⟨B.exec, B.bytes, hml, findClass_of_methodNamed B.named, atoms_spec (ws := wsX7_goBack) B.pre, B.returns, B.notSynchronized, (name_of_methodNamed B.named B.method).1, hK, hG, hfl⟩
  obtain ⟨ls, hg, hl⟩ : ∃ ls : Array Slot, entryFrame m ([.ref b] : List Value).toArray 1 = F0 m 0 ls [] ∧ lv_has ls 1 [(0, va_rf (some b))] := by
    exact ⟨_, lg_entry_eq .., lv_entry _ (n := 1) (Nat.le_of_ble_eq_true rfl)⟩
  rw [hg]
  exact kX7_goBack_0 hX hw (jIz.start hH hz0) (lv_sub hl [0] rfl) (by decide) (by decide)
set_option maxHeartbeats 4000000 in
set_option maxRecDepth 100000 in
theorem kX6_goBack_0 {b : Nat} (hX : jX2 D z A p l s m args meth c yX6_goBack cX6_goBack 1 wsX6_goBack none) {Q : Unit → jM → Prop}   {μ : jM} {H : Heap} {locs : List Loc} {ls : Array Slot} {cells slots : Nat} (hw : wX6_goBack_0 z b Q  μ) (hI : jIz D z A s.heap μ H locs) (hl : lv_has ls 1 [(0, va_rf (some b))]) (hcn : cells + 0 ≤ 0) (hsn : slots + 0 ≤ 0) : W p l e rmX6_goBack s m args below meth c H locs cells slots (MQ below (jRz jfV Q D z A) args s 0 0 A) (F0 m 0 ls []) := by
  unfold wX6_goBack_0 at hw
  obtain ⟨hx, hb, hml, hown, hts, hr, hlocks, hnm, hK, hG, hfl⟩ := id hX
  have hown : s.vm.findClass RX6 = some m.cls := hown
  have hfX6 : ∀ w ∈ wsX60, w.before args s = true := fun w h => hts w (List.mem_cons_of_mem _ (List.mem_append_left _ (List.mem_append_right _ h)))
  refine j_aload_n (r := (some b)) hx hb dX6_goBack_0 rfl (lv_at hl 0 rfl) ?_
  obtain ⟨v1, hv1, hw⟩ := hw
  refine j_getz (C := RX6) (T := TX6) (N := 5) (ci := 9) (r := (some b)) (v := va_rf v1) hx hb hfX6 hown hK hI rfl 1 (by decide) (hts (.fieldLink RX6 28 "CashPools$Pool" "credit" "LCashPools$Side;") (List.mem_of_getElem? (i := 1) (by decide +kernel))) (fun _ h => h) hv1 dX6_goBack_1 ?_
  obtain ⟨b4, ⟨hrb4, hfs⟩, hw⟩ := hw
  refine j_goz hI (va_runV (As := []) (rest := []) ⟨hx, hb, hml, hown, hts⟩ (kX7_goBack l hfl D z b4  μ H.size _) (cwV 0 hts gX6_goBack_X7_goBack rfl rfl rfl (by decide +kernel) ⟨Nat.le_of_ble_eq_true rfl, Nat.le_of_ble_eq_true rfl⟩) (j_prV2z hK hG hI hw (ci := 10) rfl hfs) rfl rfl hl.1 (by rw [hrb4]; rfl) (lv_room (Nat.le_of_ble_eq_true rfl)) dX6_goBack_4 ⟨by show _ ≤ 0; omega, by show _ ≤ 0; omega⟩) (fun u2 μ3 H locs hw hI => ?_)
  refine W.eq (g2 := F0 m 7 ls []) rfl ?_
  refine j_aload_n (r := (some b)) hx hb dX6_goBack_7 rfl (lv_at hl 0 rfl) ?_
  obtain ⟨v5, hv5, hw⟩ := hw
  refine j_getz (C := RX6) (T := TX6) (N := 5) (ci := 9) (r := (some b)) (v := va_rf v5) hx hb hfX6 hown hK hI rfl 2 (by decide) (hts (.fieldLink RX6 32 "CashPools$Pool" "debit" "LCashPools$Side;") (List.mem_of_getElem? (i := 2) (by decide +kernel))) (fun _ h => h) hv5 dX6_goBack_8 ?_
  obtain ⟨b8, ⟨hrb8, hfs⟩, hw⟩ := hw
  refine j_goz hI (va_runV (As := []) (rest := []) ⟨hx, hb, hml, hown, hts⟩ (kX7_goBack l hfl D z b8  μ3 H.size _) (cwV 0 hts gX6_goBack_X7_goBack rfl rfl rfl (by decide +kernel) ⟨Nat.le_of_ble_eq_true rfl, Nat.le_of_ble_eq_true rfl⟩) (j_prV2z hK hG hI hw (ci := 10) rfl hfs) rfl rfl hl.1 (by rw [hrb8]; rfl) (lv_room (Nat.le_of_ble_eq_true rfl)) dX6_goBack_11 ⟨by show _ ≤ 0; omega, by show _ ≤ 0; omega⟩) (fun u6 μ7 H locs hw hI => ?_)
  refine W.eq (g2 := F0 m 14 ls []) rfl ?_
  exact j_vretz hx hb hr hlocks hI hw (by omega) (by omega) dX6_goBack_14
set_option maxHeartbeats 4000000 in
set_option maxRecDepth 100000 in
theorem kX6_goBack (l : Launch) (hfl : l.stackTraces = false) (D : jD) (z : Nat × Nat) (b : Nat)  (μ : jM) (sz : Nat) (Q : Unit → jM → Prop) : Met l yX6_goBack wsX6_goBack rmX6_goBack (jPre2z D z μ sz [.ref b] (wX6_goBack z b  μ Q)) (jRz jfV Q D z (jA z μ sz)) 0 0 (jA z μ sz) := by
  refine Met.ofW (cc := cX6_goBack) (maxL := 1) (ret := none) (by decide) rfl ?_
  intro p e s m args below meth c s₁ B hml hv
  obtain ⟨rfl, hsz, hH, hz0, hK, hG, hw⟩ := hv
  subst hsz
  have hX : jX2 D z (jA z μ s.heap.size) p l s m _ meth c yX6_goBack cX6_goBack 1 wsX6_goBack none := ⟨B.exec, B.bytes, hml, findClass_of_methodNamed B.named, atoms_spec (ws := wsX6_goBack) B.pre, B.returns, B.notSynchronized, (name_of_methodNamed B.named B.method).1, hK, hG, hfl⟩
  obtain ⟨ls, hg, hl⟩ : ∃ ls : Array Slot, entryFrame m ([.ref b] : List Value).toArray 1 = F0 m 0 ls [] ∧ lv_has ls 1 [(0, va_rf (some b))] := by
    exact ⟨_, lg_entry_eq .., lv_entry _ (n := 1) (Nat.le_of_ble_eq_true rfl)⟩
  rw [hg]
  exact kX6_goBack_0 hX hw (jIz.start hH hz0) (lv_sub hl [0] rfl) (by decide) (by decide)
set_option maxHeartbeats 4000000 in
set_option maxRecDepth 100000 in
theorem kX5_goBack_0 {b : Nat} (hX : jX2 D z A p l s m args meth c yX5_goBack cX5_goBack 1 wsX5_goBack none) {Q : Unit → jM → Prop}   {μ : jM} {H : Heap} {locs : List Loc} {ls : Array Slot} {cells slots : Nat} (hw : wX5_goBack_0 z b Q  μ) (hI : jIz D z A s.heap μ H locs) (hl : lv_has ls 1 [(0, va_rf (some b))]) (hcn : cells + 0 ≤ 0) (hsn : slots + 0 ≤ 0) : W p l e rmX5_goBack s m args below meth c H locs cells slots (MQ below (jRz jfV Q D z A) args s 0 0 A) (F0 m 0 ls []) := by
  unfold wX5_goBack_0 at hw
  obtain ⟨hx, hb, hml, hown, hts, hr, hlocks, hnm, hK, hG, hfl⟩ := id hX
  have hown : s.vm.findClass RX5 = some m.cls := hown
  have hfX5 : ∀ w ∈ wsX50, w.before args s = true := fun w h => hts w (List.mem_cons_of_mem _ (List.mem_append_right _ h))
  refine j_aload_n (r := (some b)) hx hb dX5_goBack_0 rfl (lv_at hl 0 rfl) ?_
  refine j_aload_n (r := (some b)) hx hb dX5_goBack_1 rfl (lv_at hl 0 rfl) ?_
  obtain ⟨v1, hv1, hw⟩ := hw
  refine j_getz (C := RX5) (T := TX5) (N := 9) (ci := 8) (r := (some b)) (v := .long v1) hx hb hfX5 hown hK hI rfl 6 (by decide) (hts (.fieldLink RX5 39 "CashPools$Line" "keptUsed" "J") (List.mem_of_getElem? (i := 1) (by decide +kernel))) (fun _ h => h) hv1 dX5_goBack_2 ?_
  obtain ⟨μ2, hμ2, hw⟩ := hw
  refine j_putz (C := RX5) (T := TX5) (N := 9) (ci := 8) (r := (some b)) (v := .long v1) hx hb hfX5 tyX5 tyX5_ok nmX5 hown hK hI rfl 3 (by decide) (hts (.fieldLink RX5 26 "CashPools$Line" "used" "J") (List.mem_of_getElem? (i := 2) (by decide +kernel))) (fun _ h => h) rfl (tyX5_ok 3 (by decide)) rfl rfl hμ2 dX5_goBack_5 (fun H locs hI => ?_)
  refine j_aload_n (r := (some b)) hx hb dX5_goBack_8 rfl (lv_at hl 0 rfl) ?_
  refine j_aload_n (r := (some b)) hx hb dX5_goBack_9 rfl (lv_at hl 0 rfl) ?_
  obtain ⟨v3, hv3, hw⟩ := hw
  refine j_getz (C := RX5) (T := TX5) (N := 9) (ci := 8) (r := (some b)) (v := .long v3) hx hb hfX5 hown hK hI rfl 7 (by decide) (hts (.fieldLink RX5 42 "CashPools$Line" "keptCost" "J") (List.mem_of_getElem? (i := 3) (by decide +kernel))) (fun _ h => h) hv3 dX5_goBack_10 ?_
  obtain ⟨μ4, hμ4, hw⟩ := hw
  refine j_putz (C := RX5) (T := TX5) (N := 9) (ci := 8) (r := (some b)) (v := .long v3) hx hb hfX5 tyX5 tyX5_ok nmX5 hown hK hI rfl 4 (by decide) (hts (.fieldLink RX5 31 "CashPools$Line" "cost" "J") (List.mem_of_getElem? (i := 4) (by decide +kernel))) (fun _ h => h) rfl (tyX5_ok 4 (by decide)) rfl rfl hμ4 dX5_goBack_13 (fun H locs hI => ?_)
  refine j_aload_n (r := (some b)) hx hb dX5_goBack_16 rfl (lv_at hl 0 rfl) ?_
  refine j_aload_n (r := (some b)) hx hb dX5_goBack_17 rfl (lv_at hl 0 rfl) ?_
  obtain ⟨v5, hv5, hw⟩ := hw
  refine j_getz (C := RX5) (T := TX5) (N := 9) (ci := 8) (r := (some b)) (v := .long v5) hx hb hfX5 hown hK hI rfl 8 (by decide) (hts (.fieldLink RX5 45 "CashPools$Line" "keptSum" "J") (List.mem_of_getElem? (i := 5) (by decide +kernel))) (fun _ h => h) hv5 dX5_goBack_18 ?_
  obtain ⟨μ6, hμ6, hw⟩ := hw
  refine j_putz (C := RX5) (T := TX5) (N := 9) (ci := 8) (r := (some b)) (v := .long v5) hx hb hfX5 tyX5 tyX5_ok nmX5 hown hK hI rfl 5 (by decide) (hts (.fieldLink RX5 22 "CashPools$Line" "sum" "J") (List.mem_of_getElem? (i := 6) (by decide +kernel))) (fun _ h => h) rfl (tyX5_ok 5 (by decide)) rfl rfl hμ6 dX5_goBack_21 (fun H locs hI => ?_)
  exact j_vretz hx hb hr hlocks hI hw (by omega) (by omega) dX5_goBack_24
set_option maxHeartbeats 4000000 in
set_option maxRecDepth 100000 in
theorem kX5_goBack (l : Launch) (hfl : l.stackTraces = false) (D : jD) (z : Nat × Nat) (b : Nat)  (μ : jM) (sz : Nat) (Q : Unit → jM → Prop) : Met l yX5_goBack wsX5_goBack rmX5_goBack (jPre2z D z μ sz [.ref b] (wX5_goBack z b  μ Q)) (jRz jfV Q D z (jA z μ sz)) 0 0 (jA z μ sz) := by
  refine Met.ofW (cc := cX5_goBack) (maxL := 1) (ret := none) (by decide) rfl ?_
  intro p e s m args below meth c s₁ B hml hv
  obtain ⟨rfl, hsz, hH, hz0, hK, hG, hw⟩ := hv
  subst hsz
  have hX : jX2 D z (jA z μ s.heap.size) p l s m _ meth c yX5_goBack cX5_goBack 1 wsX5_goBack none := ⟨B.exec, B.bytes, hml, findClass_of_methodNamed B.named, atoms_spec (ws := wsX5_goBack) B.pre, B.returns, B.notSynchronized, (name_of_methodNamed B.named B.method).1, hK, hG, hfl⟩
  obtain ⟨ls, hg, hl⟩ : ∃ ls : Array Slot, entryFrame m ([.ref b] : List Value).toArray 1 = F0 m 0 ls [] ∧ lv_has ls 1 [(0, va_rf (some b))] := by
    exact ⟨_, lg_entry_eq .., lv_entry _ (n := 1) (Nat.le_of_ble_eq_true rfl)⟩
  rw [hg]
  exact kX5_goBack_0 hX hw (jIz.start hH hz0) (lv_sub hl [0] rfl) (by decide) (by decide)
set_option maxHeartbeats 4000000 in
set_option maxRecDepth 100000 in
theorem kX4_goBack_0 {b : Nat} (hX : jX2 D z A p l s m args meth c yX4_goBack cX4_goBack 1 wsX4_goBack none) {Q : Unit → jM → Prop}   {μ : jM} {H : Heap} {locs : List Loc} {ls : Array Slot} {cells slots : Nat} (hw : wX4_goBack_0 z b Q  μ) (hI : jIz D z A s.heap μ H locs) (hl : lv_has ls 1 [(0, va_rf (some b))]) (hcn : cells + 0 ≤ 0) (hsn : slots + 0 ≤ 0) : W p l e rmX4_goBack s m args below meth c H locs cells slots (MQ below (jRz jfV Q D z A) args s 0 0 A) (F0 m 0 ls []) := by
  unfold wX4_goBack_0 at hw
  obtain ⟨hx, hb, hml, hown, hts, hr, hlocks, hnm, hK, hG, hfl⟩ := id hX
  have hown : s.vm.findClass RX4 = some m.cls := hown
  have hfX4 : ∀ w ∈ wsX40, w.before args s = true := fun w h => hts w (List.mem_cons_of_mem _ (List.mem_append_right _ h))
  refine j_aload_n (r := (some b)) hx hb dX4_goBack_0 rfl (lv_at hl 0 rfl) ?_
  refine j_aload_n (r := (some b)) hx hb dX4_goBack_1 rfl (lv_at hl 0 rfl) ?_
  obtain ⟨v1, hv1, hw⟩ := hw
  refine j_getz (C := RX4) (T := TX4) (N := 7) (ci := 7) (r := (some b)) (v := .int v1) hx hb hfX4 hown hK hI rfl 5 (by decide) (hts (.fieldLink RX4 38 "CashPools$Flow" "keptDue" "I") (List.mem_of_getElem? (i := 1) (by decide +kernel))) (fun _ h => h) hv1 dX4_goBack_2 ?_
  obtain ⟨μ2, hμ2, hw⟩ := hw
  refine j_putz (C := RX4) (T := TX4) (N := 7) (ci := 7) (r := (some b)) (v := .int v1) hx hb hfX4 tyX4 tyX4_ok nmX4 hown hK hI rfl 3 (by decide) (hts (.fieldLink RX4 20 "CashPools$Flow" "due" "I") (List.mem_of_getElem? (i := 2) (by decide +kernel))) (fun _ h => h) rfl (tyX4_ok 3 (by decide)) rfl rfl hμ2 dX4_goBack_5 (fun H locs hI => ?_)
  refine j_aload_n (r := (some b)) hx hb dX4_goBack_8 rfl (lv_at hl 0 rfl) ?_
  refine j_aload_n (r := (some b)) hx hb dX4_goBack_9 rfl (lv_at hl 0 rfl) ?_
  obtain ⟨v3, hv3, hw⟩ := hw
  refine j_getz (C := RX4) (T := TX4) (N := 7) (ci := 7) (r := (some b)) (v := .int v3) hx hb hfX4 hown hK hI rfl 6 (by decide) (hts (.fieldLink RX4 41 "CashPools$Flow" "keptLeft" "I") (List.mem_of_getElem? (i := 3) (by decide +kernel))) (fun _ h => h) hv3 dX4_goBack_10 ?_
  obtain ⟨μ4, hμ4, hw⟩ := hw
  refine j_putz (C := RX4) (T := TX4) (N := 7) (ci := 7) (r := (some b)) (v := .int v3) hx hb hfX4 tyX4 tyX4_ok nmX4 hown hK hI rfl 4 (by decide) (hts (.fieldLink RX4 23 "CashPools$Flow" "left" "I") (List.mem_of_getElem? (i := 4) (by decide +kernel))) (fun _ h => h) rfl (tyX4_ok 4 (by decide)) rfl rfl hμ4 dX4_goBack_13 (fun H locs hI => ?_)
  exact j_vretz hx hb hr hlocks hI hw (by omega) (by omega) dX4_goBack_16
set_option maxHeartbeats 4000000 in
set_option maxRecDepth 100000 in
theorem kX4_goBack (l : Launch) (hfl : l.stackTraces = false) (D : jD) (z : Nat × Nat) (b : Nat)  (μ : jM) (sz : Nat) (Q : Unit → jM → Prop) : Met l yX4_goBack wsX4_goBack rmX4_goBack (jPre2z D z μ sz [.ref b] (wX4_goBack z b  μ Q)) (jRz jfV Q D z (jA z μ sz)) 0 0 (jA z μ sz) := by
  refine Met.ofW (cc := cX4_goBack) (maxL := 1) (ret := none) (by decide) rfl ?_
  intro p e s m args below meth c s₁ B hml hv
  obtain ⟨rfl, hsz, hH, hz0, hK, hG, hw⟩ := hv
  subst hsz
  have hX : jX2 D z (jA z μ s.heap.size) p l s m _ meth c yX4_goBack cX4_goBack 1 wsX4_goBack none := ⟨B.exec, B.bytes, hml, findClass_of_methodNamed B.named, atoms_spec (ws := wsX4_goBack) B.pre, B.returns, B.notSynchronized, (name_of_methodNamed B.named B.method).1, hK, hG, hfl⟩
  obtain ⟨ls, hg, hl⟩ : ∃ ls : Array Slot, entryFrame m ([.ref b] : List Value).toArray 1 = F0 m 0 ls [] ∧ lv_has ls 1 [(0, va_rf (some b))] := by
    exact ⟨_, lg_entry_eq .., lv_entry _ (n := 1) (Nat.le_of_ble_eq_true rfl)⟩
  rw [hg]
  exact kX4_goBack_0 hX hw (jIz.start hH hz0) (lv_sub hl [0] rfl) (by decide) (by decide)
end
