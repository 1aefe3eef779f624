section
variable {p : Program} {l : Launch} {e : Env} {s : State} {m : MethodId} {args : Array Value} {below : List Frame} {meth : Method} {c : Code} {D : jD} {z : Nat × Nat} {A : Nat → Prop}
set_option maxHeartbeats 4000000 in
set_option maxRecDepth 100000 in
theorem kX10_split_172 {b : Nat} (hX : jX2 D z A p l s m args meth c yX10_split cX10_split 13 wsX10_split none) {Q : Unit → jM → Prop} {K159 : Int32 → Int64 → jM → Prop} (hK159 : ∀ {x5 : Int32} {x8 : Int64} {μ : jM} {H : Heap} {locs : List Loc} {ls : Array Slot} {cells slots : Nat}, K159 x5 x8 μ → jIz D z A s.heap μ H locs → lv_has ls 13 [(0, va_rf (some b)), (5, .int x5), (8, .long x8)] → cells + 0 ≤ 0 → slots + 0 ≤ 0 → W p l e rmX10_split s m args below meth c H locs cells slots (MQ below (jRz jfV Q D z A) args s 0 0 A) (F0 m 159 ls [])) (n : Nat) : ∀ {x5 : Int32} {x8 : Int64} {x10 : Int32} {x11 : Int32} {μ : jM} {H : Heap} {locs : List Loc} {ls : Array Slot} {cells slots : Nat}, wX10_split_172 z b K159 Q n x5 x8 x10 x11 μ → jIz D z A s.heap μ H locs → lv_has ls 13 [(0, va_rf (some b)), (5, .int x5), (8, .long x8), (10, .int x10), (11, .int x11)] → cells + 0 ≤ 0 → slots + 0 ≤ 0 → W p l e rmX10_split s m args below meth c H locs cells slots (MQ below (jRz jfV Q D z A) args s 0 0 A) (F0 m 172 ls []) := by
  induction n with
  | zero =>
    intros
    rename_i hw _ _ _ _
    exact (show False from hw).elim
  | succ n ih =>
    intro x5 x8 x10 x11 μ H locs ls cells slots hw hI hl hcn hsn
    have hw : wX10_split_172_b z b K159 Q (wX10_split_172 z b K159 Q n) x5 x8 x10 x11 μ := hw
    unfold wX10_split_172_b at hw
    obtain ⟨hx, hb, hml, hown, hts, hr, hlocks, hnm, hK, hG, hfl⟩ := id hX
    have hown : s.vm.findClass RX10 = some m.cls := hown
    have hfX10 : ∀ w ∈ wsX100, w.before args s = true := fun w h => hts w (List.mem_cons_of_mem _ (List.mem_append_right _ h))
    refine lv_iload hx hb dX10_split_172 (lv_at hl 4 rfl) ?_
    refine j_aload_n (r := (some b)) hx hb dX10_split_174 rfl (lv_at hl 0 rfl) ?_
    obtain ⟨v1, hv1, hw⟩ := hw
    refine j_getz (C := RX10) (T := TX10) (N := 25) (ci := 12) (r := (some b)) (v := .int v1) hx hb hfX10 hown hK hI rfl 0 (by decide) (hts (.fieldLink RX10 79 "CashPoolsModel" "accounts" "I") (List.mem_of_getElem? (i := 1) (by decide +kernel))) (fun _ h => h) hv1 dX10_split_175 ?_
    refine lv_icmp_ge (tgt := 214) hx hb dX10_split_178 (by decide) (fun hc => ?_) (fun hc => ?_)
    · have hw := hw.1 hc
      refine j_aload_n (r := (some b)) hx hb dX10_split_214 rfl (lv_at hl 0 rfl) ?_
      refine lv_iload hx hb dX10_split_215 (lv_at hl 3 rfl) ?_
      refine lv_iload hx hb dX10_split_217 (lv_at hl 1 rfl) ?_
      refine lv_i2l hx hb dX10_split_219 rfl ?_
      obtain ⟨hfs, hw⟩ := hw
      refine j_goz hI (va_runV (As := [.int x10, .long (Int32.toInt64 x5)]) (rest := []) ⟨hx, hb, hml, hown, hts⟩ (kX10_gets l hfl D z b x10 (Int32.toInt64 x5) μ H.size _) (cwV 2 hts gX10_split_X10_gets rfl rfl rfl (by decide +kernel) ⟨Nat.le_of_ble_eq_true rfl, Nat.le_of_ble_eq_true rfl⟩) (j_prV2z hK hG hI hw (ci := 12) rfl hfs) rfl rfl hl.1 rfl (lv_room (Nat.le_of_ble_eq_true rfl)) dX10_split_220 ⟨by show _ ≤ 0; omega, by show _ ≤ 0; omega⟩) (fun u2 μ3 H locs hw hI => ?_)
      refine W.eq (g2 := F0 m 223 ls []) rfl ?_
      refine j_aload_n (r := (some b)) hx hb dX10_split_223 rfl (lv_at hl 0 rfl) ?_
      obtain ⟨v4, hv4, hw⟩ := hw
      refine j_getz (C := RX10) (T := TX10) (N := 25) (ci := 12) (r := (some b)) (v := va_rf v4) hx hb hfX10 hown hK hI rfl 23 (by decide) (hts (.fieldLink RX10 72 "CashPoolsModel" "left" "[J") (List.mem_of_getElem? (i := 4) (by decide +kernel))) (fun _ h => h) hv4 dX10_split_224 ?_
      refine lv_iload hx hb dX10_split_227 (lv_at hl 3 rfl) ?_
      refine lv_ldc2 (v := (-1)) hx hb hown (hts (.constantLong RX10 149 (-1)) (List.mem_of_getElem? (i := 5) (by decide +kernel))) dX10_split_229 ?_
      obtain ⟨μ5, hμ5, hw⟩ := hw
      refine j_lastz (r := v4) hx hb hK hI hμ5 dX10_split_232 (fun H locs hI => ?_)
      refine lv_lload hx hb dX10_split_233 (lv_at hl 2 rfl) ?_
      refine lv_lconst (v := (1)) hx hb dX10_split_235 (by decide) ?_
      refine lv_lsub hx hb dX10_split_236 ?_
      refine lv_topl (fun v6 ev6 => ?_)
      have hw := hw v6 ev6
      refine lv_lstore (lv' := [(8, .long v6), (0, va_rf (some b)), (5, .int x5), (10, .int x10), (11, .int x11)]) hx hb dX10_split_237 hl (by decide) rfl (fun ls hl => ?_)
      refine lv_goto (tgt := 159) hx hb dX10_split_239 (by decide) ?_
      exact hK159 hw hI (lv_sub hl [1, 2, 0] rfl) (by omega) (by omega)
    · have hw := hw.2 hc
      refine j_aload_n (r := (some b)) hx hb dX10_split_181 rfl (lv_at hl 0 rfl) ?_
      obtain ⟨v7, hv7, hw⟩ := hw
      refine j_getz (C := RX10) (T := TX10) (N := 25) (ci := 12) (r := (some b)) (v := va_rf v7) hx hb hfX10 hown hK hI rfl 23 (by decide) (hts (.fieldLink RX10 72 "CashPoolsModel" "left" "[J") (List.mem_of_getElem? (i := 4) (by decide +kernel))) (fun _ h => h) hv7 dX10_split_182 ?_
      refine lv_iload hx hb dX10_split_185 (lv_at hl 4 rfl) ?_
      obtain ⟨v8, hv8, hw⟩ := hw
      refine j_laldz (r := v7) hx hb hK hI hv8 dX10_split_187 ?_
      refine j_aload_n (r := (some b)) hx hb dX10_split_188 rfl (lv_at hl 0 rfl) ?_
      obtain ⟨v9, hv9, hw⟩ := hw
      refine j_getz (C := RX10) (T := TX10) (N := 25) (ci := 12) (r := (some b)) (v := va_rf v9) hx hb hfX10 hown hK hI rfl 23 (by decide) (hts (.fieldLink RX10 72 "CashPoolsModel" "left" "[J") (List.mem_of_getElem? (i := 4) (by decide +kernel))) (fun _ h => h) hv9 dX10_split_189 ?_
      refine lv_iload hx hb dX10_split_192 (lv_at hl 3 rfl) ?_
      obtain ⟨v10, hv10, hw⟩ := hw
      refine j_laldz (r := v9) hx hb hK hI hv10 dX10_split_194 ?_
      refine j_lcmp_le (tgt := 204) hx hb dX10_split_195 dX10_split_196 (by decide) (fun hc => ?_) (fun hc => ?_)
      · have hw := hw.1 hc
        refine lv_iload hx hb dX10_split_204 (lv_at hl 3 rfl) ?_
        refine lv_istore (lv' := [(10, .int x10), (0, va_rf (some b)), (5, .int x5), (8, .long x8), (11, .int x11)]) hx hb dX10_split_206 hl (by decide) rfl (fun ls hl => ?_)
        obtain ⟨v11, ev11⟩ : ∃ y : Int32, y = x11 + (1 : Int32) := ⟨_, rfl⟩
        have hw := hw v11 ev11
        refine lv_iinc (v := v11) (lv' := [(11, .int v11), (10, .int x10), (0, va_rf (some b)), (5, .int x5), (8, .long x8)]) hx hb dX10_split_208 hl (k := 4) rfl (by rw [ev11]; rfl) (by decide) rfl (fun ls hl => ?_)
        refine lv_goto (tgt := 172) hx hb dX10_split_211 (by decide) ?_
        exact ih hw hI (lv_sub hl [2, 3, 4, 1, 0] rfl) (by omega) (by omega)
      · have hw := hw.2 hc
        refine lv_iload hx hb dX10_split_199 (lv_at hl 4 rfl) ?_
        refine lv_goto (tgt := 206) hx hb dX10_split_201 (by decide) ?_
        refine lv_istore (lv' := [(10, .int x11), (0, va_rf (some b)), (5, .int x5), (8, .long x8), (11, .int x11)]) hx hb dX10_split_206 hl (by decide) rfl (fun ls hl => ?_)
        obtain ⟨v12, ev12⟩ : ∃ y : Int32, y = x11 + (1 : Int32) := ⟨_, rfl⟩
        have hw := hw v12 ev12
        refine lv_iinc (v := v12) (lv' := [(11, .int v12), (10, .int x11), (0, va_rf (some b)), (5, .int x5), (8, .long x8)]) hx hb dX10_split_208 hl (k := 4) rfl (by rw [ev12]; rfl) (by decide) rfl (fun ls hl => ?_)
        refine lv_goto (tgt := 172) hx hb dX10_split_211 (by decide) ?_
        exact ih hw hI (lv_sub hl [2, 3, 4, 1, 0] rfl) (by omega) (by omega)
set_option maxHeartbeats 4000000 in
set_option maxRecDepth 100000 in
theorem kX10_split_159 {b : Nat} (hX : jX2 D z A p l s m args meth c yX10_split cX10_split 13 wsX10_split none) {Q : Unit → jM → Prop}  (n : Nat) : ∀ {x5 : Int32} {x8 : Int64} {μ : jM} {H : Heap} {locs : List Loc} {ls : Array Slot} {cells slots : Nat}, wX10_split_159 z b Q n x5 x8 μ → jIz D z A s.heap μ H locs → lv_has ls 13 [(0, va_rf (some b)), (5, .int x5), (8, .long x8)] → cells + 0 ≤ 0 → slots + 0 ≤ 0 → W p l e rmX10_split s m args below meth c H locs cells slots (MQ below (jRz jfV Q D z A) args s 0 0 A) (F0 m 159 ls []) := by
  induction n with
  | zero =>
    intros
    rename_i hw _ _ _ _
    exact (show False from hw).elim
  | succ n ih =>
    intro x5 x8 μ H locs ls cells slots hw hI hl hcn hsn
    have hw : wX10_split_159_b z b Q (wX10_split_159 z b Q n) x5 x8 μ := hw
    unfold wX10_split_159_b at hw
    obtain ⟨hx, hb, hml, hown, hts, hr, hlocks, hnm, hK, hG, hfl⟩ := id hX
    have hown : s.vm.findClass RX10 = some m.cls := hown
    refine lv_lload hx hb dX10_split_159 (lv_at hl 2 rfl) ?_
    refine lv_lconst (v := (0)) hx hb dX10_split_161 (by decide) ?_
    refine j_lcmp_le (tgt := 242) hx hb dX10_split_162 dX10_split_163 (by decide) (fun hc => ?_) (fun hc => ?_)
    · have hw := hw.1 hc
      exact j_vretz hx hb hr hlocks hI hw (by omega) (by omega) dX10_split_242
    · have hw := hw.2 hc
      refine lv_iconst (v := (0)) hx hb dX10_split_166 (by decide) ?_
      refine lv_topi (fun v1 ev1 => ?_)
      have hw := hw v1 ev1
      refine lv_istore (lv' := [(10, .int v1), (0, va_rf (some b)), (5, .int x5), (8, .long x8)]) hx hb dX10_split_167 hl (by decide) rfl (fun ls hl => ?_)
      refine lv_iconst (v := (1)) hx hb dX10_split_169 (by decide) ?_
      refine lv_topi (fun v2 ev2 => ?_)
      have hw := hw v2 ev2
      refine lv_istore (lv' := [(11, .int v2), (10, .int v1), (0, va_rf (some b)), (5, .int x5), (8, .long x8)]) hx hb dX10_split_170 hl (by decide) rfl (fun ls hl => ?_)
      obtain ⟨n3, hw⟩ := hw
      exact kX10_split_172 hX ih n3 hw hI (lv_sub hl [2, 3, 4, 1, 0] rfl) (by omega) (by omega)
set_option maxHeartbeats 4000000 in
set_option maxRecDepth 100000 in
theorem kX10_split_65 {b : Nat} (hX : jX2 D z A p l s m args meth c yX10_split cX10_split 13 wsX10_split none) {Q : Unit → jM → Prop}  (n : Nat) : ∀ {x1 : Int32} {x2 : Int64} {x4 : Int32} {x5 : Int32} {x6 : Int64} {x8 : Int64} {x10 : Int32} {μ : jM} {H : Heap} {locs : List Loc} {ls : Array Slot} {cells slots : Nat}, wX10_split_65 z b Q n x1 x2 x4 x5 x6 x8 x10 μ → jIz D z A s.heap μ H locs → lv_has ls 13 [(0, va_rf (some b)), (1, .int x1), (2, .long x2), (4, .int x4), (5, .int x5), (6, .long x6), (8, .long x8), (10, .int x10)] → cells + 0 ≤ 0 → slots + 0 ≤ 0 → W p l e rmX10_split s m args below meth c H locs cells slots (MQ below (jRz jfV Q D z A) args s 0 0 A) (F0 m 65 ls []) := by
  induction n with
  | zero =>
    intros
    rename_i hw _ _ _ _
    exact (show False from hw).elim
  | succ n ih =>
    intro x1 x2 x4 x5 x6 x8 x10 μ H locs ls cells slots hw hI hl hcn hsn
    have hw : wX10_split_65_b z b Q (wX10_split_65 z b Q n) x1 x2 x4 x5 x6 x8 x10 μ := hw
    unfold wX10_split_65_b at hw
    obtain ⟨hx, hb, hml, hown, hts, hr, hlocks, hnm, hK, hG, hfl⟩ := id hX
    have hown : s.vm.findClass RX10 = some m.cls := hown
    have hfX10 : ∀ w ∈ wsX100, w.before args s = true := fun w h => hts w (List.mem_cons_of_mem _ (List.mem_append_right _ h))
    refine lv_iload hx hb dX10_split_65 (lv_at hl 7 rfl) ?_
    refine j_aload_n (r := (some b)) hx hb dX10_split_67 rfl (lv_at hl 0 rfl) ?_
    obtain ⟨v1, hv1, hw⟩ := hw
    refine j_getz (C := RX10) (T := TX10) (N := 25) (ci := 12) (r := (some b)) (v := .int v1) hx hb hfX10 hown hK hI rfl 0 (by decide) (hts (.fieldLink RX10 79 "CashPoolsModel" "accounts" "I") (List.mem_of_getElem? (i := 1) (by decide +kernel))) (fun _ h => h) hv1 dX10_split_68 ?_
    refine lv_icmp_ge (tgt := 159) hx hb dX10_split_71 (by decide) (fun hc => ?_) (fun hc => ?_)
    · have hw := hw.1 hc
      obtain ⟨n2, hw⟩ := hw
      exact kX10_split_159 hX  n2 hw hI (lv_sub hl [0, 4, 6] rfl) (by omega) (by omega)
    · have hw := hw.2 hc
      refine j_aload_n (r := (some b)) hx hb dX10_split_74 rfl (lv_at hl 0 rfl) ?_
      obtain ⟨v3, hv3, hw⟩ := hw
      refine j_getz (C := RX10) (T := TX10) (N := 25) (ci := 12) (r := (some b)) (v := va_rf v3) hx hb hfX10 hown hK hI rfl 23 (by decide) (hts (.fieldLink RX10 72 "CashPoolsModel" "left" "[J") (List.mem_of_getElem? (i := 4) (by decide +kernel))) (fun _ h => h) hv3 dX10_split_75 ?_
      refine lv_iload hx hb dX10_split_78 (lv_at hl 7 rfl) ?_
      refine lv_ldc2 (v := (-1)) hx hb hown (hts (.constantLong RX10 149 (-1)) (List.mem_of_getElem? (i := 5) (by decide +kernel))) dX10_split_80 ?_
      obtain ⟨μ4, hμ4, hw⟩ := hw
      refine j_lastz (r := v3) hx hb hK hI hμ4 dX10_split_83 (fun H locs hI => ?_)
      refine j_aload_n (r := (some b)) hx hb dX10_split_84 rfl (lv_at hl 0 rfl) ?_
      obtain ⟨v5, hv5, hw⟩ := hw
      refine j_getz (C := RX10) (T := TX10) (N := 25) (ci := 12) (r := (some b)) (v := va_rf v5) hx hb hfX10 hown hK hI rfl 6 (by decide) (hts (.fieldLink RX10 20 "CashPoolsModel" "top" "[I") (List.mem_of_getElem? (i := 2) (by decide +kernel))) (fun _ h => h) hv5 dX10_split_85 ?_
      refine lv_iload hx hb dX10_split_88 (lv_at hl 7 rfl) ?_
      obtain ⟨v6, hv6, hw⟩ := hw
      refine j_ialdz (r := v5) hx hb hK hI hv6 dX10_split_90 ?_
      refine lv_iload_n hx hb dX10_split_91 rfl (lv_at hl 1 rfl) ?_
      refine lv_icmp_ne (tgt := 153) hx hb dX10_split_92 (by decide) (fun hc => ?_) (fun hc => ?_)
      · have hw := hw.1 hc
        obtain ⟨v7, ev7⟩ : ∃ y : Int32, y = x10 + (1 : Int32) := ⟨_, rfl⟩
        have hw := hw v7 ev7
        refine lv_iinc (v := v7) (lv' := [(10, .int v7), (0, va_rf (some b)), (1, .int x1), (2, .long x2), (4, .int x4), (5, .int x5), (6, .long x6), (8, .long x8)]) hx hb dX10_split_153 hl (k := 7) rfl (by rw [ev7]; rfl) (by decide) rfl (fun ls hl => ?_)
        refine lv_goto (tgt := 65) hx hb dX10_split_156 (by decide) ?_
        exact ih hw hI (lv_sub hl [1, 2, 3, 4, 5, 6, 7, 0] rfl) (by omega) (by omega)
      · have hw := hw.2 hc
        refine lv_lload_n hx hb dX10_split_95 rfl (lv_at hl 2 rfl) ?_
        refine j_aload_n (r := (some b)) hx hb dX10_split_96 rfl (lv_at hl 0 rfl) ?_
        obtain ⟨v8, hv8, hw⟩ := hw
        refine j_getz (C := RX10) (T := TX10) (N := 25) (ci := 12) (r := (some b)) (v := va_rf v8) hx hb hfX10 hown hK hI rfl 3 (by decide) (hts (.fieldLink RX10 7 "CashPoolsModel" "z" "[J") (List.mem_of_getElem? (i := 3) (by decide +kernel))) (fun _ h => h) hv8 dX10_split_97 ?_
        refine lv_iload hx hb dX10_split_100 (lv_at hl 3 rfl) ?_
        refine lv_iload hx hb dX10_split_102 (lv_at hl 7 rfl) ?_
        refine lv_iadd hx hb dX10_split_104 ?_
        obtain ⟨v9, hv9, hw⟩ := hw
        refine j_laldz (r := v8) hx hb hK hI hv9 dX10_split_105 ?_
        refine lv_lmul hx hb dX10_split_106 ?_
        refine lv_lload hx hb dX10_split_107 (lv_at hl 5 rfl) ?_
        obtain ⟨h10, hw⟩ := hw
        refine lv_ldiv hx hb dX10_split_109 h10 ?_
        refine lv_topl (fun v11 ev11 => ?_)
        have hw := hw v11 ev11
        refine lv_lstore (lv' := [(11, .long v11), (0, va_rf (some b)), (1, .int x1), (2, .long x2), (4, .int x4), (5, .int x5), (6, .long x6), (8, .long x8), (10, .int x10)]) hx hb dX10_split_110 hl (by decide) rfl (fun ls hl => ?_)
        refine j_aload_n (r := (some b)) hx hb dX10_split_112 rfl (lv_at hl 1 rfl) ?_
        obtain ⟨v12, hv12, hw⟩ := hw
        refine j_getz (C := RX10) (T := TX10) (N := 25) (ci := 12) (r := (some b)) (v := va_rf v12) hx hb hfX10 hown hK hI rfl 23 (by decide) (hts (.fieldLink RX10 72 "CashPoolsModel" "left" "[J") (List.mem_of_getElem? (i := 4) (by decide +kernel))) (fun _ h => h) hv12 dX10_split_113 ?_
        refine lv_iload hx hb dX10_split_116 (lv_at hl 8 rfl) ?_
        refine lv_lload_n hx hb dX10_split_118 rfl (lv_at hl 3 rfl) ?_
        refine j_aload_n (r := (some b)) hx hb dX10_split_119 rfl (lv_at hl 1 rfl) ?_
        obtain ⟨v13, hv13, hw⟩ := hw
        refine j_getz (C := RX10) (T := TX10) (N := 25) (ci := 12) (r := (some b)) (v := va_rf v13) hx hb hfX10 hown hK hI rfl 3 (by decide) (hts (.fieldLink RX10 7 "CashPoolsModel" "z" "[J") (List.mem_of_getElem? (i := 3) (by decide +kernel))) (fun _ h => h) hv13 dX10_split_120 ?_
        refine lv_iload hx hb dX10_split_123 (lv_at hl 4 rfl) ?_
        refine lv_iload hx hb dX10_split_125 (lv_at hl 8 rfl) ?_
        refine lv_iadd hx hb dX10_split_127 ?_
        obtain ⟨v14, hv14, hw⟩ := hw
        refine j_laldz (r := v13) hx hb hK hI hv14 dX10_split_128 ?_
        refine lv_lmul hx hb dX10_split_129 ?_
        refine lv_lload hx hb dX10_split_130 (lv_at hl 6 rfl) ?_
        obtain ⟨h15, hw⟩ := hw
        refine lv_lrem hx hb dX10_split_132 h15 ?_
        obtain ⟨μ16, hμ16, hw⟩ := hw
        refine j_lastz (r := v12) hx hb hK hI hμ16 dX10_split_133 (fun H locs hI => ?_)
        refine lv_lload hx hb dX10_split_134 (lv_at hl 7 rfl) ?_
        refine lv_lload hx hb dX10_split_136 (lv_at hl 0 rfl) ?_
        refine lv_lsub hx hb dX10_split_138 ?_
        refine lv_topl (fun v17 ev17 => ?_)
        have hw := hw v17 ev17
        refine lv_lstore (lv' := [(8, .long v17), (11, .long v11), (0, va_rf (some b)), (1, .int x1), (2, .long x2), (4, .int x4), (5, .int x5), (6, .long x6), (10, .int x10)]) hx hb dX10_split_139 hl (by decide) rfl (fun ls hl => ?_)
        refine j_aload_n (r := (some b)) hx hb dX10_split_141 rfl (lv_at hl 2 rfl) ?_
        refine lv_iload hx hb dX10_split_142 (lv_at hl 8 rfl) ?_
        refine lv_iload hx hb dX10_split_144 (lv_at hl 6 rfl) ?_
        refine lv_i2l hx hb dX10_split_146 rfl ?_
        refine lv_lload hx hb dX10_split_147 (lv_at hl 1 rfl) ?_
        refine lv_lmul hx hb dX10_split_149 ?_
        obtain ⟨hfs, hw⟩ := hw
        refine j_goz hI (va_runV (As := [.int x10, .long ((Int32.toInt64 x5) * v11)]) (rest := []) ⟨hx, hb, hml, hown, hts⟩ (kX10_gets l hfl D z b x10 ((Int32.toInt64 x5) * v11) μ16 H.size _) (cwV 2 hts gX10_split_X10_gets rfl rfl rfl (by decide +kernel) ⟨Nat.le_of_ble_eq_true rfl, Nat.le_of_ble_eq_true rfl⟩) (j_prV2z hK hG hI hw (ci := 12) rfl hfs) rfl rfl hl.1 rfl (lv_room (Nat.le_of_ble_eq_true rfl)) dX10_split_150 ⟨by show _ ≤ 0; omega, by show _ ≤ 0; omega⟩) (fun u18 μ19 H locs hw hI => ?_)
        refine W.eq (g2 := F0 m 153 ls []) rfl ?_
        obtain ⟨v20, ev20⟩ : ∃ y : Int32, y = x10 + (1 : Int32) := ⟨_, rfl⟩
        have hw := hw v20 ev20
        refine lv_iinc (v := v20) (lv' := [(10, .int v20), (8, .long v17), (11, .long v11), (0, va_rf (some b)), (1, .int x1), (2, .long x2), (4, .int x4), (5, .int x5), (6, .long x6)]) hx hb dX10_split_153 hl (k := 8) rfl (by rw [ev20]; rfl) (by decide) rfl (fun ls hl => ?_)
        refine lv_goto (tgt := 65) hx hb dX10_split_156 (by decide) ?_
        exact ih hw hI (lv_sub hl [3, 4, 5, 6, 7, 8, 1, 0] rfl) (by omega) (by omega)
set_option maxHeartbeats 4000000 in
set_option maxRecDepth 100000 in
theorem kX10_split_6 {b : Nat} (hX : jX2 D z A p l s m args meth c yX10_split cX10_split 13 wsX10_split none) {Q : Unit → jM → Prop}  (n : Nat) : ∀ {x1 : Int32} {x2 : Int64} {x4 : Int32} {x5 : Int32} {x6 : Int64} {x8 : Int32} {μ : jM} {H : Heap} {locs : List Loc} {ls : Array Slot} {cells slots : Nat}, wX10_split_6 z b Q n x1 x2 x4 x5 x6 x8 μ → jIz D z A s.heap μ H locs → lv_has ls 13 [(0, va_rf (some b)), (1, .int x1), (2, .long x2), (4, .int x4), (5, .int x5), (6, .long x6), (8, .int x8)] → cells + 0 ≤ 0 → slots + 0 ≤ 0 → W p l e rmX10_split s m args below meth c H locs cells slots (MQ below (jRz jfV Q D z A) args s 0 0 A) (F0 m 6 ls []) := by
  induction n with
  | zero =>
    intros
    rename_i hw _ _ _ _
    exact (show False from hw).elim
  | succ n ih =>
    intro x1 x2 x4 x5 x6 x8 μ H locs ls cells slots hw hI hl hcn hsn
    have hw : wX10_split_6_b z b Q (wX10_split_6 z b Q n) x1 x2 x4 x5 x6 x8 μ := hw
    unfold wX10_split_6_b at hw
    obtain ⟨hx, hb, hml, hown, hts, hr, hlocks, hnm, hK, hG, hfl⟩ := id hX
    have hown : s.vm.findClass RX10 = some m.cls := hown
    have hfX10 : ∀ w ∈ wsX100, w.before args s = true := fun w h => hts w (List.mem_cons_of_mem _ (List.mem_append_right _ h))
    refine lv_iload hx hb dX10_split_6 (lv_at hl 6 rfl) ?_
    refine j_aload_n (r := (some b)) hx hb dX10_split_8 rfl (lv_at hl 0 rfl) ?_
    obtain ⟨v1, hv1, hw⟩ := hw
    refine j_getz (C := RX10) (T := TX10) (N := 25) (ci := 12) (r := (some b)) (v := .int v1) hx hb hfX10 hown hK hI rfl 0 (by decide) (hts (.fieldLink RX10 79 "CashPoolsModel" "accounts" "I") (List.mem_of_getElem? (i := 1) (by decide +kernel))) (fun _ h => h) hv1 dX10_split_9 ?_
    refine lv_icmp_ge (tgt := 51) hx hb dX10_split_12 (by decide) (fun hc => ?_) (fun hc => ?_)
    · have hw := hw.1 hc
      refine lv_lload hx hb dX10_split_51 (lv_at hl 5 rfl) ?_
      refine lv_lconst (v := (0)) hx hb dX10_split_53 (by decide) ?_
      refine j_lcmp_ne (tgt := 59) hx hb dX10_split_54 dX10_split_55 (by decide) (fun hc => ?_) (fun hc => ?_)
      · have hw := hw.1 hc
        refine lv_lload_n hx hb dX10_split_59 rfl (lv_at hl 2 rfl) ?_
        refine lv_lstore (lv' := [(8, .long x2), (0, va_rf (some b)), (1, .int x1), (2, .long x2), (4, .int x4), (5, .int x5), (6, .long x6)]) hx hb dX10_split_60 hl (by decide) rfl (fun ls hl => ?_)
        refine lv_iconst (v := (0)) hx hb dX10_split_62 (by decide) ?_
        refine lv_topi (fun v2 ev2 => ?_)
        have hw := hw v2 ev2
        refine lv_istore (lv' := [(10, .int v2), (8, .long x2), (0, va_rf (some b)), (1, .int x1), (2, .long x2), (4, .int x4), (5, .int x5), (6, .long x6)]) hx hb dX10_split_63 hl (by decide) rfl (fun ls hl => ?_)
        obtain ⟨n3, hw⟩ := hw
        exact kX10_split_65 hX  n3 hw hI (lv_sub hl [2, 3, 4, 5, 6, 7, 1, 0] rfl) (by omega) (by omega)
      · have hw := hw.2 hc
        exact j_vretz hx hb hr hlocks hI hw (by omega) (by omega) dX10_split_58
    · have hw := hw.2 hc
      refine lv_lload hx hb dX10_split_15 (lv_at hl 5 rfl) ?_
      refine j_aload_n (r := (some b)) hx hb dX10_split_17 rfl (lv_at hl 0 rfl) ?_
      obtain ⟨v4, hv4, hw⟩ := hw
      refine j_getz (C := RX10) (T := TX10) (N := 25) (ci := 12) (r := (some b)) (v := va_rf v4) hx hb hfX10 hown hK hI rfl 6 (by decide) (hts (.fieldLink RX10 20 "CashPoolsModel" "top" "[I") (List.mem_of_getElem? (i := 2) (by decide +kernel))) (fun _ h => h) hv4 dX10_split_18 ?_
      refine lv_iload hx hb dX10_split_21 (lv_at hl 6 rfl) ?_
      obtain ⟨v5, hv5, hw⟩ := hw
      refine j_ialdz (r := v4) hx hb hK hI hv5 dX10_split_23 ?_
      refine lv_iload_n hx hb dX10_split_24 rfl (lv_at hl 1 rfl) ?_
      refine lv_icmp_ne (tgt := 41) hx hb dX10_split_25 (by decide) (fun hc => ?_) (fun hc => ?_)
      · have hw := hw.1 hc
        refine lv_lconst (v := (0)) hx hb dX10_split_41 (by decide) ?_
        refine lv_ladd hx hb dX10_split_42 ?_
        refine lv_topl (fun v6 ev6 => ?_)
        have hw := hw v6 ev6
        refine lv_lstore (lv' := [(6, .long v6), (0, va_rf (some b)), (1, .int x1), (2, .long x2), (4, .int x4), (5, .int x5), (8, .int x8)]) hx hb dX10_split_43 hl (by decide) rfl (fun ls hl => ?_)
        obtain ⟨v7, ev7⟩ : ∃ y : Int32, y = x8 + (1 : Int32) := ⟨_, rfl⟩
        have hw := hw v7 ev7
        refine lv_iinc (v := v7) (lv' := [(8, .int v7), (6, .long v6), (0, va_rf (some b)), (1, .int x1), (2, .long x2), (4, .int x4), (5, .int x5)]) hx hb dX10_split_45 hl (k := 6) rfl (by rw [ev7]; rfl) (by decide) rfl (fun ls hl => ?_)
        refine lv_goto (tgt := 6) hx hb dX10_split_48 (by decide) ?_
        exact ih hw hI (lv_sub hl [2, 3, 4, 5, 6, 1, 0] rfl) (by omega) (by omega)
      · have hw := hw.2 hc
        refine j_aload_n (r := (some b)) hx hb dX10_split_28 rfl (lv_at hl 0 rfl) ?_
        obtain ⟨v8, hv8, hw⟩ := hw
        refine j_getz (C := RX10) (T := TX10) (N := 25) (ci := 12) (r := (some b)) (v := va_rf v8) hx hb hfX10 hown hK hI rfl 3 (by decide) (hts (.fieldLink RX10 7 "CashPoolsModel" "z" "[J") (List.mem_of_getElem? (i := 3) (by decide +kernel))) (fun _ h => h) hv8 dX10_split_29 ?_
        refine lv_iload hx hb dX10_split_32 (lv_at hl 3 rfl) ?_
        refine lv_iload hx hb dX10_split_34 (lv_at hl 6 rfl) ?_
        refine lv_iadd hx hb dX10_split_36 ?_
        obtain ⟨v9, hv9, hw⟩ := hw
        refine j_laldz (r := v8) hx hb hK hI hv9 dX10_split_37 ?_
        refine lv_goto (tgt := 42) hx hb dX10_split_38 (by decide) ?_
        refine lv_ladd hx hb dX10_split_42 ?_
        refine lv_topl (fun v10 ev10 => ?_)
        have hw := hw v10 ev10
        refine lv_lstore (lv' := [(6, .long v10), (0, va_rf (some b)), (1, .int x1), (2, .long x2), (4, .int x4), (5, .int x5), (8, .int x8)]) hx hb dX10_split_43 hl (by decide) rfl (fun ls hl => ?_)
        obtain ⟨v11, ev11⟩ : ∃ y : Int32, y = x8 + (1 : Int32) := ⟨_, rfl⟩
        have hw := hw v11 ev11
        refine lv_iinc (v := v11) (lv' := [(8, .int v11), (6, .long v10), (0, va_rf (some b)), (1, .int x1), (2, .long x2), (4, .int x4), (5, .int x5)]) hx hb dX10_split_45 hl (k := 6) rfl (by rw [ev11]; rfl) (by decide) rfl (fun ls hl => ?_)
        refine lv_goto (tgt := 6) hx hb dX10_split_48 (by decide) ?_
        exact ih hw hI (lv_sub hl [2, 3, 4, 5, 6, 1, 0] rfl) (by omega) (by omega)
set_option maxHeartbeats 4000000 in
set_option maxRecDepth 100000 in
theorem kX10_split_0 {b : Nat} (hX : jX2 D z A p l s m args meth c yX10_split cX10_split 13 wsX10_split none) {Q : Unit → jM → Prop}  {x1 : Int32} {x2 : Int64} {x4 : Int32} {x5 : Int32} {μ : jM} {H : Heap} {locs : List Loc} {ls : Array Slot} {cells slots : Nat} (hw : wX10_split_0 z b Q x1 x2 x4 x5 μ) (hI : jIz D z A s.heap μ H locs) (hl : lv_has ls 13 [(0, va_rf (some b)), (1, .int x1), (2, .long x2), (4, .int x4), (5, .int x5)]) (hcn : cells + 0 ≤ 0) (hsn : slots + 0 ≤ 0) : W p l e rmX10_split s m args below meth c H locs cells slots (MQ below (jRz jfV Q D z A) args s 0 0 A) (F0 m 0 ls []) := by
  unfold wX10_split_0 at hw
  obtain ⟨hx, hb, hml, hown, hts, hr, hlocks, hnm, hK, hG, hfl⟩ := id hX
  have hown : s.vm.findClass RX10 = some m.cls := hown
  refine lv_lconst (v := (0)) hx hb dX10_split_0 (by decide) ?_
  refine lv_topl (fun v1 ev1 => ?_)
  have hw := hw v1 ev1
  refine lv_lstore (lv' := [(6, .long v1), (0, va_rf (some b)), (1, .int x1), (2, .long x2), (4, .int x4), (5, .int x5)]) hx hb dX10_split_1 hl (by decide) rfl (fun ls hl => ?_)
  refine lv_iconst (v := (0)) hx hb dX10_split_3 (by decide) ?_
  refine lv_topi (fun v2 ev2 => ?_)
  have hw := hw v2 ev2
  refine lv_istore (lv' := [(8, .int v2), (6, .long v1), (0, va_rf (some b)), (1, .int x1), (2, .long x2), (4, .int x4), (5, .int x5)]) hx hb dX10_split_4 hl (by decide) rfl (fun ls hl => ?_)
  obtain ⟨n3, hw⟩ := hw
  exact kX10_split_6 hX  n3 hw hI (lv_sub hl [2, 3, 4, 5, 6, 1, 0] rfl) (by omega) (by omega)
set_option maxHeartbeats 4000000 in
set_option maxRecDepth 100000 in
theorem kX10_split (l : Launch) (hfl : l.stackTraces = false) (D : jD) (z : Nat × Nat) (b : Nat) (x1 : Int32) (x2 : Int64) (x4 : Int32) (x5 : Int32) (μ : jM) (sz : Nat) (Q : Unit → jM → Prop) : Met l yX10_split wsX10_split rmX10_split (jPre2z D z μ sz [.ref b, .int x1, .long x2, .int x4, .int x5] (wX10_split z b x1 x2 x4 x5 μ Q)) (jRz jfV Q D z (jA z μ sz)) 0 0 (jA z μ sz) := by
  refine Met.ofW (cc := cX10_split) (maxL := 13) (ret := none) (by decide) rfl ?_
  intro p e s m args below meth c s₁ B hml hv
  obtain ⟨rfl, hsz, hH, hz0, hK, hG, hw⟩ := hv
  subst hsz
  have hX : jX2 D z (jA z μ s.heap.size) p l s m _ meth c yX10_split cX10_split 13 wsX10_split none := ⟨B.exec, B.bytes, hml, findClass_of_methodNamed B.named, atoms_spec (ws := wsX10_split) B.pre, B.returns, B.notSynchronized, (name_of_methodNamed B.named B.method).1, hK, hG, hfl⟩
  obtain ⟨ls, hg, hl⟩ : ∃ ls : Array Slot, entryFrame m ([.ref b, .int x1, .long x2, .int x4, .int x5] : List Value).toArray 13 = F0 m 0 ls [] ∧ lv_has ls 13 [(0, va_rf (some b)), (1, .int x1), (2, .long x2), (4, .int x4), (5, .int x5)] := by
    exact ⟨_, lg_entry_eq .., lv_entry _ (n := 13) (Nat.le_of_ble_eq_true rfl)⟩
  rw [hg]
  exact kX10_split_0 hX hw (jIz.start hH hz0) (lv_sub hl [0, 1, 2, 3, 4] rfl) (by decide) (by decide)
set_option maxHeartbeats 4000000 in
set_option maxRecDepth 100000 in
theorem kX10_bookInterest_156 {b : Nat} (hX : jX2 D z A p l s m args meth c yX10_bookInterest cX10_bookInterest 6 wsX10_bookInterest none) {Q : Unit → jM → Prop}  (n : Nat) : ∀ {x1 : Int32} {μ : jM} {H : Heap} {locs : List Loc} {ls : Array Slot} {cells slots : Nat}, wX10_bookInterest_156 z b Q n x1 μ → jIz D z A s.heap μ H locs → lv_has ls 6 [(0, va_rf (some b)), (1, .int x1)] → cells + 0 ≤ 0 → slots + 0 ≤ 0 → W p l e rmX10_bookInterest s m args below meth c H locs cells slots (MQ below (jRz jfV Q D z A) args s 0 0 A) (F0 m 156 ls []) := by
  induction n with
  | zero =>
    intros
    rename_i hw _ _ _ _
    exact (show False from hw).elim
  | succ n ih =>
    intro x1 μ H locs ls cells slots hw hI hl hcn hsn
    have hw : wX10_bookInterest_156_b z b Q (wX10_bookInterest_156 z b Q n) x1 μ := hw
    unfold wX10_bookInterest_156_b at hw
    obtain ⟨hx, hb, hml, hown, hts, hr, hlocks, hnm, hK, hG, hfl⟩ := id hX
    have hown : s.vm.findClass RX10 = some m.cls := hown
    have hfX10 : ∀ w ∈ wsX100, w.before args s = true := fun w h => hts w (List.mem_cons_of_mem _ (List.mem_append_right _ h))
    refine lv_iload_n hx hb dX10_bookInterest_156 rfl (lv_at hl 1 rfl) ?_
    refine j_aload_n (r := (some b)) hx hb dX10_bookInterest_157 rfl (lv_at hl 0 rfl) ?_
    obtain ⟨v1, hv1, hw⟩ := hw
    refine j_getz (C := RX10) (T := TX10) (N := 25) (ci := 12) (r := (some b)) (v := .int v1) hx hb hfX10 hown hK hI rfl 1 (by decide) (hts (.fieldLink RX10 106 "CashPoolsModel" "lines" "I") (List.mem_of_getElem? (i := 4) (by decide +kernel))) (fun _ h => h) hv1 dX10_bookInterest_158 ?_
    refine lv_icmp_ge (tgt := 229) hx hb dX10_bookInterest_161 (by decide) (fun hc => ?_) (fun hc => ?_)
    · have hw := hw.1 hc
      exact j_vretz hx hb hr hlocks hI hw (by omega) (by omega) dX10_bookInterest_229
    · have hw := hw.2 hc
      refine j_aload_n (r := (some b)) hx hb dX10_bookInterest_164 rfl (lv_at hl 0 rfl) ?_
      obtain ⟨v2, hv2, hw⟩ := hw
      refine j_getz (C := RX10) (T := TX10) (N := 25) (ci := 12) (r := (some b)) (v := va_rf v2) hx hb hfX10 hown hK hI rfl 3 (by decide) (hts (.fieldLink RX10 7 "CashPoolsModel" "z" "[J") (List.mem_of_getElem? (i := 2) (by decide +kernel))) (fun _ h => h) hv2 dX10_bookInterest_165 ?_
      refine lv_bipush (v := (76)) hx hb dX10_bookInterest_168 (by decide) ?_
      refine lv_iload_n hx hb dX10_bookInterest_170 rfl (lv_at hl 1 rfl) ?_
      refine lv_iadd hx hb dX10_bookInterest_171 ?_
      obtain ⟨v3, hv3, hw⟩ := hw
      refine j_laldz (r := v2) hx hb hK hI hv3 dX10_bookInterest_172 ?_
      refine lv_ldc2 (v := (3600000)) hx hb hown (hts (.constantLong RX10 155 (3600000)) (List.mem_of_getElem? (i := 3) (by decide +kernel))) dX10_bookInterest_173 ?_
      refine lv_ldiv hx hb dX10_bookInterest_176 (by decide) ?_
      refine lv_topl (fun v4 ev4 => ?_)
      have hw := hw v4 ev4
      refine lv_lstore_n (lv' := [(2, .long v4), (0, va_rf (some b)), (1, .int x1)]) hx hb dX10_bookInterest_177 rfl hl (by decide) rfl (fun ls hl => ?_)
      refine j_aload_n (r := (some b)) hx hb dX10_bookInterest_178 rfl (lv_at hl 1 rfl) ?_
      obtain ⟨v5, hv5, hw⟩ := hw
      refine j_getz (C := RX10) (T := TX10) (N := 25) (ci := 12) (r := (some b)) (v := va_rf v5) hx hb hfX10 hown hK hI rfl 3 (by decide) (hts (.fieldLink RX10 7 "CashPoolsModel" "z" "[J") (List.mem_of_getElem? (i := 2) (by decide +kernel))) (fun _ h => h) hv5 dX10_bookInterest_179 ?_
      refine lv_bipush (v := (76)) hx hb dX10_bookInterest_182 (by decide) ?_
      refine lv_iload_n hx hb dX10_bookInterest_184 rfl (lv_at hl 2 rfl) ?_
      refine lv_iadd hx hb dX10_bookInterest_185 ?_
      refine lv_dup2_11 hx hb dX10_bookInterest_186 rfl (jrc v5) ?_
      obtain ⟨v6, hv6, hw⟩ := hw
      refine j_laldz (r := v5) hx hb hK hI hv6 dX10_bookInterest_187 ?_
      refine lv_ldc2 (v := (3600000)) hx hb hown (hts (.constantLong RX10 155 (3600000)) (List.mem_of_getElem? (i := 3) (by decide +kernel))) dX10_bookInterest_188 ?_
      refine lv_lrem hx hb dX10_bookInterest_191 (by decide) ?_
      obtain ⟨μ7, hμ7, hw⟩ := hw
      refine j_lastz (r := v5) hx hb hK hI hμ7 dX10_bookInterest_192 (fun H locs hI => ?_)
      refine j_aload_n (r := (some b)) hx hb dX10_bookInterest_193 rfl (lv_at hl 1 rfl) ?_
      obtain ⟨v8, hv8, hw⟩ := hw
      refine j_getz (C := RX10) (T := TX10) (N := 25) (ci := 12) (r := (some b)) (v := va_rf v8) hx hb hfX10 hown hK hI rfl 3 (by decide) (hts (.fieldLink RX10 7 "CashPoolsModel" "z" "[J") (List.mem_of_getElem? (i := 2) (by decide +kernel))) (fun _ h => h) hv8 dX10_bookInterest_194 ?_
      refine lv_bipush (v := (82)) hx hb dX10_bookInterest_197 (by decide) ?_
      refine lv_iload_n hx hb dX10_bookInterest_199 rfl (lv_at hl 2 rfl) ?_
      refine lv_iadd hx hb dX10_bookInterest_200 ?_
      refine lv_dup2_11 hx hb dX10_bookInterest_201 rfl (jrc v8) ?_
      obtain ⟨v9, hv9, hw⟩ := hw
      refine j_laldz (r := v8) hx hb hK hI hv9 dX10_bookInterest_202 ?_
      refine lv_lload_n hx hb dX10_bookInterest_203 rfl (lv_at hl 0 rfl) ?_
      refine lv_ladd hx hb dX10_bookInterest_204 ?_
      obtain ⟨μ10, hμ10, hw⟩ := hw
      refine j_lastz (r := v8) hx hb hK hI hμ10 dX10_bookInterest_205 (fun H locs hI => ?_)
      refine j_aload_n (r := (some b)) hx hb dX10_bookInterest_206 rfl (lv_at hl 1 rfl) ?_
      obtain ⟨v11, hv11, hw⟩ := hw
      refine j_getz (C := RX10) (T := TX10) (N := 25) (ci := 12) (r := (some b)) (v := va_rf v11) hx hb hfX10 hown hK hI rfl 3 (by decide) (hts (.fieldLink RX10 7 "CashPoolsModel" "z" "[J") (List.mem_of_getElem? (i := 2) (by decide +kernel))) (fun _ h => h) hv11 dX10_bookInterest_207 ?_
      refine lv_iconst (v := (0)) hx hb dX10_bookInterest_210 (by decide) ?_
      refine j_aload_n (r := (some b)) hx hb dX10_bookInterest_211 rfl (lv_at hl 1 rfl) ?_
      obtain ⟨v12, hv12, hw⟩ := hw
      refine j_getz (C := RX10) (T := TX10) (N := 25) (ci := 12) (r := (some b)) (v := va_rf v12) hx hb hfX10 hown hK hI rfl 13 (by decide) (hts (.fieldLink RX10 41 "CashPoolsModel" "linePool" "[I") (List.mem_of_getElem? (i := 5) (by decide +kernel))) (fun _ h => h) hv12 dX10_bookInterest_212 ?_
      refine lv_iload_n hx hb dX10_bookInterest_215 rfl (lv_at hl 2 rfl) ?_
      obtain ⟨v13, hv13, hw⟩ := hw
      refine j_ialdz (r := v12) hx hb hK hI hv13 dX10_bookInterest_216 ?_
      refine lv_iadd hx hb dX10_bookInterest_217 ?_
      refine lv_dup2_11 hx hb dX10_bookInterest_218 rfl (jrc v11) ?_
      obtain ⟨v14, hv14, hw⟩ := hw
      refine j_laldz (r := v11) hx hb hK hI hv14 dX10_bookInterest_219 ?_
      refine lv_lload_n hx hb dX10_bookInterest_220 rfl (lv_at hl 0 rfl) ?_
      refine lv_lsub hx hb dX10_bookInterest_221 ?_
      obtain ⟨μ15, hμ15, hw⟩ := hw
      refine j_lastz (r := v11) hx hb hK hI hμ15 dX10_bookInterest_222 (fun H locs hI => ?_)
      obtain ⟨v16, ev16⟩ : ∃ y : Int32, y = x1 + (1 : Int32) := ⟨_, rfl⟩
      have hw := hw v16 ev16
      refine lv_iinc (v := v16) (lv' := [(1, .int v16), (2, .long v4), (0, va_rf (some b))]) hx hb dX10_bookInterest_223 hl (k := 2) rfl (by rw [ev16]; rfl) (by decide) rfl (fun ls hl => ?_)
      refine lv_goto (tgt := 156) hx hb dX10_bookInterest_226 (by decide) ?_
      exact ih hw hI (lv_sub hl [2, 0] rfl) (by omega) (by omega)
set_option maxHeartbeats 4000000 in
set_option maxRecDepth 100000 in
theorem kX10_bookInterest_120 {b : Nat} (hX : jX2 D z A p l s m args meth c yX10_bookInterest cX10_bookInterest 6 wsX10_bookInterest none) {Q : Unit → jM → Prop}  (n : Nat) : ∀ {x1 : Int32} {μ : jM} {H : Heap} {locs : List Loc} {ls : Array Slot} {cells slots : Nat}, wX10_bookInterest_120 z b Q n x1 μ → jIz D z A s.heap μ H locs → lv_has ls 6 [(0, va_rf (some b)), (1, .int x1)] → cells + 0 ≤ 0 → slots + 0 ≤ 0 → W p l e rmX10_bookInterest s m args below meth c H locs cells slots (MQ below (jRz jfV Q D z A) args s 0 0 A) (F0 m 120 ls []) := by
  induction n with
  | zero =>
    intros
    rename_i hw _ _ _ _
    exact (show False from hw).elim
  | succ n ih =>
    intro x1 μ H locs ls cells slots hw hI hl hcn hsn
    have hw : wX10_bookInterest_120_b z b Q (wX10_bookInterest_120 z b Q n) x1 μ := hw
    unfold wX10_bookInterest_120_b at hw
    obtain ⟨hx, hb, hml, hown, hts, hr, hlocks, hnm, hK, hG, hfl⟩ := id hX
    have hown : s.vm.findClass RX10 = some m.cls := hown
    have hfX10 : ∀ w ∈ wsX100, w.before args s = true := fun w h => hts w (List.mem_cons_of_mem _ (List.mem_append_right _ h))
    refine lv_iload_n hx hb dX10_bookInterest_120 rfl (lv_at hl 1 rfl) ?_
    refine j_aload_n (r := (some b)) hx hb dX10_bookInterest_121 rfl (lv_at hl 0 rfl) ?_
    obtain ⟨v1, hv1, hw⟩ := hw
    refine j_getz (C := RX10) (T := TX10) (N := 25) (ci := 12) (r := (some b)) (v := .int v1) hx hb hfX10 hown hK hI rfl 0 (by decide) (hts (.fieldLink RX10 79 "CashPoolsModel" "accounts" "I") (List.mem_of_getElem? (i := 1) (by decide +kernel))) (fun _ h => h) hv1 dX10_bookInterest_122 ?_
    refine lv_icmp_ge (tgt := 154) hx hb dX10_bookInterest_125 (by decide) (fun hc => ?_) (fun hc => ?_)
    · have hw := hw.1 hc
      refine lv_iconst (v := (0)) hx hb dX10_bookInterest_154 (by decide) ?_
      refine lv_topi (fun v2 ev2 => ?_)
      have hw := hw v2 ev2
      refine lv_istore_n (lv' := [(1, .int v2), (0, va_rf (some b))]) hx hb dX10_bookInterest_155 rfl hl (by decide) rfl (fun ls hl => ?_)
      obtain ⟨n3, hw⟩ := hw
      exact kX10_bookInterest_156 hX  n3 hw hI (lv_sub hl [1, 0] rfl) (by omega) (by omega)
    · have hw := hw.2 hc
      refine j_aload_n (r := (some b)) hx hb dX10_bookInterest_128 rfl (lv_at hl 0 rfl) ?_
      obtain ⟨v4, hv4, hw⟩ := hw
      refine j_getz (C := RX10) (T := TX10) (N := 25) (ci := 12) (r := (some b)) (v := va_rf v4) hx hb hfX10 hown hK hI rfl 3 (by decide) (hts (.fieldLink RX10 7 "CashPoolsModel" "z" "[J") (List.mem_of_getElem? (i := 2) (by decide +kernel))) (fun _ h => h) hv4 dX10_bookInterest_129 ?_
      refine lv_bipush (v := (30)) hx hb dX10_bookInterest_132 (by decide) ?_
      refine lv_iload_n hx hb dX10_bookInterest_134 rfl (lv_at hl 1 rfl) ?_
      refine lv_iadd hx hb dX10_bookInterest_135 ?_
      refine lv_lconst (v := (0)) hx hb dX10_bookInterest_136 (by decide) ?_
      obtain ⟨μ5, hμ5, hw⟩ := hw
      refine j_lastz (r := v4) hx hb hK hI hμ5 dX10_bookInterest_137 (fun H locs hI => ?_)
      refine j_aload_n (r := (some b)) hx hb dX10_bookInterest_138 rfl (lv_at hl 0 rfl) ?_
      obtain ⟨v6, hv6, hw⟩ := hw
      refine j_getz (C := RX10) (T := TX10) (N := 25) (ci := 12) (r := (some b)) (v := va_rf v6) hx hb hfX10 hown hK hI rfl 3 (by decide) (hts (.fieldLink RX10 7 "CashPoolsModel" "z" "[J") (List.mem_of_getElem? (i := 2) (by decide +kernel))) (fun _ h => h) hv6 dX10_bookInterest_139 ?_
      refine lv_bipush (v := (40)) hx hb dX10_bookInterest_142 (by decide) ?_
      refine lv_iload_n hx hb dX10_bookInterest_144 rfl (lv_at hl 1 rfl) ?_
      refine lv_iadd hx hb dX10_bookInterest_145 ?_
      refine lv_lconst (v := (0)) hx hb dX10_bookInterest_146 (by decide) ?_
      obtain ⟨μ7, hμ7, hw⟩ := hw
      refine j_lastz (r := v6) hx hb hK hI hμ7 dX10_bookInterest_147 (fun H locs hI => ?_)
      obtain ⟨v8, ev8⟩ : ∃ y : Int32, y = x1 + (1 : Int32) := ⟨_, rfl⟩
      have hw := hw v8 ev8
      refine lv_iinc (v := v8) (lv' := [(1, .int v8), (0, va_rf (some b))]) hx hb dX10_bookInterest_148 hl (k := 1) rfl (by rw [ev8]; rfl) (by decide) rfl (fun ls hl => ?_)
      refine lv_goto (tgt := 120) hx hb dX10_bookInterest_151 (by decide) ?_
      exact ih hw hI (lv_sub hl [1, 0] rfl) (by omega) (by omega)
set_option maxHeartbeats 4000000 in
set_option maxRecDepth 100000 in
theorem kX10_bookInterest_2 {b : Nat} (hX : jX2 D z A p l s m args meth c yX10_bookInterest cX10_bookInterest 6 wsX10_bookInterest none) {Q : Unit → jM → Prop}  (n : Nat) : ∀ {x1 : Int32} {μ : jM} {H : Heap} {locs : List Loc} {ls : Array Slot} {cells slots : Nat}, wX10_bookInterest_2 z b Q n x1 μ → jIz D z A s.heap μ H locs → lv_has ls 6 [(0, va_rf (some b)), (1, .int x1)] → cells + 0 ≤ 0 → slots + 0 ≤ 0 → W p l e rmX10_bookInterest s m args below meth c H locs cells slots (MQ below (jRz jfV Q D z A) args s 0 0 A) (F0 m 2 ls []) := by
  induction n with
  | zero =>
    intros
    rename_i hw _ _ _ _
    exact (show False from hw).elim
  | succ n ih =>
    intro x1 μ H locs ls cells slots hw hI hl hcn hsn
    have hw : wX10_bookInterest_2_b z b Q (wX10_bookInterest_2 z b Q n) x1 μ := hw
    unfold wX10_bookInterest_2_b at hw
    obtain ⟨hx, hb, hml, hown, hts, hr, hlocks, hnm, hK, hG, hfl⟩ := id hX
    have hown : s.vm.findClass RX10 = some m.cls := hown
    have hfX10 : ∀ w ∈ wsX100, w.before args s = true := fun w h => hts w (List.mem_cons_of_mem _ (List.mem_append_right _ h))
    refine lv_iload_n hx hb dX10_bookInterest_2 rfl (lv_at hl 1 rfl) ?_
    refine j_aload_n (r := (some b)) hx hb dX10_bookInterest_3 rfl (lv_at hl 0 rfl) ?_
    obtain ⟨v1, hv1, hw⟩ := hw
    refine j_getz (C := RX10) (T := TX10) (N := 25) (ci := 12) (r := (some b)) (v := .int v1) hx hb hfX10 hown hK hI rfl 0 (by decide) (hts (.fieldLink RX10 79 "CashPoolsModel" "accounts" "I") (List.mem_of_getElem? (i := 1) (by decide +kernel))) (fun _ h => h) hv1 dX10_bookInterest_4 ?_
    refine lv_icmp_ge (tgt := 118) hx hb dX10_bookInterest_7 (by decide) (fun hc => ?_) (fun hc => ?_)
    · have hw := hw.1 hc
      refine lv_iconst (v := (0)) hx hb dX10_bookInterest_118 (by decide) ?_
      refine lv_topi (fun v2 ev2 => ?_)
      have hw := hw v2 ev2
      refine lv_istore_n (lv' := [(1, .int v2), (0, va_rf (some b))]) hx hb dX10_bookInterest_119 rfl hl (by decide) rfl (fun ls hl => ?_)
      obtain ⟨n3, hw⟩ := hw
      exact kX10_bookInterest_120 hX  n3 hw hI (lv_sub hl [1, 0] rfl) (by omega) (by omega)
    · have hw := hw.2 hc
      refine j_aload_n (r := (some b)) hx hb dX10_bookInterest_10 rfl (lv_at hl 0 rfl) ?_
      refine lv_iload_n hx hb dX10_bookInterest_11 rfl (lv_at hl 1 rfl) ?_
      obtain ⟨hfs, hw⟩ := hw
      refine j_goz hI (va_runV (As := [.int x1]) (rest := []) ⟨hx, hb, hml, hown, hts⟩ (kX10_isTop l hfl D z b x1 μ H.size _) (cwV 1 hts gX10_bookInterest_X10_isTop rfl rfl rfl (by decide +kernel) ⟨Nat.le_of_ble_eq_true rfl, Nat.le_of_ble_eq_true rfl⟩) (j_prV2z hK hG hI hw (ci := 12) rfl hfs) rfl rfl hl.1 rfl (lv_room (Nat.le_of_ble_eq_true rfl)) dX10_bookInterest_12 ⟨by show _ ≤ 0; omega, by show _ ≤ 0; omega⟩) (fun v4 μ5 H locs hw hI => ?_)
      refine W.eq (g2 := F0 m 15 ls [.int v4]) rfl ?_
      refine lv_if_eq (tgt := 112) hx hb dX10_bookInterest_15 (by decide) (fun hc => ?_) (fun hc => ?_)
      · have hw := hw.1 hc
        obtain ⟨v6, ev6⟩ : ∃ y : Int32, y = x1 + (1 : Int32) := ⟨_, rfl⟩
        have hw := hw v6 ev6
        refine lv_iinc (v := v6) (lv' := [(1, .int v6), (0, va_rf (some b))]) hx hb dX10_bookInterest_112 hl (k := 1) rfl (by rw [ev6]; rfl) (by decide) rfl (fun ls hl => ?_)
        refine lv_goto (tgt := 2) hx hb dX10_bookInterest_115 (by decide) ?_
        exact ih hw hI (lv_sub hl [1, 0] rfl) (by omega) (by omega)
      · have hw := hw.2 hc
        refine j_aload_n (r := (some b)) hx hb dX10_bookInterest_18 rfl (lv_at hl 0 rfl) ?_
        obtain ⟨v7, hv7, hw⟩ := hw
        refine j_getz (C := RX10) (T := TX10) (N := 25) (ci := 12) (r := (some b)) (v := va_rf v7) hx hb hfX10 hown hK hI rfl 3 (by decide) (hts (.fieldLink RX10 7 "CashPoolsModel" "z" "[J") (List.mem_of_getElem? (i := 2) (by decide +kernel))) (fun _ h => h) hv7 dX10_bookInterest_19 ?_
        refine lv_bipush (v := (10)) hx hb dX10_bookInterest_22 (by decide) ?_
        refine lv_iload_n hx hb dX10_bookInterest_24 rfl (lv_at hl 1 rfl) ?_
        refine lv_iadd hx hb dX10_bookInterest_25 ?_
        obtain ⟨v8, hv8, hw⟩ := hw
        refine j_laldz (r := v7) hx hb hK hI hv8 dX10_bookInterest_26 ?_
        refine lv_ldc2 (v := (3600000)) hx hb hown (hts (.constantLong RX10 155 (3600000)) (List.mem_of_getElem? (i := 3) (by decide +kernel))) dX10_bookInterest_27 ?_
        refine lv_ldiv hx hb dX10_bookInterest_30 (by decide) ?_
        refine lv_topl (fun v9 ev9 => ?_)
        have hw := hw v9 ev9
        refine lv_lstore_n (lv' := [(2, .long v9), (0, va_rf (some b)), (1, .int x1)]) hx hb dX10_bookInterest_31 rfl hl (by decide) rfl (fun ls hl => ?_)
        refine j_aload_n (r := (some b)) hx hb dX10_bookInterest_32 rfl (lv_at hl 1 rfl) ?_
        obtain ⟨v10, hv10, hw⟩ := hw
        refine j_getz (C := RX10) (T := TX10) (N := 25) (ci := 12) (r := (some b)) (v := va_rf v10) hx hb hfX10 hown hK hI rfl 3 (by decide) (hts (.fieldLink RX10 7 "CashPoolsModel" "z" "[J") (List.mem_of_getElem? (i := 2) (by decide +kernel))) (fun _ h => h) hv10 dX10_bookInterest_33 ?_
        refine lv_bipush (v := (20)) hx hb dX10_bookInterest_36 (by decide) ?_
        refine lv_iload_n hx hb dX10_bookInterest_38 rfl (lv_at hl 2 rfl) ?_
        refine lv_iadd hx hb dX10_bookInterest_39 ?_
        obtain ⟨v11, hv11, hw⟩ := hw
        refine j_laldz (r := v10) hx hb hK hI hv11 dX10_bookInterest_40 ?_
        refine lv_ldc2 (v := (3600000)) hx hb hown (hts (.constantLong RX10 155 (3600000)) (List.mem_of_getElem? (i := 3) (by decide +kernel))) dX10_bookInterest_41 ?_
        refine lv_ldiv hx hb dX10_bookInterest_44 (by decide) ?_
        refine lv_topl (fun v12 ev12 => ?_)
        have hw := hw v12 ev12
        refine lv_lstore (lv' := [(4, .long v12), (2, .long v9), (0, va_rf (some b)), (1, .int x1)]) hx hb dX10_bookInterest_45 hl (by decide) rfl (fun ls hl => ?_)
        refine j_aload_n (r := (some b)) hx hb dX10_bookInterest_47 rfl (lv_at hl 2 rfl) ?_
        refine lv_iload_n hx hb dX10_bookInterest_48 rfl (lv_at hl 3 rfl) ?_
        refine lv_lload_n hx hb dX10_bookInterest_49 rfl (lv_at hl 1 rfl) ?_
        refine lv_bipush (v := (30)) hx hb dX10_bookInterest_50 (by decide) ?_
        refine lv_iconst (v := (1)) hx hb dX10_bookInterest_52 (by decide) ?_
        obtain ⟨hfs, hw⟩ := hw
        refine j_goz hI (va_runV (As := [.int x1, .long v9, .int (30 : Int32), .int (1 : Int32)]) (rest := []) ⟨hx, hb, hml, hown, hts⟩ (kX10_split l hfl D z b x1 v9 (30 : Int32) (1 : Int32) μ5 H.size _) (cwV 4 hts gX10_bookInterest_X10_split rfl rfl rfl (by decide +kernel) ⟨Nat.le_of_ble_eq_true rfl, Nat.le_of_ble_eq_true rfl⟩) (j_prV2z hK hG hI hw (ci := 12) rfl hfs) rfl rfl hl.1 rfl (lv_room (Nat.le_of_ble_eq_true rfl)) dX10_bookInterest_53 ⟨by show _ ≤ 0; omega, by show _ ≤ 0; omega⟩) (fun u13 μ14 H locs hw hI => ?_)
        refine W.eq (g2 := F0 m 56 ls []) rfl ?_
        refine j_aload_n (r := (some b)) hx hb dX10_bookInterest_56 rfl (lv_at hl 2 rfl) ?_
        refine lv_iload_n hx hb dX10_bookInterest_57 rfl (lv_at hl 3 rfl) ?_
        refine lv_lload hx hb dX10_bookInterest_58 (lv_at hl 0 rfl) ?_
        refine lv_bipush (v := (40)) hx hb dX10_bookInterest_60 (by decide) ?_
        refine lv_iconst (v := (-1)) hx hb dX10_bookInterest_62 (by decide) ?_
        obtain ⟨hfs, hw⟩ := hw
        refine j_goz hI (va_runV (As := [.int x1, .long v12, .int (40 : Int32), .int (-1 : Int32)]) (rest := []) ⟨hx, hb, hml, hown, hts⟩ (kX10_split l hfl D z b x1 v12 (40 : Int32) (-1 : Int32) μ14 H.size _) (cwV 4 hts gX10_bookInterest_X10_split rfl rfl rfl (by decide +kernel) ⟨Nat.le_of_ble_eq_true rfl, Nat.le_of_ble_eq_true rfl⟩) (j_prV2z hK hG hI hw (ci := 12) rfl hfs) rfl rfl hl.1 rfl (lv_room (Nat.le_of_ble_eq_true rfl)) dX10_bookInterest_63 ⟨by show _ ≤ 0; omega, by show _ ≤ 0; omega⟩) (fun u15 μ16 H locs hw hI => ?_)
        refine W.eq (g2 := F0 m 66 ls []) rfl ?_
        refine j_aload_n (r := (some b)) hx hb dX10_bookInterest_66 rfl (lv_at hl 2 rfl) ?_
        obtain ⟨v17, hv17, hw⟩ := hw
        refine j_getz (C := RX10) (T := TX10) (N := 25) (ci := 12) (r := (some b)) (v := va_rf v17) hx hb hfX10 hown hK hI rfl 3 (by decide) (hts (.fieldLink RX10 7 "CashPoolsModel" "z" "[J") (List.mem_of_getElem? (i := 2) (by decide +kernel))) (fun _ h => h) hv17 dX10_bookInterest_67 ?_
        refine lv_bipush (v := (10)) hx hb dX10_bookInterest_70 (by decide) ?_
        refine lv_iload_n hx hb dX10_bookInterest_72 rfl (lv_at hl 3 rfl) ?_
        refine lv_iadd hx hb dX10_bookInterest_73 ?_
        refine lv_dup2_11 hx hb dX10_bookInterest_74 rfl (jrc v17) ?_
        obtain ⟨v18, hv18, hw⟩ := hw
        refine j_laldz (r := v17) hx hb hK hI hv18 dX10_bookInterest_75 ?_
        refine lv_ldc2 (v := (3600000)) hx hb hown (hts (.constantLong RX10 155 (3600000)) (List.mem_of_getElem? (i := 3) (by decide +kernel))) dX10_bookInterest_76 ?_
        refine lv_lrem hx hb dX10_bookInterest_79 (by decide) ?_
        obtain ⟨μ19, hμ19, hw⟩ := hw
        refine j_lastz (r := v17) hx hb hK hI hμ19 dX10_bookInterest_80 (fun H locs hI => ?_)
        refine j_aload_n (r := (some b)) hx hb dX10_bookInterest_81 rfl (lv_at hl 2 rfl) ?_
        obtain ⟨v20, hv20, hw⟩ := hw
        refine j_getz (C := RX10) (T := TX10) (N := 25) (ci := 12) (r := (some b)) (v := va_rf v20) hx hb hfX10 hown hK hI rfl 3 (by decide) (hts (.fieldLink RX10 7 "CashPoolsModel" "z" "[J") (List.mem_of_getElem? (i := 2) (by decide +kernel))) (fun _ h => h) hv20 dX10_bookInterest_82 ?_
        refine lv_bipush (v := (20)) hx hb dX10_bookInterest_85 (by decide) ?_
        refine lv_iload_n hx hb dX10_bookInterest_87 rfl (lv_at hl 3 rfl) ?_
        refine lv_iadd hx hb dX10_bookInterest_88 ?_
        refine lv_dup2_11 hx hb dX10_bookInterest_89 rfl (jrc v20) ?_
        obtain ⟨v21, hv21, hw⟩ := hw
        refine j_laldz (r := v20) hx hb hK hI hv21 dX10_bookInterest_90 ?_
        refine lv_ldc2 (v := (3600000)) hx hb hown (hts (.constantLong RX10 155 (3600000)) (List.mem_of_getElem? (i := 3) (by decide +kernel))) dX10_bookInterest_91 ?_
        refine lv_lrem hx hb dX10_bookInterest_94 (by decide) ?_
        obtain ⟨μ22, hμ22, hw⟩ := hw
        refine j_lastz (r := v20) hx hb hK hI hμ22 dX10_bookInterest_95 (fun H locs hI => ?_)
        refine j_aload_n (r := (some b)) hx hb dX10_bookInterest_96 rfl (lv_at hl 2 rfl) ?_
        obtain ⟨v23, hv23, hw⟩ := hw
        refine j_getz (C := RX10) (T := TX10) (N := 25) (ci := 12) (r := (some b)) (v := va_rf v23) hx hb hfX10 hown hK hI rfl 3 (by decide) (hts (.fieldLink RX10 7 "CashPoolsModel" "z" "[J") (List.mem_of_getElem? (i := 2) (by decide +kernel))) (fun _ h => h) hv23 dX10_bookInterest_97 ?_
        refine lv_bipush (v := (60)) hx hb dX10_bookInterest_100 (by decide) ?_
        refine lv_iload_n hx hb dX10_bookInterest_102 rfl (lv_at hl 3 rfl) ?_
        refine lv_iadd hx hb dX10_bookInterest_103 ?_
        refine lv_dup2_11 hx hb dX10_bookInterest_104 rfl (jrc v23) ?_
        obtain ⟨v24, hv24, hw⟩ := hw
        refine j_laldz (r := v23) hx hb hK hI hv24 dX10_bookInterest_105 ?_
        refine lv_lload_n hx hb dX10_bookInterest_106 rfl (lv_at hl 1 rfl) ?_
        refine lv_lload hx hb dX10_bookInterest_107 (lv_at hl 0 rfl) ?_
        refine lv_lsub hx hb dX10_bookInterest_109 ?_
        refine lv_ladd hx hb dX10_bookInterest_110 ?_
        obtain ⟨μ25, hμ25, hw⟩ := hw
        refine j_lastz (r := v23) hx hb hK hI hμ25 dX10_bookInterest_111 (fun H locs hI => ?_)
        obtain ⟨v26, ev26⟩ : ∃ y : Int32, y = x1 + (1 : Int32) := ⟨_, rfl⟩
        have hw := hw v26 ev26
        refine lv_iinc (v := v26) (lv' := [(1, .int v26), (4, .long v12), (2, .long v9), (0, va_rf (some b))]) hx hb dX10_bookInterest_112 hl (k := 3) rfl (by rw [ev26]; rfl) (by decide) rfl (fun ls hl => ?_)
        refine lv_goto (tgt := 2) hx hb dX10_bookInterest_115 (by decide) ?_
        exact ih hw hI (lv_sub hl [3, 0] rfl) (by omega) (by omega)
set_option maxHeartbeats 4000000 in
set_option maxRecDepth 100000 in
theorem kX10_bookInterest_0 {b : Nat} (hX : jX2 D z A p l s m args meth c yX10_bookInterest cX10_bookInterest 6 wsX10_bookInterest none) {Q : Unit → jM → Prop}   {μ : jM} {H : Heap} {locs : List Loc} {ls : Array Slot} {cells slots : Nat} (hw : wX10_bookInterest_0 z b Q  μ) (hI : jIz D z A s.heap μ H locs) (hl : lv_has ls 6 [(0, va_rf (some b))]) (hcn : cells + 0 ≤ 0) (hsn : slots + 0 ≤ 0) : W p l e rmX10_bookInterest s m args below meth c H locs cells slots (MQ below (jRz jfV Q D z A) args s 0 0 A) (F0 m 0 ls []) := by
  unfold wX10_bookInterest_0 at hw
  obtain ⟨hx, hb, hml, hown, hts, hr, hlocks, hnm, hK, hG, hfl⟩ := id hX
  have hown : s.vm.findClass RX10 = some m.cls := hown
  refine lv_iconst (v := (0)) hx hb dX10_bookInterest_0 (by decide) ?_
  refine lv_topi (fun v1 ev1 => ?_)
  have hw := hw v1 ev1
  refine lv_istore_n (lv' := [(1, .int v1), (0, va_rf (some b))]) hx hb dX10_bookInterest_1 rfl hl (by decide) rfl (fun ls hl => ?_)
  obtain ⟨n2, hw⟩ := hw
  exact kX10_bookInterest_2 hX  n2 hw hI (lv_sub hl [1, 0] rfl) (by omega) (by omega)
set_option maxHeartbeats 4000000 in
set_option maxRecDepth 100000 in
theorem kX10_bookInterest (l : Launch) (hfl : l.stackTraces = false) (D : jD) (z : Nat × Nat) (b : Nat)  (μ : jM) (sz : Nat) (Q : Unit → jM → Prop) : Met l yX10_bookInterest wsX10_bookInterest rmX10_bookInterest (jPre2z D z μ sz [.ref b] (wX10_bookInterest z b  μ Q)) (jRz jfV Q D z (jA z μ sz)) 0 0 (jA z μ sz) := by
  refine Met.ofW (cc := cX10_bookInterest) (maxL := 6) (ret := none) (by decide) rfl ?_
  intro p e s m args below meth c s₁ B hml hv
  obtain ⟨rfl, hsz, hH, hz0, hK, hG, hw⟩ := hv
  subst hsz
  have hX : jX2 D z (jA z μ s.heap.size) p l s m _ meth c yX10_bookInterest cX10_bookInterest 6 wsX10_bookInterest none := ⟨B.exec, B.bytes, hml, findClass_of_methodNamed B.named, atoms_spec (ws := wsX10_bookInterest) B.pre, B.returns, B.notSynchronized, (name_of_methodNamed B.named B.method).1, hK, hG, hfl⟩
  obtain ⟨ls, hg, hl⟩ : ∃ ls : Array Slot, entryFrame m ([.ref b] : List Value).toArray 6 = F0 m 0 ls [] ∧ lv_has ls 6 [(0, va_rf (some b))] := by
    exact ⟨_, lg_entry_eq .., lv_entry _ (n := 6) (Nat.le_of_ble_eq_true rfl)⟩
  rw [hg]
  exact kX10_bookInterest_0 hX hw (jIz.start hH hz0) (lv_sub hl [0] rfl) (by decide) (by decide)
set_option maxHeartbeats 4000000 in
set_option maxRecDepth 100000 in
theorem kX10_due_0 {b : Nat} (hX : jX2 D z A p l s m args meth c yX10_due cX10_due 3 wsX10_due (some .int)) {Q : Int32 → jM → Prop}  {x1 : Int32} {x2 : Int32} {μ : jM} {H : Heap} {locs : List Loc} {ls : Array Slot} {cells slots : Nat} (hw : wX10_due_0 z b Q x1 x2 μ) (hI : jIz D z A s.heap μ H locs) (hl : lv_has ls 3 [(0, va_rf (some b)), (1, .int x1), (2, .int x2)]) (hcn : cells + 0 ≤ 0) (hsn : slots + 0 ≤ 0) : W p l e rmX10_due s m args below meth c H locs cells slots (MQ below (jRz jfI Q D z A) args s 0 0 A) (F0 m 0 ls []) := by
  unfold wX10_due_0 at hw
  obtain ⟨hx, hb, hml, hown, hts, hr, hlocks, hnm, hK, hG, hfl⟩ := id hX
  have hown : s.vm.findClass RX10 = some m.cls := hown
  have hfX10 : ∀ w ∈ wsX100, w.before args s = true := fun w h => hts w (List.mem_cons_of_mem _ (List.mem_append_right _ h))
  refine j_aload_n (r := (some b)) hx hb dX10_due_0 rfl (lv_at hl 0 rfl) ?_
  obtain ⟨v1, hv1, hw⟩ := hw
  refine j_getz (C := RX10) (T := TX10) (N := 25) (ci := 12) (r := (some b)) (v := va_rf v1) hx hb hfX10 hown hK hI rfl 19 (by decide) (hts (.fieldLink RX10 59 "CashPoolsModel" "flowFirst" "[I") (List.mem_of_getElem? (i := 1) (by decide +kernel))) (fun _ h => h) hv1 dX10_due_1 ?_
  refine lv_iload_n hx hb dX10_due_4 rfl (lv_at hl 1 rfl) ?_
  obtain ⟨v2, hv2, hw⟩ := hw
  refine j_ialdz (r := v1) hx hb hK hI hv2 dX10_due_5 ?_
  refine lv_iload_n hx hb dX10_due_6 rfl (lv_at hl 2 rfl) ?_
  refine j_aload_n (r := (some b)) hx hb dX10_due_7 rfl (lv_at hl 0 rfl) ?_
  obtain ⟨v3, hv3, hw⟩ := hw
  refine j_getz (C := RX10) (T := TX10) (N := 25) (ci := 12) (r := (some b)) (v := va_rf v3) hx hb hfX10 hown hK hI rfl 20 (by decide) (hts (.fieldLink RX10 62 "CashPoolsModel" "flowStep" "[I") (List.mem_of_getElem? (i := 2) (by decide +kernel))) (fun _ h => h) hv3 dX10_due_8 ?_
  refine lv_iload_n hx hb dX10_due_11 rfl (lv_at hl 1 rfl) ?_
  obtain ⟨v4, hv4, hw⟩ := hw
  refine j_ialdz (r := v3) hx hb hK hI hv4 dX10_due_12 ?_
  refine lv_imul hx hb dX10_due_13 ?_
  refine lv_iadd hx hb dX10_due_14 ?_
  exact j_iretz hx hb hr hlocks hI hw (by omega) (by omega) dX10_due_15
set_option maxHeartbeats 4000000 in
set_option maxRecDepth 100000 in
theorem kX10_due (l : Launch) (hfl : l.stackTraces = false) (D : jD) (z : Nat × Nat) (b : Nat) (x1 : Int32) (x2 : Int32) (μ : jM) (sz : Nat) (Q : Int32 → jM → Prop) : Met l yX10_due wsX10_due rmX10_due (jPre2z D z μ sz [.ref b, .int x1, .int x2] (wX10_due z b x1 x2 μ Q)) (jRz jfI Q D z (jA z μ sz)) 0 0 (jA z μ sz) := by
  refine Met.ofW (cc := cX10_due) (maxL := 3) (ret := (some .int)) (by decide) rfl ?_
  intro p e s m args below meth c s₁ B hml hv
  obtain ⟨rfl, hsz, hH, hz0, hK, hG, hw⟩ := hv
  subst hsz
  have hX : jX2 D z (jA z μ s.heap.size) p l s m _ meth c yX10_due cX10_due 3 wsX10_due (some .int) := ⟨B.exec, B.bytes, hml, findClass_of_methodNamed B.named, atoms_spec (ws := wsX10_due) B.pre, B.returns, B.notSynchronized, (name_of_methodNamed B.named B.method).1, hK, hG, hfl⟩
  obtain ⟨ls, hg, hl⟩ : ∃ ls : Array Slot, entryFrame m ([.ref b, .int x1, .int x2] : List Value).toArray 3 = F0 m 0 ls [] ∧ lv_has ls 3 [(0, va_rf (some b)), (1, .int x1), (2, .int x2)] := by
    exact ⟨_, lg_entry_eq .., lv_entry _ (n := 3) (Nat.le_of_ble_eq_true rfl)⟩
  rw [hg]
  exact kX10_due_0 hX hw (jIz.start hH hz0) (lv_sub hl [0, 1, 2] rfl) (by decide) (by decide)
end
