section
variable {p : Program} {l : Launch} {e : Env} {s : State} {m : MethodId} {args : Array Value} {below : List Frame} {meth : Method} {c : Code} {D : jD} {z : Nat × Nat} {A : Nat → Prop}
set_option maxHeartbeats 4000000 in
set_option maxRecDepth 100000 in
theorem kX10_cover_167 {b : Nat} (hX : jX2 D z A p l s m args meth c yX10_cover cX10_cover 10 wsX10_cover none) {Q : Unit → jM → Prop} {K26 : Int32 → Int32 → Int32 → jM → Prop} (hK26 : ∀ {x1 : Int32} {x2 : Int32} {x3 : Int32} {μ : jM} {H : Heap} {locs : List Loc} {ls : Array Slot} {cells slots : Nat}, K26 x1 x2 x3 μ → jIz D z A s.heap μ H locs → lv_has ls 10 [(0, va_rf (some b)), (1, .int x1), (2, .int x2), (3, .int x3)] → cells + 0 ≤ 0 → slots + 0 ≤ 0 → W p l e rmX10_cover s m args below meth c H locs cells slots (MQ below (jRz jfV Q D z A) args s 0 0 A) (F0 m 26 ls [])) {x1 : Int32} {x2 : Int32} {t0 : Option Nat} {t1 : Int32} {t2 : Int64} {t3 : Int64} {μ : jM} {H : Heap} {locs : List Loc} {ls : Array Slot} {cells slots : Nat} (hw : wX10_cover_167 z b K26 Q x1 x2 t0 t1 t2 t3 μ) (hI : jIz D z A s.heap μ H locs) (hl : lv_has ls 10 [(0, va_rf (some b)), (1, .int x1), (2, .int x2)]) (hcn : cells + 0 ≤ 0) (hsn : slots + 0 ≤ 0) : W p l e rmX10_cover s m args below meth c H locs cells slots (MQ below (jRz jfV Q D z A) args s 0 0 A) (F0 m 167 ls [.long t3, .long t2, .int t1, va_rf t0]) := by
  unfold wX10_cover_167 at hw
  obtain ⟨hx, hb, hml, hown, hts, hr, hlocks, hnm, hK, hG, hfl⟩ := id hX
  have hown : s.vm.findClass RX10 = some m.cls := hown
  refine lv_ladd hx hb dX10_cover_167 ?_
  obtain ⟨μ1, hμ1, hw⟩ := hw
  refine j_lastz (r := t0) hx hb hK hI hμ1 dX10_cover_168 (fun H locs hI => ?_)
  refine j_aload_n (r := (some b)) hx hb dX10_cover_169 rfl (lv_at hl 0 rfl) ?_
  refine lv_iload_n hx hb dX10_cover_170 rfl (lv_at hl 1 rfl) ?_
  refine lv_iload_n hx hb dX10_cover_171 rfl (lv_at hl 2 rfl) ?_
  obtain ⟨hfs, hw⟩ := hw
  refine j_goz hI (va_runV (As := [.int x1, .int x2]) (rest := []) ⟨hx, hb, hml, hown, hts⟩ (kX10_nextLine l hfl D z b x1 x2 μ1 H.size _) (cwV 2 hts gX10_cover_X10_nextLine rfl rfl rfl (by decide +kernel) ⟨Nat.le_of_ble_eq_true rfl, Nat.le_of_ble_eq_true rfl⟩) (j_prV2z hK hG hI hw (ci := 12) rfl hfs) rfl rfl hl.1 rfl (lv_room (Nat.le_of_ble_eq_true rfl)) dX10_cover_172 ⟨by show _ ≤ 0; omega, by show _ ≤ 0; omega⟩) (fun v2 μ3 H locs hw hI => ?_)
  refine W.eq (g2 := F0 m 175 ls [.int v2]) rfl ?_
  refine lv_istore_n (lv' := [(3, .int v2), (0, va_rf (some b)), (1, .int x1), (2, .int x2)]) hx hb dX10_cover_175 rfl hl (by decide) rfl (fun ls hl => ?_)
  refine lv_goto (tgt := 26) hx hb dX10_cover_176 (by decide) ?_
  exact hK26 hw hI (lv_sub hl [1, 2, 3, 0] rfl) (by omega) (by omega)
set_option maxHeartbeats 4000000 in
set_option maxRecDepth 100000 in
theorem kX10_cover_144 {b : Nat} (hX : jX2 D z A p l s m args meth c yX10_cover cX10_cover 10 wsX10_cover none) {Q : Unit → jM → Prop} {K26 : Int32 → Int32 → Int32 → jM → Prop} (hK26 : ∀ {x1 : Int32} {x2 : Int32} {x3 : Int32} {μ : jM} {H : Heap} {locs : List Loc} {ls : Array Slot} {cells slots : Nat}, K26 x1 x2 x3 μ → jIz D z A s.heap μ H locs → lv_has ls 10 [(0, va_rf (some b)), (1, .int x1), (2, .int x2), (3, .int x3)] → cells + 0 ≤ 0 → slots + 0 ≤ 0 → W p l e rmX10_cover s m args below meth c H locs cells slots (MQ below (jRz jfV Q D z A) args s 0 0 A) (F0 m 26 ls [])) {x1 : Int32} {x2 : Int32} {x8 : Int64} {t0 : Option Nat} {t1 : Int32} {t2 : Int64} {t3 : Int64} {μ : jM} {H : Heap} {locs : List Loc} {ls : Array Slot} {cells slots : Nat} (hw : wX10_cover_144 z b K26 Q x1 x2 x8 t0 t1 t2 t3 μ) (hI : jIz D z A s.heap μ H locs) (hl : lv_has ls 10 [(0, va_rf (some b)), (1, .int x1), (2, .int x2), (8, .long x8)]) (hcn : cells + 0 ≤ 0) (hsn : slots + 0 ≤ 0) : W p l e rmX10_cover s m args below meth c H locs cells slots (MQ below (jRz jfV Q D z A) args s 0 0 A) (F0 m 144 ls [.long t3, .long t2, .int t1, va_rf t0]) := by
  unfold wX10_cover_144 at hw
  obtain ⟨hx, hb, hml, hown, hts, hr, hlocks, hnm, hK, hG, hfl⟩ := id hX
  have hown : s.vm.findClass RX10 = some m.cls := hown
  have hfX10 : ∀ w ∈ wsX100, w.before args s = true := fun w h => hts w (List.mem_cons_of_mem _ (List.mem_append_right _ h))
  refine lv_ladd hx hb dX10_cover_144 ?_
  obtain ⟨μ1, hμ1, hw⟩ := hw
  refine j_lastz (r := t0) hx hb hK hI hμ1 dX10_cover_145 (fun H locs hI => ?_)
  refine j_aload_n (r := (some b)) hx hb dX10_cover_146 rfl (lv_at hl 0 rfl) ?_
  obtain ⟨v2, hv2, hw⟩ := hw
  refine j_getz (C := RX10) (T := TX10) (N := 25) (ci := 12) (r := (some b)) (v := va_rf v2) hx hb hfX10 hown hK hI rfl 3 (by decide) (hts (.fieldLink RX10 7 "CashPoolsModel" "z" "[J") (List.mem_of_getElem? (i := 1) (by decide +kernel))) (fun _ h => h) hv2 dX10_cover_147 ?_
  refine lv_iconst (v := (0)) hx hb dX10_cover_150 (by decide) ?_
  refine lv_iload_n hx hb dX10_cover_151 rfl (lv_at hl 1 rfl) ?_
  refine lv_iadd hx hb dX10_cover_152 ?_
  refine lv_dup2_11 hx hb dX10_cover_153 rfl (jrc v2) ?_
  obtain ⟨v3, hv3, hw⟩ := hw
  refine j_laldz (r := v2) hx hb hK hI hv3 dX10_cover_154 ?_
  refine lv_iload_n hx hb dX10_cover_155 rfl (lv_at hl 2 rfl) ?_
  refine lv_if_eq (tgt := 164) hx hb dX10_cover_156 (by decide) (fun hc => ?_) (fun hc => ?_)
  · have hw := hw.1 hc
    refine lv_lload hx hb dX10_cover_164 (lv_at hl 3 rfl) ?_
    refine lv_lneg hx hb dX10_cover_166 ?_
    exact kX10_cover_167 hX hK26 hw hI (lv_sub hl [0, 1, 2] rfl) (by omega) (by omega)
  · have hw := hw.2 hc
    refine lv_lload hx hb dX10_cover_159 (lv_at hl 3 rfl) ?_
    refine lv_goto (tgt := 167) hx hb dX10_cover_161 (by decide) ?_
    exact kX10_cover_167 hX hK26 hw hI (lv_sub hl [0, 1, 2] rfl) (by omega) (by omega)
set_option maxHeartbeats 4000000 in
set_option maxRecDepth 100000 in
theorem kX10_cover_120 {b : Nat} (hX : jX2 D z A p l s m args meth c yX10_cover cX10_cover 10 wsX10_cover none) {Q : Unit → jM → Prop} {K26 : Int32 → Int32 → Int32 → jM → Prop} (hK26 : ∀ {x1 : Int32} {x2 : Int32} {x3 : Int32} {μ : jM} {H : Heap} {locs : List Loc} {ls : Array Slot} {cells slots : Nat}, K26 x1 x2 x3 μ → jIz D z A s.heap μ H locs → lv_has ls 10 [(0, va_rf (some b)), (1, .int x1), (2, .int x2), (3, .int x3)] → cells + 0 ≤ 0 → slots + 0 ≤ 0 → W p l e rmX10_cover s m args below meth c H locs cells slots (MQ below (jRz jfV Q D z A) args s 0 0 A) (F0 m 26 ls [])) {x1 : Int32} {x2 : Int32} {x3 : Int32} {t0 : Int64} {μ : jM} {H : Heap} {locs : List Loc} {ls : Array Slot} {cells slots : Nat} (hw : wX10_cover_120 z b K26 Q x1 x2 x3 t0 μ) (hI : jIz D z A s.heap μ H locs) (hl : lv_has ls 10 [(0, va_rf (some b)), (1, .int x1), (2, .int x2), (3, .int x3)]) (hcn : cells + 0 ≤ 0) (hsn : slots + 0 ≤ 0) : W p l e rmX10_cover s m args below meth c H locs cells slots (MQ below (jRz jfV Q D z A) args s 0 0 A) (F0 m 120 ls [.long t0]) := by
  unfold wX10_cover_120 at hw
  obtain ⟨hx, hb, hml, hown, hts, hr, hlocks, hnm, hK, hG, hfl⟩ := id hX
  have hown : s.vm.findClass RX10 = some m.cls := hown
  have hfX10 : ∀ w ∈ wsX100, w.before args s = true := fun w h => hts w (List.mem_cons_of_mem _ (List.mem_append_right _ h))
  refine lv_lstore (lv' := [(8, .long t0), (0, va_rf (some b)), (1, .int x1), (2, .int x2), (3, .int x3)]) hx hb dX10_cover_120 hl (by decide) rfl (fun ls hl => ?_)
  refine j_aload_n (r := (some b)) hx hb dX10_cover_122 rfl (lv_at hl 1 rfl) ?_
  obtain ⟨v1, hv1, hw⟩ := hw
  refine j_getz (C := RX10) (T := TX10) (N := 25) (ci := 12) (r := (some b)) (v := va_rf v1) hx hb hfX10 hown hK hI rfl 3 (by decide) (hts (.fieldLink RX10 7 "CashPoolsModel" "z" "[J") (List.mem_of_getElem? (i := 1) (by decide +kernel))) (fun _ h => h) hv1 dX10_cover_123 ?_
  refine lv_bipush (v := (70)) hx hb dX10_cover_126 (by decide) ?_
  refine lv_iload_n hx hb dX10_cover_128 rfl (lv_at hl 4 rfl) ?_
  refine lv_iadd hx hb dX10_cover_129 ?_
  refine lv_dup2_11 hx hb dX10_cover_130 rfl (jrc v1) ?_
  obtain ⟨v2, hv2, hw⟩ := hw
  refine j_laldz (r := v1) hx hb hK hI hv2 dX10_cover_131 ?_
  refine lv_iload_n hx hb dX10_cover_132 rfl (lv_at hl 3 rfl) ?_
  refine lv_if_eq (tgt := 141) hx hb dX10_cover_133 (by decide) (fun hc => ?_) (fun hc => ?_)
  · have hw := hw.1 hc
    refine lv_lload hx hb dX10_cover_141 (lv_at hl 0 rfl) ?_
    refine lv_lneg hx hb dX10_cover_143 ?_
    exact kX10_cover_144 hX hK26 hw hI (lv_sub hl [1, 2, 3, 0] rfl) (by omega) (by omega)
  · have hw := hw.2 hc
    refine lv_lload hx hb dX10_cover_136 (lv_at hl 0 rfl) ?_
    refine lv_goto (tgt := 144) hx hb dX10_cover_138 (by decide) ?_
    exact kX10_cover_144 hX hK26 hw hI (lv_sub hl [1, 2, 3, 0] rfl) (by omega) (by omega)
set_option maxHeartbeats 4000000 in
set_option maxRecDepth 100000 in
theorem kX10_cover_103 {b : Nat} (hX : jX2 D z A p l s m args meth c yX10_cover cX10_cover 10 wsX10_cover none) {Q : Unit → jM → Prop} {K26 : Int32 → Int32 → Int32 → jM → Prop} (hK26 : ∀ {x1 : Int32} {x2 : Int32} {x3 : Int32} {μ : jM} {H : Heap} {locs : List Loc} {ls : Array Slot} {cells slots : Nat}, K26 x1 x2 x3 μ → jIz D z A s.heap μ H locs → lv_has ls 10 [(0, va_rf (some b)), (1, .int x1), (2, .int x2), (3, .int x3)] → cells + 0 ≤ 0 → slots + 0 ≤ 0 → W p l e rmX10_cover s m args below meth c H locs cells slots (MQ below (jRz jfV Q D z A) args s 0 0 A) (F0 m 26 ls [])) {x1 : Int32} {x2 : Int32} {x3 : Int32} {x4 : Int64} {t0 : Int64} {μ : jM} {H : Heap} {locs : List Loc} {ls : Array Slot} {cells slots : Nat} (hw : wX10_cover_103 z b K26 Q x1 x2 x3 x4 t0 μ) (hI : jIz D z A s.heap μ H locs) (hl : lv_has ls 10 [(0, va_rf (some b)), (1, .int x1), (2, .int x2), (3, .int x3), (4, .long x4)]) (hcn : cells + 0 ≤ 0) (hsn : slots + 0 ≤ 0) : W p l e rmX10_cover s m args below meth c H locs cells slots (MQ below (jRz jfV Q D z A) args s 0 0 A) (F0 m 103 ls [.long t0]) := by
  unfold wX10_cover_103 at hw
  obtain ⟨hx, hb, hml, hown, hts, hr, hlocks, hnm, hK, hG, hfl⟩ := id hX
  have hown : s.vm.findClass RX10 = some m.cls := hown
  refine lv_lstore (lv' := [(6, .long t0), (0, va_rf (some b)), (1, .int x1), (2, .int x2), (3, .int x3), (4, .long x4)]) hx hb dX10_cover_103 hl (by decide) rfl (fun ls hl => ?_)
  refine lv_lload hx hb dX10_cover_105 (lv_at hl 5 rfl) ?_
  refine lv_lload hx hb dX10_cover_107 (lv_at hl 0 rfl) ?_
  refine j_lcmp_ge (tgt := 118) hx hb dX10_cover_109 dX10_cover_110 (by decide) (fun hc => ?_) (fun hc => ?_)
  · have hw := hw.1 hc
    refine lv_lload hx hb dX10_cover_118 (lv_at hl 0 rfl) ?_
    exact kX10_cover_120 hX hK26 hw hI (lv_sub hl [1, 2, 3, 4] rfl) (by omega) (by omega)
  · have hw := hw.2 hc
    refine lv_lload hx hb dX10_cover_113 (lv_at hl 5 rfl) ?_
    refine lv_goto (tgt := 120) hx hb dX10_cover_115 (by decide) ?_
    exact kX10_cover_120 hX hK26 hw hI (lv_sub hl [1, 2, 3, 4] rfl) (by omega) (by omega)
set_option maxHeartbeats 4000000 in
set_option maxRecDepth 100000 in
theorem kX10_cover_77 {b : Nat} (hX : jX2 D z A p l s m args meth c yX10_cover cX10_cover 10 wsX10_cover none) {Q : Unit → jM → Prop} {K26 : Int32 → Int32 → Int32 → jM → Prop} (hK26 : ∀ {x1 : Int32} {x2 : Int32} {x3 : Int32} {μ : jM} {H : Heap} {locs : List Loc} {ls : Array Slot} {cells slots : Nat}, K26 x1 x2 x3 μ → jIz D z A s.heap μ H locs → lv_has ls 10 [(0, va_rf (some b)), (1, .int x1), (2, .int x2), (3, .int x3)] → cells + 0 ≤ 0 → slots + 0 ≤ 0 → W p l e rmX10_cover s m args below meth c H locs cells slots (MQ below (jRz jfV Q D z A) args s 0 0 A) (F0 m 26 ls [])) {x1 : Int32} {x2 : Int32} {x3 : Int32} {t0 : Int64} {μ : jM} {H : Heap} {locs : List Loc} {ls : Array Slot} {cells slots : Nat} (hw : wX10_cover_77 z b K26 Q x1 x2 x3 t0 μ) (hI : jIz D z A s.heap μ H locs) (hl : lv_has ls 10 [(0, va_rf (some b)), (1, .int x1), (2, .int x2), (3, .int x3)]) (hcn : cells + 0 ≤ 0) (hsn : slots + 0 ≤ 0) : W p l e rmX10_cover s m args below meth c H locs cells slots (MQ below (jRz jfV Q D z A) args s 0 0 A) (F0 m 77 ls [.long t0]) := by
  unfold wX10_cover_77 at hw
  obtain ⟨hx, hb, hml, hown, hts, hr, hlocks, hnm, hK, hG, hfl⟩ := id hX
  have hown : s.vm.findClass RX10 = some m.cls := hown
  have hfX10 : ∀ w ∈ wsX100, w.before args s = true := fun w h => hts w (List.mem_cons_of_mem _ (List.mem_append_right _ h))
  refine lv_lstore (lv' := [(4, .long t0), (0, va_rf (some b)), (1, .int x1), (2, .int x2), (3, .int x3)]) hx hb dX10_cover_77 hl (by decide) rfl (fun ls hl => ?_)
  refine lv_iload_n hx hb dX10_cover_79 rfl (lv_at hl 3 rfl) ?_
  refine lv_if_eq (tgt := 95) hx hb dX10_cover_80 (by decide) (fun hc => ?_) (fun hc => ?_)
  · have hw := hw.1 hc
    refine j_aload_n (r := (some b)) hx hb dX10_cover_95 rfl (lv_at hl 1 rfl) ?_
    obtain ⟨v1, hv1, hw⟩ := hw
    refine j_getz (C := RX10) (T := TX10) (N := 25) (ci := 12) (r := (some b)) (v := va_rf v1) hx hb hfX10 hown hK hI rfl 3 (by decide) (hts (.fieldLink RX10 7 "CashPoolsModel" "z" "[J") (List.mem_of_getElem? (i := 1) (by decide +kernel))) (fun _ h => h) hv1 dX10_cover_96 ?_
    refine lv_iconst (v := (0)) hx hb dX10_cover_99 (by decide) ?_
    refine lv_iload_n hx hb dX10_cover_100 rfl (lv_at hl 2 rfl) ?_
    refine lv_iadd hx hb dX10_cover_101 ?_
    obtain ⟨v2, hv2, hw⟩ := hw
    refine j_laldz (r := v1) hx hb hK hI hv2 dX10_cover_102 ?_
    exact kX10_cover_103 hX hK26 hw hI (lv_sub hl [1, 2, 3, 4, 0] rfl) (by omega) (by omega)
  · have hw := hw.2 hc
    refine j_aload_n (r := (some b)) hx hb dX10_cover_83 rfl (lv_at hl 1 rfl) ?_
    obtain ⟨v3, hv3, hw⟩ := hw
    refine j_getz (C := RX10) (T := TX10) (N := 25) (ci := 12) (r := (some b)) (v := va_rf v3) hx hb hfX10 hown hK hI rfl 3 (by decide) (hts (.fieldLink RX10 7 "CashPoolsModel" "z" "[J") (List.mem_of_getElem? (i := 1) (by decide +kernel))) (fun _ h => h) hv3 dX10_cover_84 ?_
    refine lv_iconst (v := (0)) hx hb dX10_cover_87 (by decide) ?_
    refine lv_iload_n hx hb dX10_cover_88 rfl (lv_at hl 2 rfl) ?_
    refine lv_iadd hx hb dX10_cover_89 ?_
    obtain ⟨v4, hv4, hw⟩ := hw
    refine j_laldz (r := v3) hx hb hK hI hv4 dX10_cover_90 ?_
    refine lv_lneg hx hb dX10_cover_91 ?_
    refine lv_goto (tgt := 103) hx hb dX10_cover_92 (by decide) ?_
    exact kX10_cover_103 hX hK26 hw hI (lv_sub hl [1, 2, 3, 4, 0] rfl) (by omega) (by omega)
set_option maxHeartbeats 4000000 in
set_option maxRecDepth 100000 in
theorem kX10_cover_26 {b : Nat} (hX : jX2 D z A p l s m args meth c yX10_cover cX10_cover 10 wsX10_cover none) {Q : Unit → jM → Prop}  (n : Nat) : ∀ {x1 : Int32} {x2 : Int32} {x3 : Int32} {μ : jM} {H : Heap} {locs : List Loc} {ls : Array Slot} {cells slots : Nat}, wX10_cover_26 z b Q n x1 x2 x3 μ → jIz D z A s.heap μ H locs → lv_has ls 10 [(0, va_rf (some b)), (1, .int x1), (2, .int x2), (3, .int x3)] → cells + 0 ≤ 0 → slots + 0 ≤ 0 → W p l e rmX10_cover s m args below meth c H locs cells slots (MQ below (jRz jfV Q D z A) args s 0 0 A) (F0 m 26 ls []) := by
  induction n with
  | zero =>
    intros
    rename_i hw _ _ _ _
    exact (show False from hw).elim
  | succ n ih =>
    intro x1 x2 x3 μ H locs ls cells slots hw hI hl hcn hsn
    have hw : wX10_cover_26_b z b Q (wX10_cover_26 z b Q n) x1 x2 x3 μ := hw
    unfold wX10_cover_26_b at hw
    obtain ⟨hx, hb, hml, hown, hts, hr, hlocks, hnm, hK, hG, hfl⟩ := id hX
    have hown : s.vm.findClass RX10 = some m.cls := hown
    have hfX10 : ∀ w ∈ wsX100, w.before args s = true := fun w h => hts w (List.mem_cons_of_mem _ (List.mem_append_right _ h))
    refine lv_iload_n hx hb dX10_cover_26 rfl (lv_at hl 3 rfl) ?_
    refine lv_iconst (v := (-1)) hx hb dX10_cover_27 (by decide) ?_
    refine lv_icmp_eq (tgt := 179) hx hb dX10_cover_28 (by decide) (fun hc => ?_) (fun hc => ?_)
    · have hw := hw.1 hc
      exact j_vretz hx hb hr hlocks hI hw (by omega) (by omega) dX10_cover_179
    · have hw := hw.2 hc
      refine j_aload_n (r := (some b)) hx hb dX10_cover_31 rfl (lv_at hl 0 rfl) ?_
      obtain ⟨v1, hv1, hw⟩ := hw
      refine j_getz (C := RX10) (T := TX10) (N := 25) (ci := 12) (r := (some b)) (v := va_rf v1) hx hb hfX10 hown hK hI rfl 3 (by decide) (hts (.fieldLink RX10 7 "CashPoolsModel" "z" "[J") (List.mem_of_getElem? (i := 1) (by decide +kernel))) (fun _ h => h) hv1 dX10_cover_32 ?_
      refine lv_iconst (v := (0)) hx hb dX10_cover_35 (by decide) ?_
      refine lv_iload_n hx hb dX10_cover_36 rfl (lv_at hl 1 rfl) ?_
      refine lv_iadd hx hb dX10_cover_37 ?_
      obtain ⟨v2, hv2, hw⟩ := hw
      refine j_laldz (r := v1) hx hb hK hI hv2 dX10_cover_38 ?_
      refine lv_lconst (v := (0)) hx hb dX10_cover_39 (by decide) ?_
      refine j_lcmp_eq (tgt := 179) hx hb dX10_cover_40 dX10_cover_41 (by decide) (fun hc => ?_) (fun hc => ?_)
      · have hw := hw.1 hc
        exact j_vretz hx hb hr hlocks hI hw (by omega) (by omega) dX10_cover_179
      · have hw := hw.2 hc
        refine lv_iload_n hx hb dX10_cover_44 rfl (lv_at hl 2 rfl) ?_
        refine lv_if_eq (tgt := 68) hx hb dX10_cover_45 (by decide) (fun hc => ?_) (fun hc => ?_)
        · have hw := hw.1 hc
          refine j_aload_n (r := (some b)) hx hb dX10_cover_68 rfl (lv_at hl 0 rfl) ?_
          obtain ⟨v3, hv3, hw⟩ := hw
          refine j_getz (C := RX10) (T := TX10) (N := 25) (ci := 12) (r := (some b)) (v := va_rf v3) hx hb hfX10 hown hK hI rfl 3 (by decide) (hts (.fieldLink RX10 7 "CashPoolsModel" "z" "[J") (List.mem_of_getElem? (i := 1) (by decide +kernel))) (fun _ h => h) hv3 dX10_cover_69 ?_
          refine lv_bipush (v := (70)) hx hb dX10_cover_72 (by decide) ?_
          refine lv_iload_n hx hb dX10_cover_74 rfl (lv_at hl 3 rfl) ?_
          refine lv_iadd hx hb dX10_cover_75 ?_
          obtain ⟨v4, hv4, hw⟩ := hw
          refine j_laldz (r := v3) hx hb hK hI hv4 dX10_cover_76 ?_
          exact kX10_cover_77 hX ih hw hI (lv_sub hl [0, 1, 2, 3] rfl) (by omega) (by omega)
        · have hw := hw.2 hc
          refine j_aload_n (r := (some b)) hx hb dX10_cover_48 rfl (lv_at hl 0 rfl) ?_
          obtain ⟨v5, hv5, hw⟩ := hw
          refine j_getz (C := RX10) (T := TX10) (N := 25) (ci := 12) (r := (some b)) (v := va_rf v5) hx hb hfX10 hown hK hI rfl 14 (by decide) (hts (.fieldLink RX10 44 "CashPoolsModel" "lineLimit" "[I") (List.mem_of_getElem? (i := 2) (by decide +kernel))) (fun _ h => h) hv5 dX10_cover_49 ?_
          refine lv_iload_n hx hb dX10_cover_52 rfl (lv_at hl 3 rfl) ?_
          obtain ⟨v6, hv6, hw⟩ := hw
          refine j_ialdz (r := v5) hx hb hK hI hv6 dX10_cover_53 ?_
          refine lv_i2l hx hb dX10_cover_54 rfl ?_
          refine j_aload_n (r := (some b)) hx hb dX10_cover_55 rfl (lv_at hl 0 rfl) ?_
          obtain ⟨v7, hv7, hw⟩ := hw
          refine j_getz (C := RX10) (T := TX10) (N := 25) (ci := 12) (r := (some b)) (v := va_rf v7) hx hb hfX10 hown hK hI rfl 3 (by decide) (hts (.fieldLink RX10 7 "CashPoolsModel" "z" "[J") (List.mem_of_getElem? (i := 1) (by decide +kernel))) (fun _ h => h) hv7 dX10_cover_56 ?_
          refine lv_bipush (v := (70)) hx hb dX10_cover_59 (by decide) ?_
          refine lv_iload_n hx hb dX10_cover_61 rfl (lv_at hl 3 rfl) ?_
          refine lv_iadd hx hb dX10_cover_62 ?_
          obtain ⟨v8, hv8, hw⟩ := hw
          refine j_laldz (r := v7) hx hb hK hI hv8 dX10_cover_63 ?_
          refine lv_lsub hx hb dX10_cover_64 ?_
          refine lv_goto (tgt := 77) hx hb dX10_cover_65 (by decide) ?_
          exact kX10_cover_77 hX ih hw hI (lv_sub hl [0, 1, 2, 3] rfl) (by omega) (by omega)
set_option maxHeartbeats 4000000 in
set_option maxRecDepth 100000 in
theorem kX10_cover_18 {b : Nat} (hX : jX2 D z A p l s m args meth c yX10_cover cX10_cover 10 wsX10_cover none) {Q : Unit → jM → Prop}  {x1 : Int32} {t0 : Int32} {μ : jM} {H : Heap} {locs : List Loc} {ls : Array Slot} {cells slots : Nat} (hw : wX10_cover_18 z b Q x1 t0 μ) (hI : jIz D z A s.heap μ H locs) (hl : lv_has ls 10 [(0, va_rf (some b)), (1, .int x1)]) (hcn : cells + 0 ≤ 0) (hsn : slots + 0 ≤ 0) : W p l e rmX10_cover s m args below meth c H locs cells slots (MQ below (jRz jfV Q D z A) args s 0 0 A) (F0 m 18 ls [.int t0]) := by
  unfold wX10_cover_18 at hw
  obtain ⟨hx, hb, hml, hown, hts, hr, hlocks, hnm, hK, hG, hfl⟩ := id hX
  have hown : s.vm.findClass RX10 = some m.cls := hown
  refine lv_istore_n (lv' := [(2, .int t0), (0, va_rf (some b)), (1, .int x1)]) hx hb dX10_cover_18 rfl hl (by decide) rfl (fun ls hl => ?_)
  refine j_aload_n (r := (some b)) hx hb dX10_cover_19 rfl (lv_at hl 1 rfl) ?_
  refine lv_iload_n hx hb dX10_cover_20 rfl (lv_at hl 2 rfl) ?_
  refine lv_iload_n hx hb dX10_cover_21 rfl (lv_at hl 0 rfl) ?_
  obtain ⟨hfs, hw⟩ := hw
  refine j_goz hI (va_runV (As := [.int x1, .int t0]) (rest := []) ⟨hx, hb, hml, hown, hts⟩ (kX10_nextLine l hfl D z b x1 t0 μ H.size _) (cwV 2 hts gX10_cover_X10_nextLine rfl rfl rfl (by decide +kernel) ⟨Nat.le_of_ble_eq_true rfl, Nat.le_of_ble_eq_true rfl⟩) (j_prV2z hK hG hI hw (ci := 12) rfl hfs) rfl rfl hl.1 rfl (lv_room (Nat.le_of_ble_eq_true rfl)) dX10_cover_22 ⟨by show _ ≤ 0; omega, by show _ ≤ 0; omega⟩) (fun v1 μ2 H locs hw hI => ?_)
  refine W.eq (g2 := F0 m 25 ls [.int v1]) rfl ?_
  refine lv_istore_n (lv' := [(3, .int v1), (2, .int t0), (0, va_rf (some b)), (1, .int x1)]) hx hb dX10_cover_25 rfl hl (by decide) rfl (fun ls hl => ?_)
  obtain ⟨n3, hw⟩ := hw
  exact kX10_cover_26 hX  n3 hw hI (lv_sub hl [2, 3, 1, 0] rfl) (by omega) (by omega)
set_option maxHeartbeats 4000000 in
set_option maxRecDepth 100000 in
theorem kX10_cover_0 {b : Nat} (hX : jX2 D z A p l s m args meth c yX10_cover cX10_cover 10 wsX10_cover none) {Q : Unit → jM → Prop}  {x1 : Int32} {μ : jM} {H : Heap} {locs : List Loc} {ls : Array Slot} {cells slots : Nat} (hw : wX10_cover_0 z b Q x1 μ) (hI : jIz D z A s.heap μ H locs) (hl : lv_has ls 10 [(0, va_rf (some b)), (1, .int x1)]) (hcn : cells + 0 ≤ 0) (hsn : slots + 0 ≤ 0) : W p l e rmX10_cover s m args below meth c H locs cells slots (MQ below (jRz jfV Q D z A) args s 0 0 A) (F0 m 0 ls []) := by
  unfold wX10_cover_0 at hw
  obtain ⟨hx, hb, hml, hown, hts, hr, hlocks, hnm, hK, hG, hfl⟩ := id hX
  have hown : s.vm.findClass RX10 = some m.cls := hown
  have hfX10 : ∀ w ∈ wsX100, w.before args s = true := fun w h => hts w (List.mem_cons_of_mem _ (List.mem_append_right _ h))
  refine j_aload_n (r := (some b)) hx hb dX10_cover_0 rfl (lv_at hl 0 rfl) ?_
  obtain ⟨v1, hv1, hw⟩ := hw
  refine j_getz (C := RX10) (T := TX10) (N := 25) (ci := 12) (r := (some b)) (v := va_rf v1) hx hb hfX10 hown hK hI rfl 3 (by decide) (hts (.fieldLink RX10 7 "CashPoolsModel" "z" "[J") (List.mem_of_getElem? (i := 1) (by decide +kernel))) (fun _ h => h) hv1 dX10_cover_1 ?_
  refine lv_iconst (v := (0)) hx hb dX10_cover_4 (by decide) ?_
  refine lv_iload_n hx hb dX10_cover_5 rfl (lv_at hl 1 rfl) ?_
  refine lv_iadd hx hb dX10_cover_6 ?_
  obtain ⟨v2, hv2, hw⟩ := hw
  refine j_laldz (r := v1) hx hb hK hI hv2 dX10_cover_7 ?_
  refine lv_lconst (v := (0)) hx hb dX10_cover_8 (by decide) ?_
  refine j_lcmp_ge (tgt := 17) hx hb dX10_cover_9 dX10_cover_10 (by decide) (fun hc => ?_) (fun hc => ?_)
  · have hw := hw.1 hc
    refine lv_iconst (v := (0)) hx hb dX10_cover_17 (by decide) ?_
    exact kX10_cover_18 hX  hw hI (lv_sub hl [0, 1] rfl) (by omega) (by omega)
  · have hw := hw.2 hc
    refine lv_iconst (v := (1)) hx hb dX10_cover_13 (by decide) ?_
    refine lv_goto (tgt := 18) hx hb dX10_cover_14 (by decide) ?_
    exact kX10_cover_18 hX  hw hI (lv_sub hl [0, 1] rfl) (by omega) (by omega)
set_option maxHeartbeats 4000000 in
set_option maxRecDepth 100000 in
theorem kX10_cover (l : Launch) (hfl : l.stackTraces = false) (D : jD) (z : Nat × Nat) (b : Nat) (x1 : Int32) (μ : jM) (sz : Nat) (Q : Unit → jM → Prop) : Met l yX10_cover wsX10_cover rmX10_cover (jPre2z D z μ sz [.ref b, .int x1] (wX10_cover z b x1 μ Q)) (jRz jfV Q D z (jA z μ sz)) 0 0 (jA z μ sz) := by
  refine Met.ofW (cc := cX10_cover) (maxL := 10) (ret := none) (by decide) rfl ?_
  intro p e s m args below meth c s₁ B hml hv
  obtain ⟨rfl, hsz, hH, hz0, hK, hG, hw⟩ := hv
  subst hsz
  have hX : jX2 D z (jA z μ s.heap.size) p l s m _ meth c yX10_cover cX10_cover 10 wsX10_cover none := ⟨B.exec, B.bytes, hml, findClass_of_methodNamed B.named, atoms_spec (ws := wsX10_cover) B.pre, B.returns, B.notSynchronized, (name_of_methodNamed B.named B.method).1, hK, hG, hfl⟩
  obtain ⟨ls, hg, hl⟩ : ∃ ls : Array Slot, entryFrame m ([.ref b, .int x1] : List Value).toArray 10 = F0 m 0 ls [] ∧ lv_has ls 10 [(0, va_rf (some b)), (1, .int x1)] := by
    exact ⟨_, lg_entry_eq .., lv_entry _ (n := 10) (Nat.le_of_ble_eq_true rfl)⟩
  rw [hg]
  exact kX10_cover_0 hX hw (jIz.start hH hz0) (lv_sub hl [0, 1] rfl) (by decide) (by decide)
set_option maxHeartbeats 4000000 in
set_option maxRecDepth 100000 in
theorem kX10_exposed_5 {b : Nat} (hX : jX2 D z A p l s m args meth c yX10_exposed cX10_exposed 5 wsX10_exposed (some .long)) {Q : Int64 → jM → Prop}  (n : Nat) : ∀ {x1 : Int32} {x2 : Int64} {x4 : Int32} {μ : jM} {H : Heap} {locs : List Loc} {ls : Array Slot} {cells slots : Nat}, wX10_exposed_5 z b Q n x1 x2 x4 μ → jIz D z A s.heap μ H locs → lv_has ls 5 [(0, va_rf (some b)), (1, .int x1), (2, .long x2), (4, .int x4)] → cells + 0 ≤ 0 → slots + 0 ≤ 0 → W p l e rmX10_exposed s m args below meth c H locs cells slots (MQ below (jRz jfJ Q D z A) args s 0 0 A) (F0 m 5 ls []) := by
  induction n with
  | zero =>
    intros
    rename_i hw _ _ _ _
    exact (show False from hw).elim
  | succ n ih =>
    intro x1 x2 x4 μ H locs ls cells slots hw hI hl hcn hsn
    have hw : wX10_exposed_5_b z b Q (wX10_exposed_5 z b Q n) x1 x2 x4 μ := hw
    unfold wX10_exposed_5_b at hw
    obtain ⟨hx, hb, hml, hown, hts, hr, hlocks, hnm, hK, hG, hfl⟩ := id hX
    have hown : s.vm.findClass RX10 = some m.cls := hown
    have hfX10 : ∀ w ∈ wsX100, w.before args s = true := fun w h => hts w (List.mem_cons_of_mem _ (List.mem_append_right _ h))
    refine lv_iload hx hb dX10_exposed_5 (lv_at hl 3 rfl) ?_
    refine j_aload_n (r := (some b)) hx hb dX10_exposed_7 rfl (lv_at hl 0 rfl) ?_
    obtain ⟨v1, hv1, hw⟩ := hw
    refine j_getz (C := RX10) (T := TX10) (N := 25) (ci := 12) (r := (some b)) (v := .int v1) hx hb hfX10 hown hK hI rfl 0 (by decide) (hts (.fieldLink RX10 79 "CashPoolsModel" "accounts" "I") (List.mem_of_getElem? (i := 1) (by decide +kernel))) (fun _ h => h) hv1 dX10_exposed_8 ?_
    refine lv_icmp_ge (tgt := 61) hx hb dX10_exposed_11 (by decide) (fun hc => ?_) (fun hc => ?_)
    · have hw := hw.1 hc
      refine lv_lload_n hx hb dX10_exposed_61 rfl (lv_at hl 2 rfl) ?_
      exact j_lretz hx hb hr hlocks hI hw (by omega) (by omega) dX10_exposed_62
    · have hw := hw.2 hc
      refine lv_lload_n hx hb dX10_exposed_14 rfl (lv_at hl 2 rfl) ?_
      refine j_aload_n (r := (some b)) hx hb dX10_exposed_15 rfl (lv_at hl 0 rfl) ?_
      obtain ⟨v2, hv2, hw⟩ := hw
      refine j_getz (C := RX10) (T := TX10) (N := 25) (ci := 12) (r := (some b)) (v := va_rf v2) hx hb hfX10 hown hK hI rfl 7 (by decide) (hts (.fieldLink RX10 23 "CashPoolsModel" "bank" "[I") (List.mem_of_getElem? (i := 2) (by decide +kernel))) (fun _ h => h) hv2 dX10_exposed_16 ?_
      refine lv_iload hx hb dX10_exposed_19 (lv_at hl 3 rfl) ?_
      obtain ⟨v3, hv3, hw⟩ := hw
      refine j_ialdz (r := v2) hx hb hK hI hv3 dX10_exposed_21 ?_
      refine lv_iload_n hx hb dX10_exposed_22 rfl (lv_at hl 1 rfl) ?_
      refine lv_icmp_ne (tgt := 52) hx hb dX10_exposed_23 (by decide) (fun hc => ?_) (fun hc => ?_)
      · have hw := hw.1 hc
        refine lv_lconst (v := (0)) hx hb dX10_exposed_52 (by decide) ?_
        refine lv_ladd hx hb dX10_exposed_53 ?_
        refine lv_topl (fun v4 ev4 => ?_)
        have hw := hw v4 ev4
        refine lv_lstore_n (lv' := [(2, .long v4), (0, va_rf (some b)), (1, .int x1), (4, .int x4)]) hx hb dX10_exposed_54 rfl hl (by decide) rfl (fun ls hl => ?_)
        obtain ⟨v5, ev5⟩ : ∃ y : Int32, y = x4 + (1 : Int32) := ⟨_, rfl⟩
        have hw := hw v5 ev5
        refine lv_iinc (v := v5) (lv' := [(4, .int v5), (2, .long v4), (0, va_rf (some b)), (1, .int x1)]) hx hb dX10_exposed_55 hl (k := 3) rfl (by rw [ev5]; rfl) (by decide) rfl (fun ls hl => ?_)
        refine lv_goto (tgt := 5) hx hb dX10_exposed_58 (by decide) ?_
        exact ih hw hI (lv_sub hl [2, 3, 1, 0] rfl) (by omega) (by omega)
      · have hw := hw.2 hc
        refine j_aload_n (r := (some b)) hx hb dX10_exposed_26 rfl (lv_at hl 0 rfl) ?_
        obtain ⟨v6, hv6, hw⟩ := hw
        refine j_getz (C := RX10) (T := TX10) (N := 25) (ci := 12) (r := (some b)) (v := va_rf v6) hx hb hfX10 hown hK hI rfl 3 (by decide) (hts (.fieldLink RX10 7 "CashPoolsModel" "z" "[J") (List.mem_of_getElem? (i := 3) (by decide +kernel))) (fun _ h => h) hv6 dX10_exposed_27 ?_
        refine lv_iconst (v := (0)) hx hb dX10_exposed_30 (by decide) ?_
        refine lv_iload hx hb dX10_exposed_31 (lv_at hl 3 rfl) ?_
        refine lv_iadd hx hb dX10_exposed_33 ?_
        obtain ⟨v7, hv7, hw⟩ := hw
        refine j_laldz (r := v6) hx hb hK hI hv7 dX10_exposed_34 ?_
        refine lv_lconst (v := (0)) hx hb dX10_exposed_35 (by decide) ?_
        refine j_lcmp_le (tgt := 52) hx hb dX10_exposed_36 dX10_exposed_37 (by decide) (fun hc => ?_) (fun hc => ?_)
        · have hw := hw.1 hc
          refine lv_lconst (v := (0)) hx hb dX10_exposed_52 (by decide) ?_
          refine lv_ladd hx hb dX10_exposed_53 ?_
          refine lv_topl (fun v8 ev8 => ?_)
          have hw := hw v8 ev8
          refine lv_lstore_n (lv' := [(2, .long v8), (0, va_rf (some b)), (1, .int x1), (4, .int x4)]) hx hb dX10_exposed_54 rfl hl (by decide) rfl (fun ls hl => ?_)
          obtain ⟨v9, ev9⟩ : ∃ y : Int32, y = x4 + (1 : Int32) := ⟨_, rfl⟩
          have hw := hw v9 ev9
          refine lv_iinc (v := v9) (lv' := [(4, .int v9), (2, .long v8), (0, va_rf (some b)), (1, .int x1)]) hx hb dX10_exposed_55 hl (k := 3) rfl (by rw [ev9]; rfl) (by decide) rfl (fun ls hl => ?_)
          refine lv_goto (tgt := 5) hx hb dX10_exposed_58 (by decide) ?_
          exact ih hw hI (lv_sub hl [2, 3, 1, 0] rfl) (by omega) (by omega)
        · have hw := hw.2 hc
          refine j_aload_n (r := (some b)) hx hb dX10_exposed_40 rfl (lv_at hl 0 rfl) ?_
          obtain ⟨v10, hv10, hw⟩ := hw
          refine j_getz (C := RX10) (T := TX10) (N := 25) (ci := 12) (r := (some b)) (v := va_rf v10) hx hb hfX10 hown hK hI rfl 3 (by decide) (hts (.fieldLink RX10 7 "CashPoolsModel" "z" "[J") (List.mem_of_getElem? (i := 3) (by decide +kernel))) (fun _ h => h) hv10 dX10_exposed_41 ?_
          refine lv_iconst (v := (0)) hx hb dX10_exposed_44 (by decide) ?_
          refine lv_iload hx hb dX10_exposed_45 (lv_at hl 3 rfl) ?_
          refine lv_iadd hx hb dX10_exposed_47 ?_
          obtain ⟨v11, hv11, hw⟩ := hw
          refine j_laldz (r := v10) hx hb hK hI hv11 dX10_exposed_48 ?_
          refine lv_goto (tgt := 53) hx hb dX10_exposed_49 (by decide) ?_
          refine lv_ladd hx hb dX10_exposed_53 ?_
          refine lv_topl (fun v12 ev12 => ?_)
          have hw := hw v12 ev12
          refine lv_lstore_n (lv' := [(2, .long v12), (0, va_rf (some b)), (1, .int x1), (4, .int x4)]) hx hb dX10_exposed_54 rfl hl (by decide) rfl (fun ls hl => ?_)
          obtain ⟨v13, ev13⟩ : ∃ y : Int32, y = x4 + (1 : Int32) := ⟨_, rfl⟩
          have hw := hw v13 ev13
          refine lv_iinc (v := v13) (lv' := [(4, .int v13), (2, .long v12), (0, va_rf (some b)), (1, .int x1)]) hx hb dX10_exposed_55 hl (k := 3) rfl (by rw [ev13]; rfl) (by decide) rfl (fun ls hl => ?_)
          refine lv_goto (tgt := 5) hx hb dX10_exposed_58 (by decide) ?_
          exact ih hw hI (lv_sub hl [2, 3, 1, 0] rfl) (by omega) (by omega)
set_option maxHeartbeats 4000000 in
set_option maxRecDepth 100000 in
theorem kX10_exposed_0 {b : Nat} (hX : jX2 D z A p l s m args meth c yX10_exposed cX10_exposed 5 wsX10_exposed (some .long)) {Q : Int64 → jM → Prop}  {x1 : Int32} {μ : jM} {H : Heap} {locs : List Loc} {ls : Array Slot} {cells slots : Nat} (hw : wX10_exposed_0 z b Q x1 μ) (hI : jIz D z A s.heap μ H locs) (hl : lv_has ls 5 [(0, va_rf (some b)), (1, .int x1)]) (hcn : cells + 0 ≤ 0) (hsn : slots + 0 ≤ 0) : W p l e rmX10_exposed s m args below meth c H locs cells slots (MQ below (jRz jfJ Q D z A) args s 0 0 A) (F0 m 0 ls []) := by
  unfold wX10_exposed_0 at hw
  obtain ⟨hx, hb, hml, hown, hts, hr, hlocks, hnm, hK, hG, hfl⟩ := id hX
  have hown : s.vm.findClass RX10 = some m.cls := hown
  refine lv_lconst (v := (0)) hx hb dX10_exposed_0 (by decide) ?_
  refine lv_topl (fun v1 ev1 => ?_)
  have hw := hw v1 ev1
  refine lv_lstore_n (lv' := [(2, .long v1), (0, va_rf (some b)), (1, .int x1)]) hx hb dX10_exposed_1 rfl hl (by decide) rfl (fun ls hl => ?_)
  refine lv_iconst (v := (0)) hx hb dX10_exposed_2 (by decide) ?_
  refine lv_topi (fun v2 ev2 => ?_)
  have hw := hw v2 ev2
  refine lv_istore (lv' := [(4, .int v2), (2, .long v1), (0, va_rf (some b)), (1, .int x1)]) hx hb dX10_exposed_3 hl (by decide) rfl (fun ls hl => ?_)
  obtain ⟨n3, hw⟩ := hw
  exact kX10_exposed_5 hX  n3 hw hI (lv_sub hl [2, 3, 1, 0] rfl) (by omega) (by omega)
set_option maxHeartbeats 4000000 in
set_option maxRecDepth 100000 in
theorem kX10_exposed (l : Launch) (hfl : l.stackTraces = false) (D : jD) (z : Nat × Nat) (b : Nat) (x1 : Int32) (μ : jM) (sz : Nat) (Q : Int64 → jM → Prop) : Met l yX10_exposed wsX10_exposed rmX10_exposed (jPre2z D z μ sz [.ref b, .int x1] (wX10_exposed z b x1 μ Q)) (jRz jfJ Q D z (jA z μ sz)) 0 0 (jA z μ sz) := by
  refine Met.ofW (cc := cX10_exposed) (maxL := 5) (ret := (some .long)) (by decide) rfl ?_
  intro p e s m args below meth c s₁ B hml hv
  obtain ⟨rfl, hsz, hH, hz0, hK, hG, hw⟩ := hv
  subst hsz
  have hX : jX2 D z (jA z μ s.heap.size) p l s m _ meth c yX10_exposed cX10_exposed 5 wsX10_exposed (some .long) := ⟨B.exec, B.bytes, hml, findClass_of_methodNamed B.named, atoms_spec (ws := wsX10_exposed) B.pre, B.returns, B.notSynchronized, (name_of_methodNamed B.named B.method).1, hK, hG, hfl⟩
  obtain ⟨ls, hg, hl⟩ : ∃ ls : Array Slot, entryFrame m ([.ref b, .int x1] : List Value).toArray 5 = F0 m 0 ls [] ∧ lv_has ls 5 [(0, va_rf (some b)), (1, .int x1)] := by
    exact ⟨_, lg_entry_eq .., lv_entry _ (n := 5) (Nat.le_of_ble_eq_true rfl)⟩
  rw [hg]
  exact kX10_exposed_0 hX hw (jIz.start hH hz0) (lv_sub hl [0, 1] rfl) (by decide) (by decide)
set_option maxHeartbeats 4000000 in
set_option maxRecDepth 100000 in
theorem kX10_excess_0 {b : Nat} (hX : jX2 D z A p l s m args meth c yX10_excess cX10_excess 4 wsX10_excess (some .long)) {Q : Int64 → jM → Prop}  {x1 : Int32} {μ : jM} {H : Heap} {locs : List Loc} {ls : Array Slot} {cells slots : Nat} (hw : wX10_excess_0 z b Q x1 μ) (hI : jIz D z A s.heap μ H locs) (hl : lv_has ls 4 [(0, va_rf (some b)), (1, .int x1)]) (hcn : cells + 0 ≤ 0) (hsn : slots + 0 ≤ 0) : W p l e rmX10_excess s m args below meth c H locs cells slots (MQ below (jRz jfJ Q D z A) args s 0 0 A) (F0 m 0 ls []) := by
  unfold wX10_excess_0 at hw
  obtain ⟨hx, hb, hml, hown, hts, hr, hlocks, hnm, hK, hG, hfl⟩ := id hX
  have hown : s.vm.findClass RX10 = some m.cls := hown
  have hfX10 : ∀ w ∈ wsX100, w.before args s = true := fun w h => hts w (List.mem_cons_of_mem _ (List.mem_append_right _ h))
  refine j_aload_n (r := (some b)) hx hb dX10_excess_0 rfl (lv_at hl 0 rfl) ?_
  refine lv_iload_n hx hb dX10_excess_1 rfl (lv_at hl 1 rfl) ?_
  obtain ⟨hfs, hw⟩ := hw
  refine j_goz hI (va_runV (As := [.int x1]) (rest := []) ⟨hx, hb, hml, hown, hts⟩ (kX10_exposed l hfl D z b x1 μ H.size _) (cwV 1 hts gX10_excess_X10_exposed rfl rfl rfl (by decide +kernel) ⟨Nat.le_of_ble_eq_true rfl, Nat.le_of_ble_eq_true rfl⟩) (j_prV2z hK hG hI hw (ci := 12) rfl hfs) rfl rfl hl.1 rfl (lv_room (Nat.le_of_ble_eq_true rfl)) dX10_excess_2 ⟨by show _ ≤ 0; omega, by show _ ≤ 0; omega⟩) (fun v1 μ2 H locs hw hI => ?_)
  refine W.eq (g2 := F0 m 5 ls [.long v1]) rfl ?_
  refine j_aload_n (r := (some b)) hx hb dX10_excess_5 rfl (lv_at hl 0 rfl) ?_
  obtain ⟨v3, hv3, hw⟩ := hw
  refine j_getz (C := RX10) (T := TX10) (N := 25) (ci := 12) (r := (some b)) (v := va_rf v3) hx hb hfX10 hown hK hI rfl 16 (by decide) (hts (.fieldLink RX10 50 "CashPoolsModel" "bankLimit" "[I") (List.mem_of_getElem? (i := 1) (by decide +kernel))) (fun _ h => h) hv3 dX10_excess_6 ?_
  refine lv_iload_n hx hb dX10_excess_9 rfl (lv_at hl 1 rfl) ?_
  obtain ⟨v4, hv4, hw⟩ := hw
  refine j_ialdz (r := v3) hx hb hK hI hv4 dX10_excess_10 ?_
  refine lv_i2l hx hb dX10_excess_11 rfl ?_
  refine lv_lsub hx hb dX10_excess_12 ?_
  refine lv_topl (fun v5 ev5 => ?_)
  have hw := hw v5 ev5
  refine lv_lstore_n (lv' := [(2, .long v5), (0, va_rf (some b)), (1, .int x1)]) hx hb dX10_excess_13 rfl hl (by decide) rfl (fun ls hl => ?_)
  refine j_aload_n (r := (some b)) hx hb dX10_excess_14 rfl (lv_at hl 1 rfl) ?_
  obtain ⟨v6, hv6, hw⟩ := hw
  refine j_getz (C := RX10) (T := TX10) (N := 25) (ci := 12) (r := (some b)) (v := va_rf v6) hx hb hfX10 hown hK hI rfl 16 (by decide) (hts (.fieldLink RX10 50 "CashPoolsModel" "bankLimit" "[I") (List.mem_of_getElem? (i := 1) (by decide +kernel))) (fun _ h => h) hv6 dX10_excess_15 ?_
  refine lv_iload_n hx hb dX10_excess_18 rfl (lv_at hl 2 rfl) ?_
  obtain ⟨v7, hv7, hw⟩ := hw
  refine j_ialdz (r := v6) hx hb hK hI hv7 dX10_excess_19 ?_
  refine lv_iconst (v := (-1)) hx hb dX10_excess_20 (by decide) ?_
  refine lv_icmp_eq (tgt := 30) hx hb dX10_excess_21 (by decide) (fun hc => ?_) (fun hc => ?_)
  · have hw := hw.1 hc
    refine lv_lconst (v := (0)) hx hb dX10_excess_30 (by decide) ?_
    refine lv_goto (tgt := 35) hx hb dX10_excess_31 (by decide) ?_
    exact j_lretz hx hb hr hlocks hI hw (by omega) (by omega) dX10_excess_35
  · have hw := hw.2 hc
    refine lv_lload_n hx hb dX10_excess_24 rfl (lv_at hl 0 rfl) ?_
    refine lv_lconst (v := (0)) hx hb dX10_excess_25 (by decide) ?_
    refine j_lcmp_ge (tgt := 34) hx hb dX10_excess_26 dX10_excess_27 (by decide) (fun hc => ?_) (fun hc => ?_)
    · have hw := hw.1 hc
      refine lv_lload_n hx hb dX10_excess_34 rfl (lv_at hl 0 rfl) ?_
      exact j_lretz hx hb hr hlocks hI hw (by omega) (by omega) dX10_excess_35
    · have hw := hw.2 hc
      refine lv_lconst (v := (0)) hx hb dX10_excess_30 (by decide) ?_
      refine lv_goto (tgt := 35) hx hb dX10_excess_31 (by decide) ?_
      exact j_lretz hx hb hr hlocks hI hw (by omega) (by omega) dX10_excess_35
set_option maxHeartbeats 4000000 in
set_option maxRecDepth 100000 in
theorem kX10_excess (l : Launch) (hfl : l.stackTraces = false) (D : jD) (z : Nat × Nat) (b : Nat) (x1 : Int32) (μ : jM) (sz : Nat) (Q : Int64 → jM → Prop) : Met l yX10_excess wsX10_excess rmX10_excess (jPre2z D z μ sz [.ref b, .int x1] (wX10_excess z b x1 μ Q)) (jRz jfJ Q D z (jA z μ sz)) 0 0 (jA z μ sz) := by
  refine Met.ofW (cc := cX10_excess) (maxL := 4) (ret := (some .long)) (by decide) rfl ?_
  intro p e s m args below meth c s₁ B hml hv
  obtain ⟨rfl, hsz, hH, hz0, hK, hG, hw⟩ := hv
  subst hsz
  have hX : jX2 D z (jA z μ s.heap.size) p l s m _ meth c yX10_excess cX10_excess 4 wsX10_excess (some .long) := ⟨B.exec, B.bytes, hml, findClass_of_methodNamed B.named, atoms_spec (ws := wsX10_excess) B.pre, B.returns, B.notSynchronized, (name_of_methodNamed B.named B.method).1, hK, hG, hfl⟩
  obtain ⟨ls, hg, hl⟩ : ∃ ls : Array Slot, entryFrame m ([.ref b, .int x1] : List Value).toArray 4 = F0 m 0 ls [] ∧ lv_has ls 4 [(0, va_rf (some b)), (1, .int x1)] := by
    exact ⟨_, lg_entry_eq .., lv_entry _ (n := 4) (Nat.le_of_ble_eq_true rfl)⟩
  rw [hg]
  exact kX10_excess_0 hX hw (jIz.start hH hz0) (lv_sub hl [0, 1] rfl) (by decide) (by decide)
set_option maxHeartbeats 4000000 in
set_option maxRecDepth 100000 in
theorem kX10_room_0 {b : Nat} (hX : jX2 D z A p l s m args meth c yX10_room cX10_room 4 wsX10_room (some .long)) {Q : Int64 → jM → Prop}  {x1 : Int32} {μ : jM} {H : Heap} {locs : List Loc} {ls : Array Slot} {cells slots : Nat} (hw : wX10_room_0 z b Q x1 μ) (hI : jIz D z A s.heap μ H locs) (hl : lv_has ls 4 [(0, va_rf (some b)), (1, .int x1)]) (hcn : cells + 0 ≤ 0) (hsn : slots + 0 ≤ 0) : W p l e rmX10_room s m args below meth c H locs cells slots (MQ below (jRz jfJ Q D z A) args s 0 0 A) (F0 m 0 ls []) := by
  unfold wX10_room_0 at hw
  obtain ⟨hx, hb, hml, hown, hts, hr, hlocks, hnm, hK, hG, hfl⟩ := id hX
  have hown : s.vm.findClass RX10 = some m.cls := hown
  have hfX10 : ∀ w ∈ wsX100, w.before args s = true := fun w h => hts w (List.mem_cons_of_mem _ (List.mem_append_right _ h))
  refine j_aload_n (r := (some b)) hx hb dX10_room_0 rfl (lv_at hl 0 rfl) ?_
  obtain ⟨v1, hv1, hw⟩ := hw
  refine j_getz (C := RX10) (T := TX10) (N := 25) (ci := 12) (r := (some b)) (v := va_rf v1) hx hb hfX10 hown hK hI rfl 16 (by decide) (hts (.fieldLink RX10 50 "CashPoolsModel" "bankLimit" "[I") (List.mem_of_getElem? (i := 1) (by decide +kernel))) (fun _ h => h) hv1 dX10_room_1 ?_
  refine lv_iload_n hx hb dX10_room_4 rfl (lv_at hl 1 rfl) ?_
  obtain ⟨v2, hv2, hw⟩ := hw
  refine j_ialdz (r := v1) hx hb hK hI hv2 dX10_room_5 ?_
  refine lv_i2l hx hb dX10_room_6 rfl ?_
  refine j_aload_n (r := (some b)) hx hb dX10_room_7 rfl (lv_at hl 0 rfl) ?_
  refine lv_iload_n hx hb dX10_room_8 rfl (lv_at hl 1 rfl) ?_
  obtain ⟨hfs, hw⟩ := hw
  refine j_goz hI (va_runV (As := [.int x1]) (rest := [.long (Int32.toInt64 v2)]) ⟨hx, hb, hml, hown, hts⟩ (kX10_exposed l hfl D z b x1 μ H.size _) (cwV 1 hts gX10_room_X10_exposed rfl rfl rfl (by decide +kernel) ⟨Nat.le_of_ble_eq_true rfl, Nat.le_of_ble_eq_true rfl⟩) (j_prV2z hK hG hI hw (ci := 12) rfl hfs) rfl rfl hl.1 rfl (lv_room (Nat.le_of_ble_eq_true rfl)) dX10_room_9 ⟨by show _ ≤ 0; omega, by show _ ≤ 0; omega⟩) (fun v3 μ4 H locs hw hI => ?_)
  refine W.eq (g2 := F0 m 12 ls [.long v3, .long (Int32.toInt64 v2)]) rfl ?_
  refine lv_lsub hx hb dX10_room_12 ?_
  refine lv_topl (fun v5 ev5 => ?_)
  have hw := hw v5 ev5
  refine lv_lstore_n (lv' := [(2, .long v5), (0, va_rf (some b)), (1, .int x1)]) hx hb dX10_room_13 rfl hl (by decide) rfl (fun ls hl => ?_)
  refine j_aload_n (r := (some b)) hx hb dX10_room_14 rfl (lv_at hl 1 rfl) ?_
  obtain ⟨v6, hv6, hw⟩ := hw
  refine j_getz (C := RX10) (T := TX10) (N := 25) (ci := 12) (r := (some b)) (v := va_rf v6) hx hb hfX10 hown hK hI rfl 16 (by decide) (hts (.fieldLink RX10 50 "CashPoolsModel" "bankLimit" "[I") (List.mem_of_getElem? (i := 1) (by decide +kernel))) (fun _ h => h) hv6 dX10_room_15 ?_
  refine lv_iload_n hx hb dX10_room_18 rfl (lv_at hl 2 rfl) ?_
  obtain ⟨v7, hv7, hw⟩ := hw
  refine j_ialdz (r := v6) hx hb hK hI hv7 dX10_room_19 ?_
  refine lv_iconst (v := (-1)) hx hb dX10_room_20 (by decide) ?_
  refine lv_icmp_ne (tgt := 30) hx hb dX10_room_21 (by decide) (fun hc => ?_) (fun hc => ?_)
  · have hw := hw.1 hc
    refine lv_lload_n hx hb dX10_room_30 rfl (lv_at hl 0 rfl) ?_
    refine lv_lconst (v := (0)) hx hb dX10_room_31 (by decide) ?_
    refine j_lcmp_ge (tgt := 40) hx hb dX10_room_32 dX10_room_33 (by decide) (fun hc => ?_) (fun hc => ?_)
    · have hw := hw.1 hc
      refine lv_lload_n hx hb dX10_room_40 rfl (lv_at hl 0 rfl) ?_
      exact j_lretz hx hb hr hlocks hI hw (by omega) (by omega) dX10_room_41
    · have hw := hw.2 hc
      refine lv_lconst (v := (0)) hx hb dX10_room_36 (by decide) ?_
      refine lv_goto (tgt := 41) hx hb dX10_room_37 (by decide) ?_
      exact j_lretz hx hb hr hlocks hI hw (by omega) (by omega) dX10_room_41
  · have hw := hw.2 hc
    refine lv_ldc2 (v := (4000000000000000000)) hx hb hown (hts (.constantLong RX10 125 (4000000000000000000)) (List.mem_of_getElem? (i := 2) (by decide +kernel))) dX10_room_24 ?_
    refine lv_goto (tgt := 41) hx hb dX10_room_27 (by decide) ?_
    exact j_lretz hx hb hr hlocks hI hw (by omega) (by omega) dX10_room_41
set_option maxHeartbeats 4000000 in
set_option maxRecDepth 100000 in
theorem kX10_room (l : Launch) (hfl : l.stackTraces = false) (D : jD) (z : Nat × Nat) (b : Nat) (x1 : Int32) (μ : jM) (sz : Nat) (Q : Int64 → jM → Prop) : Met l yX10_room wsX10_room rmX10_room (jPre2z D z μ sz [.ref b, .int x1] (wX10_room z b x1 μ Q)) (jRz jfJ Q D z (jA z μ sz)) 0 0 (jA z μ sz) := by
  refine Met.ofW (cc := cX10_room) (maxL := 4) (ret := (some .long)) (by decide) rfl ?_
  intro p e s m args below meth c s₁ B hml hv
  obtain ⟨rfl, hsz, hH, hz0, hK, hG, hw⟩ := hv
  subst hsz
  have hX : jX2 D z (jA z μ s.heap.size) p l s m _ meth c yX10_room cX10_room 4 wsX10_room (some .long) := ⟨B.exec, B.bytes, hml, findClass_of_methodNamed B.named, atoms_spec (ws := wsX10_room) B.pre, B.returns, B.notSynchronized, (name_of_methodNamed B.named B.method).1, hK, hG, hfl⟩
  obtain ⟨ls, hg, hl⟩ : ∃ ls : Array Slot, entryFrame m ([.ref b, .int x1] : List Value).toArray 4 = F0 m 0 ls [] ∧ lv_has ls 4 [(0, va_rf (some b)), (1, .int x1)] := by
    exact ⟨_, lg_entry_eq .., lv_entry _ (n := 4) (Nat.le_of_ble_eq_true rfl)⟩
  rw [hg]
  exact kX10_room_0 hX hw (jIz.start hH hz0) (lv_sub hl [0, 1] rfl) (by decide) (by decide)
set_option maxHeartbeats 4000000 in
set_option maxRecDepth 100000 in
theorem kX10_getter_4 {b : Nat} (hX : jX2 D z A p l s m args meth c yX10_getter cX10_getter 4 wsX10_getter (some .int)) {Q : Int32 → jM → Prop}  (n : Nat) : ∀ {x1 : Int32} {x2 : Int32} {x3 : Int32} {μ : jM} {H : Heap} {locs : List Loc} {ls : Array Slot} {cells slots : Nat}, wX10_getter_4 z b Q n x1 x2 x3 μ → jIz D z A s.heap μ H locs → lv_has ls 4 [(0, va_rf (some b)), (1, .int x1), (2, .int x2), (3, .int x3)] → cells + 0 ≤ 0 → slots + 0 ≤ 0 → W p l e rmX10_getter s m args below meth c H locs cells slots (MQ below (jRz jfI Q D z A) args s 0 0 A) (F0 m 4 ls []) := by
  induction n with
  | zero =>
    intros
    rename_i hw _ _ _ _
    exact (show False from hw).elim
  | succ n ih =>
    intro x1 x2 x3 μ H locs ls cells slots hw hI hl hcn hsn
    have hw : wX10_getter_4_b z b Q (wX10_getter_4 z b Q n) x1 x2 x3 μ := hw
    unfold wX10_getter_4_b at hw
    obtain ⟨hx, hb, hml, hown, hts, hr, hlocks, hnm, hK, hG, hfl⟩ := id hX
    have hown : s.vm.findClass RX10 = some m.cls := hown
    have hfX10 : ∀ w ∈ wsX100, w.before args s = true := fun w h => hts w (List.mem_cons_of_mem _ (List.mem_append_right _ h))
    refine lv_iload_n hx hb dX10_getter_4 rfl (lv_at hl 3 rfl) ?_
    refine j_aload_n (r := (some b)) hx hb dX10_getter_5 rfl (lv_at hl 0 rfl) ?_
    obtain ⟨v1, hv1, hw⟩ := hw
    refine j_getz (C := RX10) (T := TX10) (N := 25) (ci := 12) (r := (some b)) (v := .int v1) hx hb hfX10 hown hK hI rfl 0 (by decide) (hts (.fieldLink RX10 79 "CashPoolsModel" "accounts" "I") (List.mem_of_getElem? (i := 1) (by decide +kernel))) (fun _ h => h) hv1 dX10_getter_6 ?_
    refine lv_icmp_ge (tgt := 87) hx hb dX10_getter_9 (by decide) (fun hc => ?_) (fun hc => ?_)
    · have hw := hw.1 hc
      refine lv_iload_n hx hb dX10_getter_87 rfl (lv_at hl 2 rfl) ?_
      exact j_iretz hx hb hr hlocks hI hw (by omega) (by omega) dX10_getter_88
    · have hw := hw.2 hc
      refine j_aload_n (r := (some b)) hx hb dX10_getter_12 rfl (lv_at hl 0 rfl) ?_
      obtain ⟨v2, hv2, hw⟩ := hw
      refine j_getz (C := RX10) (T := TX10) (N := 25) (ci := 12) (r := (some b)) (v := va_rf v2) hx hb hfX10 hown hK hI rfl 6 (by decide) (hts (.fieldLink RX10 20 "CashPoolsModel" "top" "[I") (List.mem_of_getElem? (i := 2) (by decide +kernel))) (fun _ h => h) hv2 dX10_getter_13 ?_
      refine lv_iload_n hx hb dX10_getter_16 rfl (lv_at hl 3 rfl) ?_
      obtain ⟨v3, hv3, hw⟩ := hw
      refine j_ialdz (r := v2) hx hb hK hI hv3 dX10_getter_17 ?_
      refine lv_iload_n hx hb dX10_getter_18 rfl (lv_at hl 1 rfl) ?_
      refine lv_icmp_ne (tgt := 81) hx hb dX10_getter_19 (by decide) (fun hc => ?_) (fun hc => ?_)
      · have hw := hw.1 hc
        obtain ⟨v4, ev4⟩ : ∃ y : Int32, y = x3 + (1 : Int32) := ⟨_, rfl⟩
        have hw := hw v4 ev4
        refine lv_iinc (v := v4) (lv' := [(3, .int v4), (0, va_rf (some b)), (1, .int x1), (2, .int x2)]) hx hb dX10_getter_81 hl (k := 3) rfl (by rw [ev4]; rfl) (by decide) rfl (fun ls hl => ?_)
        refine lv_goto (tgt := 4) hx hb dX10_getter_84 (by decide) ?_
        exact ih hw hI (lv_sub hl [1, 2, 3, 0] rfl) (by omega) (by omega)
      · have hw := hw.2 hc
        refine j_aload_n (r := (some b)) hx hb dX10_getter_22 rfl (lv_at hl 0 rfl) ?_
        obtain ⟨v5, hv5, hw⟩ := hw
        refine j_getz (C := RX10) (T := TX10) (N := 25) (ci := 12) (r := (some b)) (v := va_rf v5) hx hb hfX10 hown hK hI rfl 3 (by decide) (hts (.fieldLink RX10 7 "CashPoolsModel" "z" "[J") (List.mem_of_getElem? (i := 3) (by decide +kernel))) (fun _ h => h) hv5 dX10_getter_23 ?_
        refine lv_iconst (v := (0)) hx hb dX10_getter_26 (by decide) ?_
        refine lv_iload_n hx hb dX10_getter_27 rfl (lv_at hl 3 rfl) ?_
        refine lv_iadd hx hb dX10_getter_28 ?_
        obtain ⟨v6, hv6, hw⟩ := hw
        refine j_laldz (r := v5) hx hb hK hI hv6 dX10_getter_29 ?_
        refine lv_lconst (v := (0)) hx hb dX10_getter_30 (by decide) ?_
        refine j_lcmp_lt (tgt := 81) hx hb dX10_getter_31 dX10_getter_32 (by decide) (fun hc => ?_) (fun hc => ?_)
        · have hw := hw.1 hc
          obtain ⟨v7, ev7⟩ : ∃ y : Int32, y = x3 + (1 : Int32) := ⟨_, rfl⟩
          have hw := hw v7 ev7
          refine lv_iinc (v := v7) (lv' := [(3, .int v7), (0, va_rf (some b)), (1, .int x1), (2, .int x2)]) hx hb dX10_getter_81 hl (k := 3) rfl (by rw [ev7]; rfl) (by decide) rfl (fun ls hl => ?_)
          refine lv_goto (tgt := 4) hx hb dX10_getter_84 (by decide) ?_
          exact ih hw hI (lv_sub hl [1, 2, 3, 0] rfl) (by omega) (by omega)
        · have hw := hw.2 hc
          refine j_aload_n (r := (some b)) hx hb dX10_getter_35 rfl (lv_at hl 0 rfl) ?_
          refine j_aload_n (r := (some b)) hx hb dX10_getter_36 rfl (lv_at hl 0 rfl) ?_
          obtain ⟨v8, hv8, hw⟩ := hw
          refine j_getz (C := RX10) (T := TX10) (N := 25) (ci := 12) (r := (some b)) (v := va_rf v8) hx hb hfX10 hown hK hI rfl 7 (by decide) (hts (.fieldLink RX10 23 "CashPoolsModel" "bank" "[I") (List.mem_of_getElem? (i := 4) (by decide +kernel))) (fun _ h => h) hv8 dX10_getter_37 ?_
          refine lv_iload_n hx hb dX10_getter_40 rfl (lv_at hl 3 rfl) ?_
          obtain ⟨v9, hv9, hw⟩ := hw
          refine j_ialdz (r := v8) hx hb hK hI hv9 dX10_getter_41 ?_
          obtain ⟨hfs, hw⟩ := hw
          refine j_goz hI (va_runV (As := [.int v9]) (rest := []) ⟨hx, hb, hml, hown, hts⟩ (kX10_room l hfl D z b v9 μ H.size _) (cwV 1 hts gX10_getter_X10_room rfl rfl rfl (by decide +kernel) ⟨Nat.le_of_ble_eq_true rfl, Nat.le_of_ble_eq_true rfl⟩) (j_prV2z hK hG hI hw (ci := 12) rfl hfs) rfl rfl hl.1 rfl (lv_room (Nat.le_of_ble_eq_true rfl)) dX10_getter_42 ⟨by show _ ≤ 0; omega, by show _ ≤ 0; omega⟩) (fun v10 μ11 H locs hw hI => ?_)
          refine W.eq (g2 := F0 m 45 ls [.long v10]) rfl ?_
          refine lv_lconst (v := (0)) hx hb dX10_getter_45 (by decide) ?_
          refine j_lcmp_le (tgt := 81) hx hb dX10_getter_46 dX10_getter_47 (by decide) (fun hc => ?_) (fun hc => ?_)
          · have hw := hw.1 hc
            obtain ⟨v12, ev12⟩ : ∃ y : Int32, y = x3 + (1 : Int32) := ⟨_, rfl⟩
            have hw := hw v12 ev12
            refine lv_iinc (v := v12) (lv' := [(3, .int v12), (0, va_rf (some b)), (1, .int x1), (2, .int x2)]) hx hb dX10_getter_81 hl (k := 3) rfl (by rw [ev12]; rfl) (by decide) rfl (fun ls hl => ?_)
            refine lv_goto (tgt := 4) hx hb dX10_getter_84 (by decide) ?_
            exact ih hw hI (lv_sub hl [1, 2, 3, 0] rfl) (by omega) (by omega)
          · have hw := hw.2 hc
            refine lv_iload_n hx hb dX10_getter_50 rfl (lv_at hl 2 rfl) ?_
            refine lv_iconst (v := (-1)) hx hb dX10_getter_51 (by decide) ?_
            refine lv_icmp_eq (tgt := 79) hx hb dX10_getter_52 (by decide) (fun hc => ?_) (fun hc => ?_)
            · have hw := hw.1 hc
              refine lv_iload_n hx hb dX10_getter_79 rfl (lv_at hl 3 rfl) ?_
              refine lv_istore_n (lv' := [(2, .int x3), (0, va_rf (some b)), (1, .int x1), (3, .int x3)]) hx hb dX10_getter_80 rfl hl (by decide) rfl (fun ls hl => ?_)
              obtain ⟨v13, ev13⟩ : ∃ y : Int32, y = x3 + (1 : Int32) := ⟨_, rfl⟩
              have hw := hw v13 ev13
              refine lv_iinc (v := v13) (lv' := [(3, .int v13), (2, .int x3), (0, va_rf (some b)), (1, .int x1)]) hx hb dX10_getter_81 hl (k := 3) rfl (by rw [ev13]; rfl) (by decide) rfl (fun ls hl => ?_)
              refine lv_goto (tgt := 4) hx hb dX10_getter_84 (by decide) ?_
              exact ih hw hI (lv_sub hl [2, 3, 1, 0] rfl) (by omega) (by omega)
            · have hw := hw.2 hc
              refine j_aload_n (r := (some b)) hx hb dX10_getter_55 rfl (lv_at hl 0 rfl) ?_
              refine j_aload_n (r := (some b)) hx hb dX10_getter_56 rfl (lv_at hl 0 rfl) ?_
              obtain ⟨v14, hv14, hw⟩ := hw
              refine j_getz (C := RX10) (T := TX10) (N := 25) (ci := 12) (r := (some b)) (v := va_rf v14) hx hb hfX10 hown hK hI rfl 7 (by decide) (hts (.fieldLink RX10 23 "CashPoolsModel" "bank" "[I") (List.mem_of_getElem? (i := 4) (by decide +kernel))) (fun _ h => h) hv14 dX10_getter_57 ?_
              refine lv_iload_n hx hb dX10_getter_60 rfl (lv_at hl 3 rfl) ?_
              obtain ⟨v15, hv15, hw⟩ := hw
              refine j_ialdz (r := v14) hx hb hK hI hv15 dX10_getter_61 ?_
              obtain ⟨hfs, hw⟩ := hw
              refine j_goz hI (va_runV (As := [.int v15]) (rest := []) ⟨hx, hb, hml, hown, hts⟩ (kX10_room l hfl D z b v15 μ11 H.size _) (cwV 1 hts gX10_getter_X10_room rfl rfl rfl (by decide +kernel) ⟨Nat.le_of_ble_eq_true rfl, Nat.le_of_ble_eq_true rfl⟩) (j_prV2z hK hG hI hw (ci := 12) rfl hfs) rfl rfl hl.1 rfl (lv_room (Nat.le_of_ble_eq_true rfl)) dX10_getter_62 ⟨by show _ ≤ 0; omega, by show _ ≤ 0; omega⟩) (fun v16 μ17 H locs hw hI => ?_)
              refine W.eq (g2 := F0 m 65 ls [.long v16]) rfl ?_
              refine j_aload_n (r := (some b)) hx hb dX10_getter_65 rfl (lv_at hl 0 rfl) ?_
              refine j_aload_n (r := (some b)) hx hb dX10_getter_66 rfl (lv_at hl 0 rfl) ?_
              obtain ⟨v18, hv18, hw⟩ := hw
              refine j_getz (C := RX10) (T := TX10) (N := 25) (ci := 12) (r := (some b)) (v := va_rf v18) hx hb hfX10 hown hK hI rfl 7 (by decide) (hts (.fieldLink RX10 23 "CashPoolsModel" "bank" "[I") (List.mem_of_getElem? (i := 4) (by decide +kernel))) (fun _ h => h) hv18 dX10_getter_67 ?_
              refine lv_iload_n hx hb dX10_getter_70 rfl (lv_at hl 2 rfl) ?_
              obtain ⟨v19, hv19, hw⟩ := hw
              refine j_ialdz (r := v18) hx hb hK hI hv19 dX10_getter_71 ?_
              obtain ⟨hfs, hw⟩ := hw
              refine j_goz hI (va_runV (As := [.int v19]) (rest := [.long v16]) ⟨hx, hb, hml, hown, hts⟩ (kX10_room l hfl D z b v19 μ17 H.size _) (cwV 1 hts gX10_getter_X10_room rfl rfl rfl (by decide +kernel) ⟨Nat.le_of_ble_eq_true rfl, Nat.le_of_ble_eq_true rfl⟩) (j_prV2z hK hG hI hw (ci := 12) rfl hfs) rfl rfl hl.1 rfl (lv_room (Nat.le_of_ble_eq_true rfl)) dX10_getter_72 ⟨by show _ ≤ 0; omega, by show _ ≤ 0; omega⟩) (fun v20 μ21 H locs hw hI => ?_)
              refine W.eq (g2 := F0 m 75 ls [.long v20, .long v16]) rfl ?_
              refine j_lcmp_le (tgt := 81) hx hb dX10_getter_75 dX10_getter_76 (by decide) (fun hc => ?_) (fun hc => ?_)
              · have hw := hw.1 hc
                obtain ⟨v22, ev22⟩ : ∃ y : Int32, y = x3 + (1 : Int32) := ⟨_, rfl⟩
                have hw := hw v22 ev22
                refine lv_iinc (v := v22) (lv' := [(3, .int v22), (0, va_rf (some b)), (1, .int x1), (2, .int x2)]) hx hb dX10_getter_81 hl (k := 3) rfl (by rw [ev22]; rfl) (by decide) rfl (fun ls hl => ?_)
                refine lv_goto (tgt := 4) hx hb dX10_getter_84 (by decide) ?_
                exact ih hw hI (lv_sub hl [1, 2, 3, 0] rfl) (by omega) (by omega)
              · have hw := hw.2 hc
                refine lv_iload_n hx hb dX10_getter_79 rfl (lv_at hl 3 rfl) ?_
                refine lv_istore_n (lv' := [(2, .int x3), (0, va_rf (some b)), (1, .int x1), (3, .int x3)]) hx hb dX10_getter_80 rfl hl (by decide) rfl (fun ls hl => ?_)
                obtain ⟨v23, ev23⟩ : ∃ y : Int32, y = x3 + (1 : Int32) := ⟨_, rfl⟩
                have hw := hw v23 ev23
                refine lv_iinc (v := v23) (lv' := [(3, .int v23), (2, .int x3), (0, va_rf (some b)), (1, .int x1)]) hx hb dX10_getter_81 hl (k := 3) rfl (by rw [ev23]; rfl) (by decide) rfl (fun ls hl => ?_)
                refine lv_goto (tgt := 4) hx hb dX10_getter_84 (by decide) ?_
                exact ih hw hI (lv_sub hl [2, 3, 1, 0] rfl) (by omega) (by omega)
set_option maxHeartbeats 4000000 in
set_option maxRecDepth 100000 in
theorem kX10_getter_0 {b : Nat} (hX : jX2 D z A p l s m args meth c yX10_getter cX10_getter 4 wsX10_getter (some .int)) {Q : Int32 → jM → Prop}  {x1 : Int32} {μ : jM} {H : Heap} {locs : List Loc} {ls : Array Slot} {cells slots : Nat} (hw : wX10_getter_0 z b Q x1 μ) (hI : jIz D z A s.heap μ H locs) (hl : lv_has ls 4 [(0, va_rf (some b)), (1, .int x1)]) (hcn : cells + 0 ≤ 0) (hsn : slots + 0 ≤ 0) : W p l e rmX10_getter s m args below meth c H locs cells slots (MQ below (jRz jfI Q D z A) args s 0 0 A) (F0 m 0 ls []) := by
  unfold wX10_getter_0 at hw
  obtain ⟨hx, hb, hml, hown, hts, hr, hlocks, hnm, hK, hG, hfl⟩ := id hX
  have hown : s.vm.findClass RX10 = some m.cls := hown
  refine lv_iconst (v := (-1)) hx hb dX10_getter_0 (by decide) ?_
  refine lv_topi (fun v1 ev1 => ?_)
  have hw := hw v1 ev1
  refine lv_istore_n (lv' := [(2, .int v1), (0, va_rf (some b)), (1, .int x1)]) hx hb dX10_getter_1 rfl hl (by decide) rfl (fun ls hl => ?_)
  refine lv_iconst (v := (0)) hx hb dX10_getter_2 (by decide) ?_
  refine lv_topi (fun v2 ev2 => ?_)
  have hw := hw v2 ev2
  refine lv_istore_n (lv' := [(3, .int v2), (2, .int v1), (0, va_rf (some b)), (1, .int x1)]) hx hb dX10_getter_3 rfl hl (by decide) rfl (fun ls hl => ?_)
  obtain ⟨n3, hw⟩ := hw
  exact kX10_getter_4 hX  n3 hw hI (lv_sub hl [2, 3, 1, 0] rfl) (by omega) (by omega)
set_option maxHeartbeats 4000000 in
set_option maxRecDepth 100000 in
theorem kX10_getter (l : Launch) (hfl : l.stackTraces = false) (D : jD) (z : Nat × Nat) (b : Nat) (x1 : Int32) (μ : jM) (sz : Nat) (Q : Int32 → jM → Prop) : Met l yX10_getter wsX10_getter rmX10_getter (jPre2z D z μ sz [.ref b, .int x1] (wX10_getter z b x1 μ Q)) (jRz jfI Q D z (jA z μ sz)) 0 0 (jA z μ sz) := by
  refine Met.ofW (cc := cX10_getter) (maxL := 4) (ret := (some .int)) (by decide) rfl ?_
  intro p e s m args below meth c s₁ B hml hv
  obtain ⟨rfl, hsz, hH, hz0, hK, hG, hw⟩ := hv
  subst hsz
  have hX : jX2 D z (jA z μ s.heap.size) p l s m _ meth c yX10_getter cX10_getter 4 wsX10_getter (some .int) := ⟨B.exec, B.bytes, hml, findClass_of_methodNamed B.named, atoms_spec (ws := wsX10_getter) B.pre, B.returns, B.notSynchronized, (name_of_methodNamed B.named B.method).1, hK, hG, hfl⟩
  obtain ⟨ls, hg, hl⟩ : ∃ ls : Array Slot, entryFrame m ([.ref b, .int x1] : List Value).toArray 4 = F0 m 0 ls [] ∧ lv_has ls 4 [(0, va_rf (some b)), (1, .int x1)] := by
    exact ⟨_, lg_entry_eq .., lv_entry _ (n := 4) (Nat.le_of_ble_eq_true rfl)⟩
  rw [hg]
  exact kX10_getter_0 hX hw (jIz.start hH hz0) (lv_sub hl [0, 1] rfl) (by decide) (by decide)
set_option maxHeartbeats 4000000 in
set_option maxRecDepth 100000 in
theorem kX10_givesFirst_0 {b : Nat} (hX : jX2 D z A p l s m args meth c yX10_givesFirst cX10_givesFirst 6 wsX10_givesFirst (some .boolean)) {Q : Int32 → jM → Prop}  {x1 : Int32} {x2 : Int32} {μ : jM} {H : Heap} {locs : List Loc} {ls : Array Slot} {cells slots : Nat} (hw : wX10_givesFirst_0 z b Q x1 x2 μ) (hI : jIz D z A s.heap μ H locs) (hl : lv_has ls 6 [(0, va_rf (some b)), (1, .int x1), (2, .int x2)]) (hcn : cells + 0 ≤ 0) (hsn : slots + 0 ≤ 0) : W p l e rmX10_givesFirst s m args below meth c H locs cells slots (MQ below (jRz jfI Q D z A) args s 0 0 A) (F0 m 0 ls []) := by
  unfold wX10_givesFirst_0 at hw
  obtain ⟨hx, hb, hml, hown, hts, hr, hlocks, hnm, hK, hG, hfl⟩ := id hX
  have hown : s.vm.findClass RX10 = some m.cls := hown
  have hfX10 : ∀ w ∈ wsX100, w.before args s = true := fun w h => hts w (List.mem_cons_of_mem _ (List.mem_append_right _ h))
  refine j_aload_n (r := (some b)) hx hb dX10_givesFirst_0 rfl (lv_at hl 0 rfl) ?_
  refine j_aload_n (r := (some b)) hx hb dX10_givesFirst_1 rfl (lv_at hl 0 rfl) ?_
  obtain ⟨v1, hv1, hw⟩ := hw
  refine j_getz (C := RX10) (T := TX10) (N := 25) (ci := 12) (r := (some b)) (v := va_rf v1) hx hb hfX10 hown hK hI rfl 7 (by decide) (hts (.fieldLink RX10 23 "CashPoolsModel" "bank" "[I") (List.mem_of_getElem? (i := 1) (by decide +kernel))) (fun _ h => h) hv1 dX10_givesFirst_2 ?_
  refine lv_iload_n hx hb dX10_givesFirst_5 rfl (lv_at hl 1 rfl) ?_
  obtain ⟨v2, hv2, hw⟩ := hw
  refine j_ialdz (r := v1) hx hb hK hI hv2 dX10_givesFirst_6 ?_
  obtain ⟨hfs, hw⟩ := hw
  refine j_goz hI (va_runV (As := [.int v2]) (rest := []) ⟨hx, hb, hml, hown, hts⟩ (kX10_excess l hfl D z b v2 μ H.size _) (cwV 1 hts gX10_givesFirst_X10_excess rfl rfl rfl (by decide +kernel) ⟨Nat.le_of_ble_eq_true rfl, Nat.le_of_ble_eq_true rfl⟩) (j_prV2z hK hG hI hw (ci := 12) rfl hfs) rfl rfl hl.1 rfl (lv_room (Nat.le_of_ble_eq_true rfl)) dX10_givesFirst_7 ⟨by show _ ≤ 0; omega, by show _ ≤ 0; omega⟩) (fun v3 μ4 H locs hw hI => ?_)
  refine W.eq (g2 := F0 m 10 ls [.long v3]) rfl ?_
  refine j_aload_n (r := (some b)) hx hb dX10_givesFirst_10 rfl (lv_at hl 0 rfl) ?_
  refine j_aload_n (r := (some b)) hx hb dX10_givesFirst_11 rfl (lv_at hl 0 rfl) ?_
  obtain ⟨v5, hv5, hw⟩ := hw
  refine j_getz (C := RX10) (T := TX10) (N := 25) (ci := 12) (r := (some b)) (v := va_rf v5) hx hb hfX10 hown hK hI rfl 7 (by decide) (hts (.fieldLink RX10 23 "CashPoolsModel" "bank" "[I") (List.mem_of_getElem? (i := 1) (by decide +kernel))) (fun _ h => h) hv5 dX10_givesFirst_12 ?_
  refine lv_iload_n hx hb dX10_givesFirst_15 rfl (lv_at hl 2 rfl) ?_
  obtain ⟨v6, hv6, hw⟩ := hw
  refine j_ialdz (r := v5) hx hb hK hI hv6 dX10_givesFirst_16 ?_
  obtain ⟨hfs, hw⟩ := hw
  refine j_goz hI (va_runV (As := [.int v6]) (rest := [.long v3]) ⟨hx, hb, hml, hown, hts⟩ (kX10_excess l hfl D z b v6 μ4 H.size _) (cwV 1 hts gX10_givesFirst_X10_excess rfl rfl rfl (by decide +kernel) ⟨Nat.le_of_ble_eq_true rfl, Nat.le_of_ble_eq_true rfl⟩) (j_prV2z hK hG hI hw (ci := 12) rfl hfs) rfl rfl hl.1 rfl (lv_room (Nat.le_of_ble_eq_true rfl)) dX10_givesFirst_17 ⟨by show _ ≤ 0; omega, by show _ ≤ 0; omega⟩) (fun v7 μ8 H locs hw hI => ?_)
  refine W.eq (g2 := F0 m 20 ls [.long v7, .long v3]) rfl ?_
  refine lv_lsub hx hb dX10_givesFirst_20 ?_
  refine lv_topl (fun v9 ev9 => ?_)
  have hw := hw v9 ev9
  refine lv_lstore_n (lv' := [(3, .long v9), (0, va_rf (some b)), (1, .int x1), (2, .int x2)]) hx hb dX10_givesFirst_21 rfl hl (by decide) rfl (fun ls hl => ?_)
  refine j_aload_n (r := (some b)) hx hb dX10_givesFirst_22 rfl (lv_at hl 1 rfl) ?_
  obtain ⟨v10, hv10, hw⟩ := hw
  refine j_getz (C := RX10) (T := TX10) (N := 25) (ci := 12) (r := (some b)) (v := va_rf v10) hx hb hfX10 hown hK hI rfl 7 (by decide) (hts (.fieldLink RX10 23 "CashPoolsModel" "bank" "[I") (List.mem_of_getElem? (i := 1) (by decide +kernel))) (fun _ h => h) hv10 dX10_givesFirst_23 ?_
  refine lv_iload_n hx hb dX10_givesFirst_26 rfl (lv_at hl 3 rfl) ?_
  obtain ⟨v11, hv11, hw⟩ := hw
  refine j_ialdz (r := v10) hx hb hK hI hv11 dX10_givesFirst_27 ?_
  refine j_aload_n (r := (some b)) hx hb dX10_givesFirst_28 rfl (lv_at hl 1 rfl) ?_
  obtain ⟨v12, hv12, hw⟩ := hw
  refine j_getz (C := RX10) (T := TX10) (N := 25) (ci := 12) (r := (some b)) (v := va_rf v12) hx hb hfX10 hown hK hI rfl 7 (by decide) (hts (.fieldLink RX10 23 "CashPoolsModel" "bank" "[I") (List.mem_of_getElem? (i := 1) (by decide +kernel))) (fun _ h => h) hv12 dX10_givesFirst_29 ?_
  refine lv_iload_n hx hb dX10_givesFirst_32 rfl (lv_at hl 2 rfl) ?_
  obtain ⟨v13, hv13, hw⟩ := hw
  refine j_ialdz (r := v12) hx hb hK hI hv13 dX10_givesFirst_33 ?_
  refine lv_isub hx hb dX10_givesFirst_34 ?_
  refine lv_topi (fun v14 ev14 => ?_)
  have hw := hw v14 ev14
  refine lv_istore (lv' := [(5, .int v14), (3, .long v9), (0, va_rf (some b)), (1, .int x1), (2, .int x2)]) hx hb dX10_givesFirst_35 hl (by decide) rfl (fun ls hl => ?_)
  refine lv_lload_n hx hb dX10_givesFirst_37 rfl (lv_at hl 1 rfl) ?_
  refine lv_lconst (v := (0)) hx hb dX10_givesFirst_38 (by decide) ?_
  refine j_lcmp_gt (tgt := 79) hx hb dX10_givesFirst_39 dX10_givesFirst_40 (by decide) (fun hc => ?_) (fun hc => ?_)
  · have hw := hw.1 hc
    refine lv_iconst (v := (1)) hx hb dX10_givesFirst_79 (by decide) ?_
    refine lv_goto (tgt := 84) hx hb dX10_givesFirst_80 (by decide) ?_
    exact j_zretz hx hb hr rfl hlocks hI hw (by omega) (by omega) dX10_givesFirst_84
  · have hw := hw.2 hc
    refine lv_lload_n hx hb dX10_givesFirst_43 rfl (lv_at hl 1 rfl) ?_
    refine lv_lconst (v := (0)) hx hb dX10_givesFirst_44 (by decide) ?_
    refine j_lcmp_ne (tgt := 83) hx hb dX10_givesFirst_45 dX10_givesFirst_46 (by decide) (fun hc => ?_) (fun hc => ?_)
    · have hw := hw.1 hc
      refine lv_iconst (v := (0)) hx hb dX10_givesFirst_83 (by decide) ?_
      exact j_zretz hx hb hr rfl hlocks hI hw (by omega) (by omega) dX10_givesFirst_84
    · have hw := hw.2 hc
      refine lv_iload hx hb dX10_givesFirst_49 (lv_at hl 0 rfl) ?_
      refine lv_if_gt (tgt := 79) hx hb dX10_givesFirst_51 (by decide) (fun hc => ?_) (fun hc => ?_)
      · have hw := hw.1 hc
        refine lv_iconst (v := (1)) hx hb dX10_givesFirst_79 (by decide) ?_
        refine lv_goto (tgt := 84) hx hb dX10_givesFirst_80 (by decide) ?_
        exact j_zretz hx hb hr rfl hlocks hI hw (by omega) (by omega) dX10_givesFirst_84
      · have hw := hw.2 hc
        refine lv_iload hx hb dX10_givesFirst_54 (lv_at hl 0 rfl) ?_
        refine lv_if_ne (tgt := 83) hx hb dX10_givesFirst_56 (by decide) (fun hc => ?_) (fun hc => ?_)
        · have hw := hw.1 hc
          refine lv_iconst (v := (0)) hx hb dX10_givesFirst_83 (by decide) ?_
          exact j_zretz hx hb hr rfl hlocks hI hw (by omega) (by omega) dX10_givesFirst_84
        · have hw := hw.2 hc
          refine j_aload_n (r := (some b)) hx hb dX10_givesFirst_59 rfl (lv_at hl 2 rfl) ?_
          obtain ⟨v15, hv15, hw⟩ := hw
          refine j_getz (C := RX10) (T := TX10) (N := 25) (ci := 12) (r := (some b)) (v := va_rf v15) hx hb hfX10 hown hK hI rfl 3 (by decide) (hts (.fieldLink RX10 7 "CashPoolsModel" "z" "[J") (List.mem_of_getElem? (i := 2) (by decide +kernel))) (fun _ h => h) hv15 dX10_givesFirst_60 ?_
          refine lv_iconst (v := (0)) hx hb dX10_givesFirst_63 (by decide) ?_
          refine lv_iload_n hx hb dX10_givesFirst_64 rfl (lv_at hl 3 rfl) ?_
          refine lv_iadd hx hb dX10_givesFirst_65 ?_
          obtain ⟨v16, hv16, hw⟩ := hw
          refine j_laldz (r := v15) hx hb hK hI hv16 dX10_givesFirst_66 ?_
          refine j_aload_n (r := (some b)) hx hb dX10_givesFirst_67 rfl (lv_at hl 2 rfl) ?_
          obtain ⟨v17, hv17, hw⟩ := hw
          refine j_getz (C := RX10) (T := TX10) (N := 25) (ci := 12) (r := (some b)) (v := va_rf v17) hx hb hfX10 hown hK hI rfl 3 (by decide) (hts (.fieldLink RX10 7 "CashPoolsModel" "z" "[J") (List.mem_of_getElem? (i := 2) (by decide +kernel))) (fun _ h => h) hv17 dX10_givesFirst_68 ?_
          refine lv_iconst (v := (0)) hx hb dX10_givesFirst_71 (by decide) ?_
          refine lv_iload_n hx hb dX10_givesFirst_72 rfl (lv_at hl 4 rfl) ?_
          refine lv_iadd hx hb dX10_givesFirst_73 ?_
          obtain ⟨v18, hv18, hw⟩ := hw
          refine j_laldz (r := v17) hx hb hK hI hv18 dX10_givesFirst_74 ?_
          refine j_lcmp_le (tgt := 83) hx hb dX10_givesFirst_75 dX10_givesFirst_76 (by decide) (fun hc => ?_) (fun hc => ?_)
          · have hw := hw.1 hc
            refine lv_iconst (v := (0)) hx hb dX10_givesFirst_83 (by decide) ?_
            exact j_zretz hx hb hr rfl hlocks hI hw (by omega) (by omega) dX10_givesFirst_84
          · have hw := hw.2 hc
            refine lv_iconst (v := (1)) hx hb dX10_givesFirst_79 (by decide) ?_
            refine lv_goto (tgt := 84) hx hb dX10_givesFirst_80 (by decide) ?_
            exact j_zretz hx hb hr rfl hlocks hI hw (by omega) (by omega) dX10_givesFirst_84
set_option maxHeartbeats 4000000 in
set_option maxRecDepth 100000 in
theorem kX10_givesFirst (l : Launch) (hfl : l.stackTraces = false) (D : jD) (z : Nat × Nat) (b : Nat) (x1 : Int32) (x2 : Int32) (μ : jM) (sz : Nat) (Q : Int32 → jM → Prop) : Met l yX10_givesFirst wsX10_givesFirst rmX10_givesFirst (jPre2z D z μ sz [.ref b, .int x1, .int x2] (wX10_givesFirst z b x1 x2 μ Q)) (jRz jfI Q D z (jA z μ sz)) 0 0 (jA z μ sz) := by
  refine Met.ofW (cc := cX10_givesFirst) (maxL := 6) (ret := (some .boolean)) (by decide) rfl ?_
  intro p e s m args below meth c s₁ B hml hv
  obtain ⟨rfl, hsz, hH, hz0, hK, hG, hw⟩ := hv
  subst hsz
  have hX : jX2 D z (jA z μ s.heap.size) p l s m _ meth c yX10_givesFirst cX10_givesFirst 6 wsX10_givesFirst (some .boolean) := ⟨B.exec, B.bytes, hml, findClass_of_methodNamed B.named, atoms_spec (ws := wsX10_givesFirst) B.pre, B.returns, B.notSynchronized, (name_of_methodNamed B.named B.method).1, hK, hG, hfl⟩
  obtain ⟨ls, hg, hl⟩ : ∃ ls : Array Slot, entryFrame m ([.ref b, .int x1, .int x2] : List Value).toArray 6 = F0 m 0 ls [] ∧ lv_has ls 6 [(0, va_rf (some b)), (1, .int x1), (2, .int x2)] := by
    exact ⟨_, lg_entry_eq .., lv_entry _ (n := 6) (Nat.le_of_ble_eq_true rfl)⟩
  rw [hg]
  exact kX10_givesFirst_0 hX hw (jIz.start hH hz0) (lv_sub hl [0, 1, 2] rfl) (by decide) (by decide)
set_option maxHeartbeats 4000000 in
set_option maxRecDepth 100000 in
theorem kX10_giver_4 {b : Nat} (hX : jX2 D z A p l s m args meth c yX10_giver cX10_giver 3 wsX10_giver (some .int)) {Q : Int32 → jM → Prop}  (n : Nat) : ∀ {x1 : Int32} {x2 : Int32} {μ : jM} {H : Heap} {locs : List Loc} {ls : Array Slot} {cells slots : Nat}, wX10_giver_4 z b Q n x1 x2 μ → jIz D z A s.heap μ H locs → lv_has ls 3 [(0, va_rf (some b)), (1, .int x1), (2, .int x2)] → cells + 0 ≤ 0 → slots + 0 ≤ 0 → W p l e rmX10_giver s m args below meth c H locs cells slots (MQ below (jRz jfI Q D z A) args s 0 0 A) (F0 m 4 ls []) := by
  induction n with
  | zero =>
    intros
    rename_i hw _ _ _ _
    exact (show False from hw).elim
  | succ n ih =>
    intro x1 x2 μ H locs ls cells slots hw hI hl hcn hsn
    have hw : wX10_giver_4_b z b Q (wX10_giver_4 z b Q n) x1 x2 μ := hw
    unfold wX10_giver_4_b at hw
    obtain ⟨hx, hb, hml, hown, hts, hr, hlocks, hnm, hK, hG, hfl⟩ := id hX
    have hown : s.vm.findClass RX10 = some m.cls := hown
    have hfX10 : ∀ w ∈ wsX100, w.before args s = true := fun w h => hts w (List.mem_cons_of_mem _ (List.mem_append_right _ h))
    refine lv_iload_n hx hb dX10_giver_4 rfl (lv_at hl 2 rfl) ?_
    refine j_aload_n (r := (some b)) hx hb dX10_giver_5 rfl (lv_at hl 0 rfl) ?_
    obtain ⟨v1, hv1, hw⟩ := hw
    refine j_getz (C := RX10) (T := TX10) (N := 25) (ci := 12) (r := (some b)) (v := .int v1) hx hb hfX10 hown hK hI rfl 0 (by decide) (hts (.fieldLink RX10 79 "CashPoolsModel" "accounts" "I") (List.mem_of_getElem? (i := 1) (by decide +kernel))) (fun _ h => h) hv1 dX10_giver_6 ?_
    refine lv_icmp_ge (tgt := 76) hx hb dX10_giver_9 (by decide) (fun hc => ?_) (fun hc => ?_)
    · have hw := hw.1 hc
      refine lv_iload_n hx hb dX10_giver_76 rfl (lv_at hl 1 rfl) ?_
      exact j_iretz hx hb hr hlocks hI hw (by omega) (by omega) dX10_giver_77
    · have hw := hw.2 hc
      refine j_aload_n (r := (some b)) hx hb dX10_giver_12 rfl (lv_at hl 0 rfl) ?_
      obtain ⟨v2, hv2, hw⟩ := hw
      refine j_getz (C := RX10) (T := TX10) (N := 25) (ci := 12) (r := (some b)) (v := va_rf v2) hx hb hfX10 hown hK hI rfl 3 (by decide) (hts (.fieldLink RX10 7 "CashPoolsModel" "z" "[J") (List.mem_of_getElem? (i := 2) (by decide +kernel))) (fun _ h => h) hv2 dX10_giver_13 ?_
      refine lv_iconst (v := (0)) hx hb dX10_giver_16 (by decide) ?_
      refine lv_iload_n hx hb dX10_giver_17 rfl (lv_at hl 2 rfl) ?_
      refine lv_iadd hx hb dX10_giver_18 ?_
      obtain ⟨v3, hv3, hw⟩ := hw
      refine j_laldz (r := v2) hx hb hK hI hv3 dX10_giver_19 ?_
      refine lv_lconst (v := (0)) hx hb dX10_giver_20 (by decide) ?_
      refine j_lcmp_le (tgt := 70) hx hb dX10_giver_21 dX10_giver_22 (by decide) (fun hc => ?_) (fun hc => ?_)
      · have hw := hw.1 hc
        obtain ⟨v4, ev4⟩ : ∃ y : Int32, y = x2 + (1 : Int32) := ⟨_, rfl⟩
        have hw := hw v4 ev4
        refine lv_iinc (v := v4) (lv' := [(2, .int v4), (0, va_rf (some b)), (1, .int x1)]) hx hb dX10_giver_70 hl (k := 2) rfl (by rw [ev4]; rfl) (by decide) rfl (fun ls hl => ?_)
        refine lv_goto (tgt := 4) hx hb dX10_giver_73 (by decide) ?_
        exact ih hw hI (lv_sub hl [1, 2, 0] rfl) (by omega) (by omega)
      · have hw := hw.2 hc
        refine j_aload_n (r := (some b)) hx hb dX10_giver_25 rfl (lv_at hl 0 rfl) ?_
        refine j_aload_n (r := (some b)) hx hb dX10_giver_26 rfl (lv_at hl 0 rfl) ?_
        obtain ⟨v5, hv5, hw⟩ := hw
        refine j_getz (C := RX10) (T := TX10) (N := 25) (ci := 12) (r := (some b)) (v := va_rf v5) hx hb hfX10 hown hK hI rfl 7 (by decide) (hts (.fieldLink RX10 23 "CashPoolsModel" "bank" "[I") (List.mem_of_getElem? (i := 3) (by decide +kernel))) (fun _ h => h) hv5 dX10_giver_27 ?_
        refine lv_iload_n hx hb dX10_giver_30 rfl (lv_at hl 2 rfl) ?_
        obtain ⟨v6, hv6, hw⟩ := hw
        refine j_ialdz (r := v5) hx hb hK hI hv6 dX10_giver_31 ?_
        obtain ⟨hfs, hw⟩ := hw
        refine j_goz hI (va_runV (As := [.int v6]) (rest := []) ⟨hx, hb, hml, hown, hts⟩ (kX10_excess l hfl D z b v6 μ H.size _) (cwV 1 hts gX10_giver_X10_excess rfl rfl rfl (by decide +kernel) ⟨Nat.le_of_ble_eq_true rfl, Nat.le_of_ble_eq_true rfl⟩) (j_prV2z hK hG hI hw (ci := 12) rfl hfs) rfl rfl hl.1 rfl (lv_room (Nat.le_of_ble_eq_true rfl)) dX10_giver_32 ⟨by show _ ≤ 0; omega, by show _ ≤ 0; omega⟩) (fun v7 μ8 H locs hw hI => ?_)
        refine W.eq (g2 := F0 m 35 ls [.long v7]) rfl ?_
        refine lv_lconst (v := (0)) hx hb dX10_giver_35 (by decide) ?_
        refine j_lcmp_le (tgt := 70) hx hb dX10_giver_36 dX10_giver_37 (by decide) (fun hc => ?_) (fun hc => ?_)
        · have hw := hw.1 hc
          obtain ⟨v9, ev9⟩ : ∃ y : Int32, y = x2 + (1 : Int32) := ⟨_, rfl⟩
          have hw := hw v9 ev9
          refine lv_iinc (v := v9) (lv' := [(2, .int v9), (0, va_rf (some b)), (1, .int x1)]) hx hb dX10_giver_70 hl (k := 2) rfl (by rw [ev9]; rfl) (by decide) rfl (fun ls hl => ?_)
          refine lv_goto (tgt := 4) hx hb dX10_giver_73 (by decide) ?_
          exact ih hw hI (lv_sub hl [1, 2, 0] rfl) (by omega) (by omega)
        · have hw := hw.2 hc
          refine j_aload_n (r := (some b)) hx hb dX10_giver_40 rfl (lv_at hl 0 rfl) ?_
          refine j_aload_n (r := (some b)) hx hb dX10_giver_41 rfl (lv_at hl 0 rfl) ?_
          obtain ⟨v10, hv10, hw⟩ := hw
          refine j_getz (C := RX10) (T := TX10) (N := 25) (ci := 12) (r := (some b)) (v := va_rf v10) hx hb hfX10 hown hK hI rfl 6 (by decide) (hts (.fieldLink RX10 20 "CashPoolsModel" "top" "[I") (List.mem_of_getElem? (i := 4) (by decide +kernel))) (fun _ h => h) hv10 dX10_giver_42 ?_
          refine lv_iload_n hx hb dX10_giver_45 rfl (lv_at hl 2 rfl) ?_
          obtain ⟨v11, hv11, hw⟩ := hw
          refine j_ialdz (r := v10) hx hb hK hI hv11 dX10_giver_46 ?_
          obtain ⟨hfs, hw⟩ := hw
          refine j_goz hI (va_runV (As := [.int v11]) (rest := []) ⟨hx, hb, hml, hown, hts⟩ (kX10_getter l hfl D z b v11 μ8 H.size _) (cwV 1 hts gX10_giver_X10_getter rfl rfl rfl (by decide +kernel) ⟨Nat.le_of_ble_eq_true rfl, Nat.le_of_ble_eq_true rfl⟩) (j_prV2z hK hG hI hw (ci := 12) rfl hfs) rfl rfl hl.1 rfl (lv_room (Nat.le_of_ble_eq_true rfl)) dX10_giver_47 ⟨by show _ ≤ 0; omega, by show _ ≤ 0; omega⟩) (fun v12 μ13 H locs hw hI => ?_)
          refine W.eq (g2 := F0 m 50 ls [.int v12]) rfl ?_
          refine lv_iconst (v := (-1)) hx hb dX10_giver_50 (by decide) ?_
          refine lv_icmp_eq (tgt := 70) hx hb dX10_giver_51 (by decide) (fun hc => ?_) (fun hc => ?_)
          · have hw := hw.1 hc
            obtain ⟨v14, ev14⟩ : ∃ y : Int32, y = x2 + (1 : Int32) := ⟨_, rfl⟩
            have hw := hw v14 ev14
            refine lv_iinc (v := v14) (lv' := [(2, .int v14), (0, va_rf (some b)), (1, .int x1)]) hx hb dX10_giver_70 hl (k := 2) rfl (by rw [ev14]; rfl) (by decide) rfl (fun ls hl => ?_)
            refine lv_goto (tgt := 4) hx hb dX10_giver_73 (by decide) ?_
            exact ih hw hI (lv_sub hl [1, 2, 0] rfl) (by omega) (by omega)
          · have hw := hw.2 hc
            refine lv_iload_n hx hb dX10_giver_54 rfl (lv_at hl 1 rfl) ?_
            refine lv_iconst (v := (-1)) hx hb dX10_giver_55 (by decide) ?_
            refine lv_icmp_eq (tgt := 68) hx hb dX10_giver_56 (by decide) (fun hc => ?_) (fun hc => ?_)
            · have hw := hw.1 hc
              refine lv_iload_n hx hb dX10_giver_68 rfl (lv_at hl 2 rfl) ?_
              refine lv_istore_n (lv' := [(1, .int x2), (0, va_rf (some b)), (2, .int x2)]) hx hb dX10_giver_69 rfl hl (by decide) rfl (fun ls hl => ?_)
              obtain ⟨v15, ev15⟩ : ∃ y : Int32, y = x2 + (1 : Int32) := ⟨_, rfl⟩
              have hw := hw v15 ev15
              refine lv_iinc (v := v15) (lv' := [(2, .int v15), (1, .int x2), (0, va_rf (some b))]) hx hb dX10_giver_70 hl (k := 2) rfl (by rw [ev15]; rfl) (by decide) rfl (fun ls hl => ?_)
              refine lv_goto (tgt := 4) hx hb dX10_giver_73 (by decide) ?_
              exact ih hw hI (lv_sub hl [2, 1, 0] rfl) (by omega) (by omega)
            · have hw := hw.2 hc
              refine j_aload_n (r := (some b)) hx hb dX10_giver_59 rfl (lv_at hl 0 rfl) ?_
              refine lv_iload_n hx hb dX10_giver_60 rfl (lv_at hl 2 rfl) ?_
              refine lv_iload_n hx hb dX10_giver_61 rfl (lv_at hl 1 rfl) ?_
              obtain ⟨hfs, hw⟩ := hw
              refine j_goz hI (va_runV (As := [.int x2, .int x1]) (rest := []) ⟨hx, hb, hml, hown, hts⟩ (kX10_givesFirst l hfl D z b x2 x1 μ13 H.size _) (cwV 2 hts gX10_giver_X10_givesFirst rfl rfl rfl (by decide +kernel) ⟨Nat.le_of_ble_eq_true rfl, Nat.le_of_ble_eq_true rfl⟩) (j_prV2z hK hG hI hw (ci := 12) rfl hfs) rfl rfl hl.1 rfl (lv_room (Nat.le_of_ble_eq_true rfl)) dX10_giver_62 ⟨by show _ ≤ 0; omega, by show _ ≤ 0; omega⟩) (fun v16 μ17 H locs hw hI => ?_)
              refine W.eq (g2 := F0 m 65 ls [.int v16]) rfl ?_
              refine lv_if_eq (tgt := 70) hx hb dX10_giver_65 (by decide) (fun hc => ?_) (fun hc => ?_)
              · have hw := hw.1 hc
                obtain ⟨v18, ev18⟩ : ∃ y : Int32, y = x2 + (1 : Int32) := ⟨_, rfl⟩
                have hw := hw v18 ev18
                refine lv_iinc (v := v18) (lv' := [(2, .int v18), (0, va_rf (some b)), (1, .int x1)]) hx hb dX10_giver_70 hl (k := 2) rfl (by rw [ev18]; rfl) (by decide) rfl (fun ls hl => ?_)
                refine lv_goto (tgt := 4) hx hb dX10_giver_73 (by decide) ?_
                exact ih hw hI (lv_sub hl [1, 2, 0] rfl) (by omega) (by omega)
              · have hw := hw.2 hc
                refine lv_iload_n hx hb dX10_giver_68 rfl (lv_at hl 2 rfl) ?_
                refine lv_istore_n (lv' := [(1, .int x2), (0, va_rf (some b)), (2, .int x2)]) hx hb dX10_giver_69 rfl hl (by decide) rfl (fun ls hl => ?_)
                obtain ⟨v19, ev19⟩ : ∃ y : Int32, y = x2 + (1 : Int32) := ⟨_, rfl⟩
                have hw := hw v19 ev19
                refine lv_iinc (v := v19) (lv' := [(2, .int v19), (1, .int x2), (0, va_rf (some b))]) hx hb dX10_giver_70 hl (k := 2) rfl (by rw [ev19]; rfl) (by decide) rfl (fun ls hl => ?_)
                refine lv_goto (tgt := 4) hx hb dX10_giver_73 (by decide) ?_
                exact ih hw hI (lv_sub hl [2, 1, 0] rfl) (by omega) (by omega)
set_option maxHeartbeats 4000000 in
set_option maxRecDepth 100000 in
theorem kX10_giver_0 {b : Nat} (hX : jX2 D z A p l s m args meth c yX10_giver cX10_giver 3 wsX10_giver (some .int)) {Q : Int32 → jM → Prop}   {μ : jM} {H : Heap} {locs : List Loc} {ls : Array Slot} {cells slots : Nat} (hw : wX10_giver_0 z b Q  μ) (hI : jIz D z A s.heap μ H locs) (hl : lv_has ls 3 [(0, va_rf (some b))]) (hcn : cells + 0 ≤ 0) (hsn : slots + 0 ≤ 0) : W p l e rmX10_giver s m args below meth c H locs cells slots (MQ below (jRz jfI Q D z A) args s 0 0 A) (F0 m 0 ls []) := by
  unfold wX10_giver_0 at hw
  obtain ⟨hx, hb, hml, hown, hts, hr, hlocks, hnm, hK, hG, hfl⟩ := id hX
  have hown : s.vm.findClass RX10 = some m.cls := hown
  refine lv_iconst (v := (-1)) hx hb dX10_giver_0 (by decide) ?_
  refine lv_topi (fun v1 ev1 => ?_)
  have hw := hw v1 ev1
  refine lv_istore_n (lv' := [(1, .int v1), (0, va_rf (some b))]) hx hb dX10_giver_1 rfl hl (by decide) rfl (fun ls hl => ?_)
  refine lv_iconst (v := (0)) hx hb dX10_giver_2 (by decide) ?_
  refine lv_topi (fun v2 ev2 => ?_)
  have hw := hw v2 ev2
  refine lv_istore_n (lv' := [(2, .int v2), (1, .int v1), (0, va_rf (some b))]) hx hb dX10_giver_3 rfl hl (by decide) rfl (fun ls hl => ?_)
  obtain ⟨n3, hw⟩ := hw
  exact kX10_giver_4 hX  n3 hw hI (lv_sub hl [2, 1, 0] rfl) (by omega) (by omega)
set_option maxHeartbeats 4000000 in
set_option maxRecDepth 100000 in
theorem kX10_giver (l : Launch) (hfl : l.stackTraces = false) (D : jD) (z : Nat × Nat) (b : Nat)  (μ : jM) (sz : Nat) (Q : Int32 → jM → Prop) : Met l yX10_giver wsX10_giver rmX10_giver (jPre2z D z μ sz [.ref b] (wX10_giver z b  μ Q)) (jRz jfI Q D z (jA z μ sz)) 0 0 (jA z μ sz) := by
  refine Met.ofW (cc := cX10_giver) (maxL := 3) (ret := (some .int)) (by decide) rfl ?_
  intro p e s m args below meth c s₁ B hml hv
  obtain ⟨rfl, hsz, hH, hz0, hK, hG, hw⟩ := hv
  subst hsz
  have hX : jX2 D z (jA z μ s.heap.size) p l s m _ meth c yX10_giver cX10_giver 3 wsX10_giver (some .int) := ⟨B.exec, B.bytes, hml, findClass_of_methodNamed B.named, atoms_spec (ws := wsX10_giver) B.pre, B.returns, B.notSynchronized, (name_of_methodNamed B.named B.method).1, hK, hG, hfl⟩
  obtain ⟨ls, hg, hl⟩ : ∃ ls : Array Slot, entryFrame m ([.ref b] : List Value).toArray 3 = F0 m 0 ls [] ∧ lv_has ls 3 [(0, va_rf (some b))] := by
    exact ⟨_, lg_entry_eq .., lv_entry _ (n := 3) (Nat.le_of_ble_eq_true rfl)⟩
  rw [hg]
  exact kX10_giver_0 hX hw (jIz.start hH hz0) (lv_sub hl [0] rfl) (by decide) (by decide)
end
