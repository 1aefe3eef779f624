section
variable {p : Program} {l : Launch} {e : Env} {s : State} {m : MethodId} {args : Array Value} {below : List Frame} {meth : Method} {c : Code} {D : jD} {z : Nat × Nat} {A : Nat → Prop}
set_option maxHeartbeats 4000000 in
set_option maxRecDepth 100000 in
theorem kL_step_12 (hX : jX2 D z A p l s m args meth c yL_step cL_step 14 wsL_step (some .boolean)) {Q : Int32 → jM → Prop}  {x0 : Option Nat} {x2 : Int32} {x3 : Int32} {x4 : Option Nat} {μ : jM} {H : Heap} {locs : List Loc} {ls : Array Slot} {cells slots : Nat} (hw : wL_step_12 z Q x0 x2 x3 x4 μ) (hI : jIz D z A s.heap μ H locs) (hl : lv_has ls 14 [(0, va_rf x0), (2, .int x2), (3, .int x3), (4, va_rf x4)]) (hcn : cells + 18 ≤ 18) (hsn : slots + 222 ≤ 222) : W p l e rmL_step s m args below meth c H locs cells slots (MQ below (jRz jfI Q D z A) args s 18 222 A) (F0 m 12 ls []) := by
  unfold wL_step_12 at hw
  obtain ⟨hx, hb, hml, hown, hts, hr, hlocks, hnm, hK, hG, hfl⟩ := id hX
  have hown : s.vm.findClass RL = some m.cls := hown
  refine j_aload (r := x4) hx hb dL_step_12 (lv_at hl 3 rfl) ?_
  refine lv_iconst (v := (0)) hx hb dL_step_14 (by decide) ?_
  obtain ⟨v1, hv1, hw⟩ := hw
  refine j_ialdz (r := x4) hx hb hK hI hv1 dL_step_15 ?_
  refine lv_bipush (v := (10)) hx hb dL_step_16 (by decide) ?_
  refine lv_icmp_eq (tgt := 38) hx hb dL_step_18 (by decide) (fun hc => ?_) (fun hc => ?_)
  · have hw := hw.1 hc
    refine lv_iconst (v := (1)) hx hb dL_step_38 (by decide) ?_
    refine lv_goto (tgt := 43) hx hb dL_step_39 (by decide) ?_
    exact j_zretz hx hb hr rfl hlocks hI hw (by omega) (by omega) dL_step_43
  · have hw := hw.2 hc
    refine j_aload_n (r := x0) hx hb dL_step_21 rfl (lv_at hl 0 rfl) ?_
    refine j_aload (r := x4) hx hb dL_step_22 (lv_at hl 3 rfl) ?_
    refine lv_iload_n hx hb dL_step_24 rfl (lv_at hl 1 rfl) ?_
    refine lv_iload_n hx hb dL_step_25 rfl (lv_at hl 2 rfl) ?_
    refine j_goz hI (va_runS (As := [va_rf x0, va_rf x4, .int x2, .int x3]) (rest := []) ⟨hx, hb, hml, hown, hts⟩ (kL_makes l hfl D z x0 x4 x2 x3 μ H.size _) (va_cwS 4 hts gL_step_L_makes rfl rfl rfl (by decide +kernel) ⟨Nat.le_of_ble_eq_true rfl, Nat.le_of_ble_eq_true rfl⟩) (j_prS2z hK hG hI hw) rfl rfl hl.1 rfl (lv_room (Nat.le_of_ble_eq_true rfl)) dL_step_26 ⟨by show _ ≤ 18; omega, by show _ ≤ 222; omega⟩) (fun v2 μ3 H locs hw hI => ?_)
    refine W.eq (g2 := F0 m 29 ls [.int v2]) rfl ?_
    refine j_aload (r := x4) hx hb dL_step_29 (lv_at hl 3 rfl) ?_
    refine lv_iconst (v := (0)) hx hb dL_step_31 (by decide) ?_
    obtain ⟨v4, hv4, hw⟩ := hw
    refine j_ialdz (r := x4) hx hb hK hI hv4 dL_step_32 ?_
    refine lv_iconst (v := (1)) hx hb dL_step_33 (by decide) ?_
    refine lv_isub hx hb dL_step_34 ?_
    refine lv_icmp_ne (tgt := 42) hx hb dL_step_35 (by decide) (fun hc => ?_) (fun hc => ?_)
    · have hw := hw.1 hc
      refine lv_iconst (v := (0)) hx hb dL_step_42 (by decide) ?_
      exact j_zretz hx hb hr rfl hlocks hI hw (by omega) (by omega) dL_step_43
    · have hw := hw.2 hc
      refine lv_iconst (v := (1)) hx hb dL_step_38 (by decide) ?_
      refine lv_goto (tgt := 43) hx hb dL_step_39 (by decide) ?_
      exact j_zretz hx hb hr rfl hlocks hI hw (by omega) (by omega) dL_step_43
set_option maxHeartbeats 4000000 in
set_option maxRecDepth 100000 in
theorem kL_step_104 (hX : jX2 D z A p l s m args meth c yL_step cL_step 14 wsL_step (some .boolean)) {Q : Int32 → jM → Prop}  {x0 : Option Nat} {x2 : Int32} {x3 : Int32} {x4 : Option Nat} {x6 : Int32} {μ : jM} {H : Heap} {locs : List Loc} {ls : Array Slot} {cells slots : Nat} (hw : wL_step_104 z Q x0 x2 x3 x4 x6 μ) (hI : jIz D z A s.heap μ H locs) (hl : lv_has ls 14 [(0, va_rf x0), (2, .int x2), (3, .int x3), (4, va_rf x4), (6, .int x6)]) (hcn : cells + 0 ≤ 18) (hsn : slots + 0 ≤ 222) : W p l e rmL_step s m args below meth c H locs cells slots (MQ below (jRz jfI Q D z A) args s 18 222 A) (F0 m 104 ls []) := by
  unfold wL_step_104 at hw
  obtain ⟨hx, hb, hml, hown, hts, hr, hlocks, hnm, hK, hG, hfl⟩ := id hX
  have hown : s.vm.findClass RL = some m.cls := hown
  refine j_aload_n (r := x0) hx hb dL_step_104 rfl (lv_at hl 0 rfl) ?_
  refine j_aload (r := x4) hx hb dL_step_105 (lv_at hl 3 rfl) ?_
  refine lv_iload hx hb dL_step_107 (lv_at hl 4 rfl) ?_
  refine lv_iload_n hx hb dL_step_109 rfl (lv_at hl 2 rfl) ?_
  refine lv_iload_n hx hb dL_step_110 rfl (lv_at hl 1 rfl) ?_
  refine lv_bipush (v := (10)) hx hb dL_step_111 (by decide) ?_
  refine lv_idiv hx hb dL_step_113 (by decide) ?_
  refine j_goz hI (va_runS (As := [va_rf x0, va_rf x4, .int x6, .int x3, .int (x2 / (10 : Int32))]) (rest := []) ⟨hx, hb, hml, hown, hts⟩ (kL_sets l hfl D z x0 x4 x6 x3 (x2 / (10 : Int32)) μ H.size _) (va_cwS 5 hts gL_step_L_sets rfl rfl rfl (by decide +kernel) ⟨Nat.le_of_ble_eq_true rfl, Nat.le_of_ble_eq_true rfl⟩) (j_prS2z hK hG hI hw) rfl rfl hl.1 rfl (lv_room (Nat.le_of_ble_eq_true rfl)) dL_step_114 ⟨by show _ ≤ 18; omega, by show _ ≤ 222; omega⟩) (fun v1 μ2 H locs hw hI => ?_)
  refine W.eq (g2 := F0 m 117 ls [.int v1]) rfl ?_
  obtain ⟨hz, hw⟩ := hw
  exact j_zretz hx hb hr hz hlocks hI hw (by omega) (by omega) dL_step_117
set_option maxHeartbeats 4000000 in
set_option maxRecDepth 100000 in
theorem kL_step_118 (hX : jX2 D z A p l s m args meth c yL_step cL_step 14 wsL_step (some .boolean)) {Q : Int32 → jM → Prop}  {x0 : Option Nat} {x2 : Int32} {x3 : Int32} {x4 : Option Nat} {x6 : Int32} {μ : jM} {H : Heap} {locs : List Loc} {ls : Array Slot} {cells slots : Nat} (hw : wL_step_118 z Q x0 x2 x3 x4 x6 μ) (hI : jIz D z A s.heap μ H locs) (hl : lv_has ls 14 [(0, va_rf x0), (2, .int x2), (3, .int x3), (4, va_rf x4), (6, .int x6)]) (hcn : cells + 3 ≤ 18) (hsn : slots + 73 ≤ 222) : W p l e rmL_step s m args below meth c H locs cells slots (MQ below (jRz jfI Q D z A) args s 18 222 A) (F0 m 118 ls []) := by
  unfold wL_step_118 at hw
  obtain ⟨hx, hb, hml, hown, hts, hr, hlocks, hnm, hK, hG, hfl⟩ := id hX
  have hown : s.vm.findClass RL = some m.cls := hown
  refine j_aload_n (r := x0) hx hb dL_step_118 rfl (lv_at hl 0 rfl) ?_
  refine j_aload (r := x4) hx hb dL_step_119 (lv_at hl 3 rfl) ?_
  refine lv_iload hx hb dL_step_121 (lv_at hl 4 rfl) ?_
  refine lv_iload_n hx hb dL_step_123 rfl (lv_at hl 1 rfl) ?_
  refine lv_iload_n hx hb dL_step_124 rfl (lv_at hl 2 rfl) ?_
  refine j_goz hI (va_runS (As := [va_rf x0, va_rf x4, .int x6, .int x2, .int x3]) (rest := []) ⟨hx, hb, hml, hown, hts⟩ (kL_borrows l hfl D z x0 x4 x6 x2 x3 μ H.size _) (va_cwS 5 hts gL_step_L_borrows rfl rfl rfl (by decide +kernel) ⟨Nat.le_of_ble_eq_true rfl, Nat.le_of_ble_eq_true rfl⟩) (j_prS2z hK hG hI hw) rfl rfl hl.1 rfl (lv_room (Nat.le_of_ble_eq_true rfl)) dL_step_125 ⟨by show _ ≤ 18; omega, by show _ ≤ 222; omega⟩) (fun v1 μ2 H locs hw hI => ?_)
  refine W.eq (g2 := F0 m 128 ls [.int v1]) rfl ?_
  obtain ⟨hz, hw⟩ := hw
  exact j_zretz hx hb hr hz hlocks hI hw (by omega) (by omega) dL_step_128
set_option maxHeartbeats 4000000 in
set_option maxRecDepth 100000 in
theorem kL_step_159 (hX : jX2 D z A p l s m args meth c yL_step cL_step 14 wsL_step (some .boolean)) {Q : Int32 → jM → Prop}  {x0 : Option Nat} {x5 : Option Nat} {x7 : Int32} {x8 : Int32} {t0 : Option Nat} {t1 : Int32} {t2 : Int32} {μ : jM} {H : Heap} {locs : List Loc} {ls : Array Slot} {cells slots : Nat} (hw : wL_step_159 z Q x0 x5 x7 x8 t0 t1 t2 μ) (hI : jIz D z A s.heap μ H locs) (hl : lv_has ls 14 [(0, va_rf x0), (5, va_rf x5), (7, .int x7), (8, .int x8)]) (hcn : cells + 0 ≤ 18) (hsn : slots + 0 ≤ 222) : W p l e rmL_step s m args below meth c H locs cells slots (MQ below (jRz jfI Q D z A) args s 18 222 A) (F0 m 159 ls [.int t2, .int t1, va_rf t0]) := by
  unfold wL_step_159 at hw
  obtain ⟨hx, hb, hml, hown, hts, hr, hlocks, hnm, hK, hG, hfl⟩ := id hX
  have hown : s.vm.findClass RL = some m.cls := hown
  obtain ⟨μ1, hμ1, hw⟩ := hw
  refine j_iastz (r := t0) hx hb hK hI hμ1 dL_step_159 (fun H locs hI => ?_)
  refine j_aload_n (r := x0) hx hb dL_step_160 rfl (lv_at hl 0 rfl) ?_
  refine lv_iload hx hb dL_step_161 (lv_at hl 2 rfl) ?_
  refine j_aload (r := x5) hx hb dL_step_163 (lv_at hl 1 rfl) ?_
  refine lv_iload hx hb dL_step_165 (lv_at hl 2 rfl) ?_
  obtain ⟨v2, hv2, hw⟩ := hw
  refine j_ialdz (r := x5) hx hb hK hI hv2 dL_step_167 ?_
  obtain ⟨b5, ⟨hrb5, hfs⟩, hw⟩ := hw
  refine j_goz hI (va_runV (As := [.int x7, .int v2]) (rest := []) ⟨hx, hb, hml, hown, hts⟩ (kX9_setBankLimit l hfl D z b5 x7 v2 μ1 H.size _) (cwV 2 hts gL_step_X9_setBankLimit rfl rfl rfl (by decide +kernel) ⟨Nat.le_of_ble_eq_true rfl, Nat.le_of_ble_eq_true rfl⟩) (j_prV2z hK hG hI hw (ci := 11) rfl hfs) rfl rfl hl.1 (by rw [hrb5]; rfl) (lv_room (Nat.le_of_ble_eq_true rfl)) dL_step_168 ⟨by show _ ≤ 18; omega, by show _ ≤ 222; omega⟩) (fun v3 μ4 H locs hw hI => ?_)
  refine W.eq (g2 := F0 m 171 ls [.int v3]) rfl ?_
  refine lv_iload hx hb dL_step_171 (lv_at hl 3 rfl) ?_
  refine lv_icmp_ne (tgt := 180) hx hb dL_step_173 (by decide) (fun hc => ?_) (fun hc => ?_)
  · have hw := hw.1 hc
    refine lv_iconst (v := (0)) hx hb dL_step_180 (by decide) ?_
    exact j_zretz hx hb hr rfl hlocks hI hw (by omega) (by omega) dL_step_181
  · have hw := hw.2 hc
    refine lv_iconst (v := (1)) hx hb dL_step_176 (by decide) ?_
    refine lv_goto (tgt := 181) hx hb dL_step_177 (by decide) ?_
    exact j_zretz hx hb hr rfl hlocks hI hw (by omega) (by omega) dL_step_181
set_option maxHeartbeats 4000000 in
set_option maxRecDepth 100000 in
theorem kL_step_129 (hX : jX2 D z A p l s m args meth c yL_step cL_step 14 wsL_step (some .boolean)) {Q : Int32 → jM → Prop}  {x0 : Option Nat} {x2 : Int32} {x3 : Int32} {x5 : Option Nat} {μ : jM} {H : Heap} {locs : List Loc} {ls : Array Slot} {cells slots : Nat} (hw : wL_step_129 z Q x0 x2 x3 x5 μ) (hI : jIz D z A s.heap μ H locs) (hl : lv_has ls 14 [(0, va_rf x0), (2, .int x2), (3, .int x3), (5, va_rf x5)]) (hcn : cells + 0 ≤ 18) (hsn : slots + 0 ≤ 222) : W p l e rmL_step s m args below meth c H locs cells slots (MQ below (jRz jfI Q D z A) args s 18 222 A) (F0 m 129 ls []) := by
  unfold wL_step_129 at hw
  obtain ⟨hx, hb, hml, hown, hts, hr, hlocks, hnm, hK, hG, hfl⟩ := id hX
  have hown : s.vm.findClass RL = some m.cls := hown
  refine lv_iload_n hx hb dL_step_129 rfl (lv_at hl 1 rfl) ?_
  refine lv_iconst (v := (4)) hx hb dL_step_130 (by decide) ?_
  refine lv_irem hx hb dL_step_131 (by decide) ?_
  refine lv_topi (fun v1 ev1 => ?_)
  have hw := hw v1 ev1
  refine lv_istore (lv' := [(7, .int v1), (0, va_rf x0), (2, .int x2), (3, .int x3), (5, va_rf x5)]) hx hb dL_step_132 hl (by decide) rfl (fun ls hl => ?_)
  refine j_aload (r := x5) hx hb dL_step_134 (lv_at hl 4 rfl) ?_
  refine lv_iload hx hb dL_step_136 (lv_at hl 0 rfl) ?_
  obtain ⟨v2, hv2, hw⟩ := hw
  refine j_ialdz (r := x5) hx hb hK hI hv2 dL_step_138 ?_
  refine lv_istore (lv' := [(8, .int v2), (7, .int v1), (0, va_rf x0), (2, .int x2), (3, .int x3), (5, va_rf x5)]) hx hb dL_step_139 hl (by decide) rfl (fun ls hl => ?_)
  refine j_aload (r := x5) hx hb dL_step_141 (lv_at hl 5 rfl) ?_
  refine lv_iload hx hb dL_step_143 (lv_at hl 1 rfl) ?_
  refine lv_iload_n hx hb dL_step_145 rfl (lv_at hl 4 rfl) ?_
  refine lv_iconst (v := (5)) hx hb dL_step_146 (by decide) ?_
  refine lv_irem hx hb dL_step_147 (by decide) ?_
  refine lv_if_ne (tgt := 155) hx hb dL_step_148 (by decide) (fun hc => ?_) (fun hc => ?_)
  · have hw := hw.1 hc
    refine lv_iload_n hx hb dL_step_155 rfl (lv_at hl 4 rfl) ?_
    refine lv_ldc (v := (2000000)) hx hb hown (hts (.constant RL 127 (2000000)) (List.mem_of_getElem? (i := 1) (by decide +kernel))) dL_step_156 ?_
    refine lv_irem hx hb dL_step_158 (by decide) ?_
    exact kL_step_159 hX  hw hI (lv_sub hl [2, 5, 1, 0] rfl) (by omega) (by omega)
  · have hw := hw.2 hc
    refine lv_iconst (v := (-1)) hx hb dL_step_151 (by decide) ?_
    refine lv_goto (tgt := 159) hx hb dL_step_152 (by decide) ?_
    exact kL_step_159 hX  hw hI (lv_sub hl [2, 5, 1, 0] rfl) (by omega) (by omega)
set_option maxHeartbeats 4000000 in
set_option maxRecDepth 100000 in
theorem kL_step_182 (hX : jX2 D z A p l s m args meth c yL_step cL_step 14 wsL_step (some .boolean)) {Q : Int32 → jM → Prop}  {x0 : Option Nat} {x3 : Int32} {μ : jM} {H : Heap} {locs : List Loc} {ls : Array Slot} {cells slots : Nat} (hw : wL_step_182 z Q x0 x3 μ) (hI : jIz D z A s.heap μ H locs) (hl : lv_has ls 14 [(0, va_rf x0), (3, .int x3)]) (hcn : cells + 0 ≤ 18) (hsn : slots + 0 ≤ 222) : W p l e rmL_step s m args below meth c H locs cells slots (MQ below (jRz jfI Q D z A) args s 18 222 A) (F0 m 182 ls []) := by
  unfold wL_step_182 at hw
  obtain ⟨hx, hb, hml, hown, hts, hr, hlocks, hnm, hK, hG, hfl⟩ := id hX
  have hown : s.vm.findClass RL = some m.cls := hown
  refine lv_iload_n hx hb dL_step_182 rfl (lv_at hl 1 rfl) ?_
  refine lv_sipush (v := (451)) hx hb dL_step_183 (by decide) ?_
  refine lv_irem hx hb dL_step_186 (by decide) ?_
  refine lv_topi (fun v1 ev1 => ?_)
  have hw := hw v1 ev1
  refine lv_istore (lv' := [(9, .int v1), (0, va_rf x0), (3, .int x3)]) hx hb dL_step_187 hl (by decide) rfl (fun ls hl => ?_)
  refine j_aload_n (r := x0) hx hb dL_step_189 rfl (lv_at hl 1 rfl) ?_
  refine lv_iload hx hb dL_step_190 (lv_at hl 0 rfl) ?_
  obtain ⟨b4, ⟨hrb4, hfs⟩, hw⟩ := hw
  refine j_goz hI (va_runV (As := [.int v1]) (rest := []) ⟨hx, hb, hml, hown, hts⟩ (kX9_addHoliday l hfl D z b4 v1 μ H.size _) (cwV 1 hts gL_step_X9_addHoliday rfl rfl rfl (by decide +kernel) ⟨Nat.le_of_ble_eq_true rfl, Nat.le_of_ble_eq_true rfl⟩) (j_prV2z hK hG hI hw (ci := 11) rfl hfs) rfl rfl hl.1 (by rw [hrb4]; rfl) (lv_room (Nat.le_of_ble_eq_true rfl)) dL_step_192 ⟨by show _ ≤ 18; omega, by show _ ≤ 222; omega⟩) (fun v2 μ3 H locs hw hI => ?_)
  refine W.eq (g2 := F0 m 195 ls [.int v2]) rfl ?_
  refine lv_istore (lv' := [(10, .int v2), (9, .int v1), (0, va_rf x0), (3, .int x3)]) hx hb dL_step_195 hl (by decide) rfl (fun ls hl => ?_)
  refine lv_iload hx hb dL_step_197 (lv_at hl 0 rfl) ?_
  refine lv_if_lt (tgt := 236) hx hb dL_step_199 (by decide) (fun hc => ?_) (fun hc => ?_)
  · have hw := hw.1 hc
    refine lv_iconst (v := (0)) hx hb dL_step_236 (by decide) ?_
    exact j_zretz hx hb hr rfl hlocks hI hw (by omega) (by omega) dL_step_237
  · have hw := hw.2 hc
    refine lv_iload hx hb dL_step_202 (lv_at hl 0 rfl) ?_
    refine lv_sipush (v := (323)) hx hb dL_step_204 (by decide) ?_
    refine lv_icmp_gt (tgt := 236) hx hb dL_step_207 (by decide) (fun hc => ?_) (fun hc => ?_)
    · have hw := hw.1 hc
      refine lv_iconst (v := (0)) hx hb dL_step_236 (by decide) ?_
      exact j_zretz hx hb hr rfl hlocks hI hw (by omega) (by omega) dL_step_237
    · have hw := hw.2 hc
      refine j_aload_n (r := x0) hx hb dL_step_210 rfl (lv_at hl 2 rfl) ?_
      refine lv_iload hx hb dL_step_211 (lv_at hl 1 rfl) ?_
      obtain ⟨b7, ⟨hrb7, hfs⟩, hw⟩ := hw
      refine j_goz hI (va_runV (As := [.int v1]) (rest := []) ⟨hx, hb, hml, hown, hts⟩ (kX9_settlementDay l hfl D z b7 v1 μ3 H.size _) (cwV 1 hts gL_step_X9_settlementDay rfl rfl rfl (by decide +kernel) ⟨Nat.le_of_ble_eq_true rfl, Nat.le_of_ble_eq_true rfl⟩) (j_prV2z hK hG hI hw (ci := 11) rfl hfs) rfl rfl hl.1 (by rw [hrb7]; rfl) (lv_room (Nat.le_of_ble_eq_true rfl)) dL_step_213 ⟨by show _ ≤ 18; omega, by show _ ≤ 222; omega⟩) (fun v5 μ6 H locs hw hI => ?_)
      refine W.eq (g2 := F0 m 216 ls [.int v5]) rfl ?_
      refine lv_iload hx hb dL_step_216 (lv_at hl 1 rfl) ?_
      refine lv_icmp_eq (tgt := 236) hx hb dL_step_218 (by decide) (fun hc => ?_) (fun hc => ?_)
      · have hw := hw.1 hc
        refine lv_iconst (v := (0)) hx hb dL_step_236 (by decide) ?_
        exact j_zretz hx hb hr rfl hlocks hI hw (by omega) (by omega) dL_step_237
      · have hw := hw.2 hc
        refine j_aload_n (r := x0) hx hb dL_step_221 rfl (lv_at hl 2 rfl) ?_
        refine lv_iload hx hb dL_step_222 (lv_at hl 1 rfl) ?_
        obtain ⟨b10, ⟨hrb10, hfs⟩, hw⟩ := hw
        refine j_goz hI (va_runV (As := [.int v1]) (rest := []) ⟨hx, hb, hml, hown, hts⟩ (kX9_addHoliday l hfl D z b10 v1 μ6 H.size _) (cwV 1 hts gL_step_X9_addHoliday rfl rfl rfl (by decide +kernel) ⟨Nat.le_of_ble_eq_true rfl, Nat.le_of_ble_eq_true rfl⟩) (j_prV2z hK hG hI hw (ci := 11) rfl hfs) rfl rfl hl.1 (by rw [hrb10]; rfl) (lv_room (Nat.le_of_ble_eq_true rfl)) dL_step_224 ⟨by show _ ≤ 18; omega, by show _ ≤ 222; omega⟩) (fun v8 μ9 H locs hw hI => ?_)
        refine W.eq (g2 := F0 m 227 ls [.int v8]) rfl ?_
        refine lv_iload hx hb dL_step_227 (lv_at hl 0 rfl) ?_
        refine lv_icmp_ne (tgt := 236) hx hb dL_step_229 (by decide) (fun hc => ?_) (fun hc => ?_)
        · have hw := hw.1 hc
          refine lv_iconst (v := (0)) hx hb dL_step_236 (by decide) ?_
          exact j_zretz hx hb hr rfl hlocks hI hw (by omega) (by omega) dL_step_237
        · have hw := hw.2 hc
          refine lv_iconst (v := (1)) hx hb dL_step_232 (by decide) ?_
          refine lv_goto (tgt := 237) hx hb dL_step_233 (by decide) ?_
          exact j_zretz hx hb hr rfl hlocks hI hw (by omega) (by omega) dL_step_237
set_option maxHeartbeats 4000000 in
set_option maxRecDepth 100000 in
theorem kL_step_259 (hX : jX2 D z A p l s m args meth c yL_step cL_step 14 wsL_step (some .boolean)) {Q : Int32 → jM → Prop}  {x0 : Option Nat} {x6 : Int32} {t0 : Int32} {μ : jM} {H : Heap} {locs : List Loc} {ls : Array Slot} {cells slots : Nat} (hw : wL_step_259 z Q x0 x6 t0 μ) (hI : jIz D z A s.heap μ H locs) (hl : lv_has ls 14 [(0, va_rf x0), (6, .int x6)]) (hcn : cells + 0 ≤ 18) (hsn : slots + 0 ≤ 222) : W p l e rmL_step s m args below meth c H locs cells slots (MQ below (jRz jfI Q D z A) args s 18 222 A) (F0 m 259 ls [.int t0]) := by
  unfold wL_step_259 at hw
  obtain ⟨hx, hb, hml, hown, hts, hr, hlocks, hnm, hK, hG, hfl⟩ := id hX
  have hown : s.vm.findClass RL = some m.cls := hown
  refine lv_istore (lv' := [(11, .int t0), (0, va_rf x0), (6, .int x6)]) hx hb dL_step_259 hl (by decide) rfl (fun ls hl => ?_)
  refine j_aload_n (r := x0) hx hb dL_step_261 rfl (lv_at hl 1 rfl) ?_
  refine lv_iload hx hb dL_step_262 (lv_at hl 2 rfl) ?_
  obtain ⟨b3, ⟨hrb3, hfs⟩, hw⟩ := hw
  refine j_goz hI (va_runV (As := [.int x6]) (rest := []) ⟨hx, hb, hml, hown, hts⟩ (kX9_balance l hfl D z b3 x6 μ H.size _) (cwV 1 hts gL_step_X9_balance rfl rfl rfl (by decide +kernel) ⟨Nat.le_of_ble_eq_true rfl, Nat.le_of_ble_eq_true rfl⟩) (j_prV2z hK hG hI hw (ci := 11) rfl hfs) rfl rfl hl.1 (by rw [hrb3]; rfl) (lv_room (Nat.le_of_ble_eq_true rfl)) dL_step_264 ⟨by show _ ≤ 18; omega, by show _ ≤ 222; omega⟩) (fun v1 μ2 H locs hw hI => ?_)
  refine W.eq (g2 := F0 m 267 ls [.long v1]) rfl ?_
  refine lv_iload hx hb dL_step_267 (lv_at hl 0 rfl) ?_
  refine lv_i2l hx hb dL_step_269 rfl ?_
  refine lv_ladd hx hb dL_step_270 ?_
  refine lv_topl (fun v4 ev4 => ?_)
  have hw := hw v4 ev4
  refine lv_lstore (lv' := [(12, .long v4), (11, .int t0), (0, va_rf x0), (6, .int x6)]) hx hb dL_step_271 hl (by decide) rfl (fun ls hl => ?_)
  refine j_aload_n (r := x0) hx hb dL_step_273 rfl (lv_at hl 2 rfl) ?_
  refine lv_iload hx hb dL_step_274 (lv_at hl 3 rfl) ?_
  refine lv_iload hx hb dL_step_276 (lv_at hl 1 rfl) ?_
  obtain ⟨b7, ⟨hrb7, hfs⟩, hw⟩ := hw
  refine j_goz hI (va_runV (As := [.int x6, .int t0]) (rest := []) ⟨hx, hb, hml, hown, hts⟩ (kX9_book l hfl D z b7 x6 t0 μ2 H.size _) (cwV 2 hts gL_step_X9_book rfl rfl rfl (by decide +kernel) ⟨Nat.le_of_ble_eq_true rfl, Nat.le_of_ble_eq_true rfl⟩) (j_prV2z hK hG hI hw (ci := 11) rfl hfs) rfl rfl hl.1 (by rw [hrb7]; rfl) (lv_room (Nat.le_of_ble_eq_true rfl)) dL_step_278 ⟨by show _ ≤ 18; omega, by show _ ≤ 222; omega⟩) (fun v5 μ6 H locs hw hI => ?_)
  refine W.eq (g2 := F0 m 281 ls [.long v5]) rfl ?_
  refine lv_lload hx hb dL_step_281 (lv_at hl 0 rfl) ?_
  refine j_lcmp_ne (tgt := 303) hx hb dL_step_283 dL_step_284 (by decide) (fun hc => ?_) (fun hc => ?_)
  · have hw := hw.1 hc
    refine lv_iconst (v := (0)) hx hb dL_step_303 (by decide) ?_
    exact j_zretz hx hb hr rfl hlocks hI hw (by omega) (by omega) dL_step_304
  · have hw := hw.2 hc
    refine j_aload_n (r := x0) hx hb dL_step_287 rfl (lv_at hl 2 rfl) ?_
    refine lv_iload hx hb dL_step_288 (lv_at hl 3 rfl) ?_
    obtain ⟨b10, ⟨hrb10, hfs⟩, hw⟩ := hw
    refine j_goz hI (va_runV (As := [.int x6]) (rest := []) ⟨hx, hb, hml, hown, hts⟩ (kX9_balance l hfl D z b10 x6 μ6 H.size _) (cwV 1 hts gL_step_X9_balance rfl rfl rfl (by decide +kernel) ⟨Nat.le_of_ble_eq_true rfl, Nat.le_of_ble_eq_true rfl⟩) (j_prV2z hK hG hI hw (ci := 11) rfl hfs) rfl rfl hl.1 (by rw [hrb10]; rfl) (lv_room (Nat.le_of_ble_eq_true rfl)) dL_step_290 ⟨by show _ ≤ 18; omega, by show _ ≤ 222; omega⟩) (fun v8 μ9 H locs hw hI => ?_)
    refine W.eq (g2 := F0 m 293 ls [.long v8]) rfl ?_
    refine lv_lload hx hb dL_step_293 (lv_at hl 0 rfl) ?_
    refine j_lcmp_ne (tgt := 303) hx hb dL_step_295 dL_step_296 (by decide) (fun hc => ?_) (fun hc => ?_)
    · have hw := hw.1 hc
      refine lv_iconst (v := (0)) hx hb dL_step_303 (by decide) ?_
      exact j_zretz hx hb hr rfl hlocks hI hw (by omega) (by omega) dL_step_304
    · have hw := hw.2 hc
      refine lv_iconst (v := (1)) hx hb dL_step_299 (by decide) ?_
      refine lv_goto (tgt := 304) hx hb dL_step_300 (by decide) ?_
      exact j_zretz hx hb hr rfl hlocks hI hw (by omega) (by omega) dL_step_304
set_option maxHeartbeats 4000000 in
set_option maxRecDepth 100000 in
theorem kL_step_238 (hX : jX2 D z A p l s m args meth c yL_step cL_step 14 wsL_step (some .boolean)) {Q : Int32 → jM → Prop}  {x0 : Option Nat} {x2 : Int32} {x3 : Int32} {x6 : Int32} {μ : jM} {H : Heap} {locs : List Loc} {ls : Array Slot} {cells slots : Nat} (hw : wL_step_238 z Q x0 x2 x3 x6 μ) (hI : jIz D z A s.heap μ H locs) (hl : lv_has ls 14 [(0, va_rf x0), (2, .int x2), (3, .int x3), (6, .int x6)]) (hcn : cells + 0 ≤ 18) (hsn : slots + 0 ≤ 222) : W p l e rmL_step s m args below meth c H locs cells slots (MQ below (jRz jfI Q D z A) args s 18 222 A) (F0 m 238 ls []) := by
  unfold wL_step_238 at hw
  obtain ⟨hx, hb, hml, hown, hts, hr, hlocks, hnm, hK, hG, hfl⟩ := id hX
  have hown : s.vm.findClass RL = some m.cls := hown
  refine lv_iload_n hx hb dL_step_238 rfl (lv_at hl 2 rfl) ?_
  refine lv_iconst (v := (2)) hx hb dL_step_239 (by decide) ?_
  refine lv_irem hx hb dL_step_240 (by decide) ?_
  refine lv_if_ne (tgt := 253) hx hb dL_step_241 (by decide) (fun hc => ?_) (fun hc => ?_)
  · have hw := hw.1 hc
    refine lv_iconst (v := (-1)) hx hb dL_step_253 (by decide) ?_
    refine lv_iload_n hx hb dL_step_254 rfl (lv_at hl 1 rfl) ?_
    refine lv_ldc (v := (800000)) hx hb hown (hts (.constant RL 134 (800000)) (List.mem_of_getElem? (i := 3) (by decide +kernel))) dL_step_255 ?_
    refine lv_irem hx hb dL_step_257 (by decide) ?_
    refine lv_isub hx hb dL_step_258 ?_
    exact kL_step_259 hX  hw hI (lv_sub hl [0, 3] rfl) (by omega) (by omega)
  · have hw := hw.2 hc
    refine lv_iconst (v := (1)) hx hb dL_step_244 (by decide) ?_
    refine lv_iload_n hx hb dL_step_245 rfl (lv_at hl 1 rfl) ?_
    refine lv_ldc (v := (1000000)) hx hb hown (hts (.constant RL 86 (1000000)) (List.mem_of_getElem? (i := 2) (by decide +kernel))) dL_step_246 ?_
    refine lv_irem hx hb dL_step_248 (by decide) ?_
    refine lv_iadd hx hb dL_step_249 ?_
    refine lv_goto (tgt := 259) hx hb dL_step_250 (by decide) ?_
    exact kL_step_259 hX  hw hI (lv_sub hl [0, 3] rfl) (by omega) (by omega)
set_option maxHeartbeats 4000000 in
set_option maxRecDepth 100000 in
theorem kL_step_305 (hX : jX2 D z A p l s m args meth c yL_step cL_step 14 wsL_step (some .boolean)) {Q : Int32 → jM → Prop}  {x0 : Option Nat} {x3 : Int32} {x4 : Option Nat} {x6 : Int32} {μ : jM} {H : Heap} {locs : List Loc} {ls : Array Slot} {cells slots : Nat} (hw : wL_step_305 z Q x0 x3 x4 x6 μ) (hI : jIz D z A s.heap μ H locs) (hl : lv_has ls 14 [(0, va_rf x0), (3, .int x3), (4, va_rf x4), (6, .int x6)]) (hcn : cells + 1 ≤ 18) (hsn : slots + 10 ≤ 222) : W p l e rmL_step s m args below meth c H locs cells slots (MQ below (jRz jfI Q D z A) args s 18 222 A) (F0 m 305 ls []) := by
  unfold wL_step_305 at hw
  obtain ⟨hx, hb, hml, hown, hts, hr, hlocks, hnm, hK, hG, hfl⟩ := id hX
  have hown : s.vm.findClass RL = some m.cls := hown
  refine j_aload_n (r := x0) hx hb dL_step_305 rfl (lv_at hl 0 rfl) ?_
  refine j_aload (r := x4) hx hb dL_step_306 (lv_at hl 2 rfl) ?_
  refine j_aload (r := x4) hx hb dL_step_308 (lv_at hl 2 rfl) ?_
  refine lv_iload hx hb dL_step_310 (lv_at hl 3 rfl) ?_
  refine j_goz hI (va_runS (As := [va_rf x4, .int x6]) (rest := [va_rf x4, va_rf x0]) ⟨hx, hb, hml, hown, hts⟩ (kL_top l hfl D z x4 x6 μ H.size _) (va_cwS 2 hts gL_step_L_top rfl rfl rfl (by decide +kernel) ⟨Nat.le_of_ble_eq_true rfl, Nat.le_of_ble_eq_true rfl⟩) (j_prS2z hK hG hI hw) rfl rfl hl.1 rfl (lv_room (by simp only [List.map, List.sum_cons, List.sum_nil, jrc, jci, jcl, jcr, jcn]; exact Nat.le_of_ble_eq_true rfl)) dL_step_312 ⟨by show _ ≤ 18; omega, by show _ ≤ 222; omega⟩) (fun v1 μ2 H locs hw hI => ?_)
  refine W.eq (g2 := F0 m 315 ls [.int v1, va_rf x4, va_rf x0]) rfl ?_
  refine lv_iconst (v := (1)) hx hb dL_step_315 (by decide) ?_
  refine lv_iload_n hx hb dL_step_316 rfl (lv_at hl 1 rfl) ?_
  refine lv_bipush (v := (60)) hx hb dL_step_317 (by decide) ?_
  refine lv_irem hx hb dL_step_319 (by decide) ?_
  refine lv_iadd hx hb dL_step_320 ?_
  refine j_goz hI (va_runS (As := [va_rf x0, va_rf x4, .int v1, .int ((1 : Int32) + (x3 - x3 / (60 : Int32) * (60 : Int32)))]) (rest := []) ⟨hx, hb, hml, hown, hts⟩ (kL_foretells l hfl D z x0 x4 v1 ((1 : Int32) + (x3 - x3 / (60 : Int32) * (60 : Int32))) μ2 H.size _) (va_cwS 4 hts gL_step_L_foretells rfl rfl rfl (by decide +kernel) ⟨Nat.le_of_ble_eq_true rfl, Nat.le_of_ble_eq_true rfl⟩) (j_prS2z hK hG hI hw) rfl rfl hl.1 rfl (lv_room (Nat.le_of_ble_eq_true rfl)) dL_step_321 ⟨by show _ ≤ 18; omega, by show _ ≤ 222; omega⟩) (fun v3 μ4 H locs hw hI => ?_)
  refine W.eq (g2 := F0 m 324 ls [.int v3]) rfl ?_
  obtain ⟨hz, hw⟩ := hw
  exact j_zretz hx hb hr hz hlocks hI hw (by omega) (by omega) dL_step_324
set_option maxHeartbeats 4000000 in
set_option maxRecDepth 100000 in
theorem kL_step_325 (hX : jX2 D z A p l s m args meth c yL_step cL_step 14 wsL_step (some .boolean)) {Q : Int32 → jM → Prop}  {x0 : Option Nat} {x4 : Option Nat} {x5 : Option Nat} {μ : jM} {H : Heap} {locs : List Loc} {ls : Array Slot} {cells slots : Nat} (hw : wL_step_325 z Q x0 x4 x5 μ) (hI : jIz D z A s.heap μ H locs) (hl : lv_has ls 14 [(0, va_rf x0), (4, va_rf x4), (5, va_rf x5)]) (hcn : cells + 4 ≤ 18) (hsn : slots + 40 ≤ 222) : W p l e rmL_step s m args below meth c H locs cells slots (MQ below (jRz jfI Q D z A) args s 18 222 A) (F0 m 325 ls []) := by
  unfold wL_step_325 at hw
  obtain ⟨hx, hb, hml, hown, hts, hr, hlocks, hnm, hK, hG, hfl⟩ := id hX
  have hown : s.vm.findClass RL = some m.cls := hown
  refine j_aload_n (r := x0) hx hb dL_step_325 rfl (lv_at hl 0 rfl) ?_
  refine j_aload (r := x4) hx hb dL_step_326 (lv_at hl 1 rfl) ?_
  refine j_aload (r := x5) hx hb dL_step_328 (lv_at hl 2 rfl) ?_
  refine j_goz hI (va_runS (As := [va_rf x0, va_rf x4, va_rf x5]) (rest := []) ⟨hx, hb, hml, hown, hts⟩ (kL_passes l hfl D z x0 x4 x5 μ H.size _) (va_cwS 3 hts gL_step_L_passes rfl rfl rfl (by decide +kernel) ⟨Nat.le_of_ble_eq_true rfl, Nat.le_of_ble_eq_true rfl⟩) (j_prS2z hK hG hI hw) rfl rfl hl.1 rfl (lv_room (Nat.le_of_ble_eq_true rfl)) dL_step_330 ⟨by show _ ≤ 18; omega, by show _ ≤ 222; omega⟩) (fun v1 μ2 H locs hw hI => ?_)
  refine W.eq (g2 := F0 m 333 ls [.int v1]) rfl ?_
  refine lv_if_eq (tgt := 351) hx hb dL_step_333 (by decide) (fun hc => ?_) (fun hc => ?_)
  · have hw := hw.1 hc
    refine lv_iconst (v := (0)) hx hb dL_step_351 (by decide) ?_
    exact j_zretz hx hb hr rfl hlocks hI hw (by omega) (by omega) dL_step_352
  · have hw := hw.2 hc
    refine j_aload_n (r := x0) hx hb dL_step_336 rfl (lv_at hl 0 rfl) ?_
    refine j_aload (r := x4) hx hb dL_step_337 (lv_at hl 1 rfl) ?_
    refine j_aload (r := x5) hx hb dL_step_339 (lv_at hl 2 rfl) ?_
    refine j_goz hI (va_runS (As := [va_rf x0, va_rf x4, va_rf x5]) (rest := []) ⟨hx, hb, hml, hown, hts⟩ (kL_passes l hfl D z x0 x4 x5 μ2 H.size _) (va_cwS 3 hts gL_step_L_passes rfl rfl rfl (by decide +kernel) ⟨Nat.le_of_ble_eq_true rfl, Nat.le_of_ble_eq_true rfl⟩) (j_prS2z hK hG hI hw) rfl rfl hl.1 rfl (lv_room (Nat.le_of_ble_eq_true rfl)) dL_step_341 ⟨by show _ ≤ 18; omega, by show _ ≤ 222; omega⟩) (fun v3 μ4 H locs hw hI => ?_)
    refine W.eq (g2 := F0 m 344 ls [.int v3]) rfl ?_
    refine lv_if_eq (tgt := 351) hx hb dL_step_344 (by decide) (fun hc => ?_) (fun hc => ?_)
    · have hw := hw.1 hc
      refine lv_iconst (v := (0)) hx hb dL_step_351 (by decide) ?_
      exact j_zretz hx hb hr rfl hlocks hI hw (by omega) (by omega) dL_step_352
    · have hw := hw.2 hc
      refine lv_iconst (v := (1)) hx hb dL_step_347 (by decide) ?_
      refine lv_goto (tgt := 352) hx hb dL_step_348 (by decide) ?_
      exact j_zretz hx hb hr rfl hlocks hI hw (by omega) (by omega) dL_step_352
set_option maxHeartbeats 4000000 in
set_option maxRecDepth 100000 in
theorem kL_step_0 (hX : jX2 D z A p l s m args meth c yL_step cL_step 14 wsL_step (some .boolean)) {Q : Int32 → jM → Prop}  {x0 : Option Nat} {x1 : Int32} {x2 : Int32} {x3 : Int32} {x4 : Option Nat} {x5 : Option Nat} {μ : jM} {H : Heap} {locs : List Loc} {ls : Array Slot} {cells slots : Nat} (hw : wL_step_0 z Q x0 x1 x2 x3 x4 x5 μ) (hI : jIz D z A s.heap μ H locs) (hl : lv_has ls 14 [(0, va_rf x0), (1, .int x1), (2, .int x2), (3, .int x3), (4, va_rf x4), (5, va_rf x5)]) (hcn : cells + 18 ≤ 18) (hsn : slots + 222 ≤ 222) : W p l e rmL_step s m args below meth c H locs cells slots (MQ below (jRz jfI Q D z A) args s 18 222 A) (F0 m 0 ls []) := by
  unfold wL_step_0 at hw
  obtain ⟨hx, hb, hml, hown, hts, hr, hlocks, hnm, hK, hG, hfl⟩ := id hX
  have hown : s.vm.findClass RL = some m.cls := hown
  refine j_aload (r := x4) hx hb dL_step_0 (lv_at hl 4 rfl) ?_
  refine lv_iconst (v := (0)) hx hb dL_step_2 (by decide) ?_
  obtain ⟨v1, hv1, hw⟩ := hw
  refine j_ialdz (r := x4) hx hb hK hI hv1 dL_step_3 ?_
  refine lv_if_eq (tgt := 12) hx hb dL_step_4 (by decide) (fun hc => ?_) (fun hc => ?_)
  · have hw := hw.1 hc
    exact kL_step_12 hX  hw hI (lv_sub hl [0, 2, 3, 4] rfl) (by omega) (by omega)
  · have hw := hw.2 hc
    refine lv_iload_n hx hb dL_step_7 rfl (lv_at hl 1 rfl) ?_
    refine lv_iconst (v := (2)) hx hb dL_step_8 (by decide) ?_
    refine lv_icmp_ge (tgt := 44) hx hb dL_step_9 (by decide) (fun hc => ?_) (fun hc => ?_)
    · have hw := hw.1 hc
      refine lv_iload_n hx hb dL_step_44 rfl (lv_at hl 2 rfl) ?_
      refine j_aload (r := x4) hx hb dL_step_45 (lv_at hl 4 rfl) ?_
      refine lv_iconst (v := (0)) hx hb dL_step_47 (by decide) ?_
      obtain ⟨v2, hv2, hw⟩ := hw
      refine j_ialdz (r := x4) hx hb hK hI hv2 dL_step_48 ?_
      obtain ⟨h3, hw⟩ := hw
      refine lv_irem hx hb dL_step_49 h3 ?_
      refine lv_topi (fun v4 ev4 => ?_)
      have hw := hw v4 ev4
      refine j_istoreA (r := x5) (F := fun w => [(0, va_rf x0), (1, .int x1), (2, .int x2), (3, .int x3), (4, va_rf x4), (5, w)]) (F2 := fun w => [(6, .int v4), (0, va_rf x0), (1, .int x1), (2, .int x2), (3, .int x3), (4, va_rf x4), (5, w)]) hx hb dL_step_50 hl (by decide) (fun w hw => by rcases hw with rfl | ⟨_, rfl⟩ <;> rfl) (fun ls hl => ?_)
      refine lv_iload_n hx hb dL_step_52 rfl (lv_at hl 2 rfl) ?_
      by_cases hc0 : x1 = (2 : Int32)
      · have hw := hw.1 hc0
        refine lv_tableIn (off := 51) (tgt := 104) hx hb dL_step_53 (by rw [hc0]; decide) (by rw [hc0]; decide) (by rw [hc0]; rfl) (by decide) ?_
        exact kL_step_104 hX  hw hI (lv_sub hl [1, 3, 4, 5, 0] rfl) (by omega) (by omega)
      have hw := hw.2 hc0
      by_cases hc1 : x1 = (3 : Int32)
      · have hw := hw.1 hc1
        refine lv_tableIn (off := 51) (tgt := 104) hx hb dL_step_53 (by rw [hc1]; decide) (by rw [hc1]; decide) (by rw [hc1]; rfl) (by decide) ?_
        exact kL_step_104 hX  hw hI (lv_sub hl [1, 3, 4, 5, 0] rfl) (by omega) (by omega)
      have hw := hw.2 hc1
      by_cases hc2 : x1 = (4 : Int32)
      · have hw := hw.1 hc2
        refine lv_tableIn (off := 65) (tgt := 118) hx hb dL_step_53 (by rw [hc2]; decide) (by rw [hc2]; decide) (by rw [hc2]; rfl) (by decide) ?_
        exact kL_step_118 hX  hw hI (lv_sub hl [1, 3, 4, 5, 0] rfl) (by omega) (by omega)
      have hw := hw.2 hc2
      by_cases hc3 : x1 = (5 : Int32)
      · have hw := hw.1 hc3
        refine lv_tableIn (off := 76) (tgt := 129) hx hb dL_step_53 (by rw [hc3]; decide) (by rw [hc3]; decide) (by rw [hc3]; rfl) (by decide) ?_
        exact kL_step_129 hX  hw hI (lv_sub hl [1, 3, 4, 6] rfl) (by omega) (by omega)
      have hw := hw.2 hc3
      by_cases hc4 : x1 = (6 : Int32)
      · have hw := hw.1 hc4
        refine lv_tableIn (off := 129) (tgt := 182) hx hb dL_step_53 (by rw [hc4]; decide) (by rw [hc4]; decide) (by rw [hc4]; rfl) (by decide) ?_
        exact kL_step_182 hX  hw hI (lv_sub hl [1, 4] rfl) (by omega) (by omega)
      have hw := hw.2 hc4
      by_cases hc5 : x1 = (7 : Int32)
      · have hw := hw.1 hc5
        refine lv_tableIn (off := 185) (tgt := 238) hx hb dL_step_53 (by rw [hc5]; decide) (by rw [hc5]; decide) (by rw [hc5]; rfl) (by decide) ?_
        exact kL_step_238 hX  hw hI (lv_sub hl [1, 3, 4, 0] rfl) (by omega) (by omega)
      have hw := hw.2 hc5
      by_cases hc6 : x1 = (8 : Int32)
      · have hw := hw.1 hc6
        refine lv_tableIn (off := 185) (tgt := 238) hx hb dL_step_53 (by rw [hc6]; decide) (by rw [hc6]; decide) (by rw [hc6]; rfl) (by decide) ?_
        exact kL_step_238 hX  hw hI (lv_sub hl [1, 3, 4, 0] rfl) (by omega) (by omega)
      have hw := hw.2 hc6
      by_cases hc7 : x1 = (9 : Int32)
      · have hw := hw.1 hc7
        refine lv_tableIn (off := 185) (tgt := 238) hx hb dL_step_53 (by rw [hc7]; decide) (by rw [hc7]; decide) (by rw [hc7]; rfl) (by decide) ?_
        exact kL_step_238 hX  hw hI (lv_sub hl [1, 3, 4, 0] rfl) (by omega) (by omega)
      have hw := hw.2 hc7
      by_cases hc8 : x1 = (10 : Int32)
      · have hw := hw.1 hc8
        refine lv_tableIn (off := 252) (tgt := 305) hx hb dL_step_53 (by rw [hc8]; decide) (by rw [hc8]; decide) (by rw [hc8]; rfl) (by decide) ?_
        exact kL_step_305 hX  hw hI (lv_sub hl [1, 4, 5, 0] rfl) (by omega) (by omega)
      have hw := hw.2 hc8
      refine lv_tableOut (tgt := 325) hx hb dL_step_53 (by have hq0 := lv_neT hc0 (show (2 : Int32).toInt = 2 by decide) ; have hq1 := lv_neT hc1 (show (3 : Int32).toInt = 3 by decide) ; have hq2 := lv_neT hc2 (show (4 : Int32).toInt = 4 by decide) ; have hq3 := lv_neT hc3 (show (5 : Int32).toInt = 5 by decide) ; have hq4 := lv_neT hc4 (show (6 : Int32).toInt = 6 by decide) ; have hq5 := lv_neT hc5 (show (7 : Int32).toInt = 7 by decide) ; have hq6 := lv_neT hc6 (show (8 : Int32).toInt = 8 by decide) ; have hq7 := lv_neT hc7 (show (9 : Int32).toInt = 9 by decide) ; have hq8 := lv_neT hc8 (show (10 : Int32).toInt = 10 by decide) ; omega) (by decide) ?_
      exact kL_step_325 hX  hw hI (lv_sub hl [1, 5, 6] rfl) (by omega) (by omega)
    · have hw := hw.2 hc
      exact kL_step_12 hX  hw hI (lv_sub hl [0, 2, 3, 4] rfl) (by omega) (by omega)
set_option maxHeartbeats 4000000 in
set_option maxRecDepth 100000 in
theorem kL_step (l : Launch) (hfl : l.stackTraces = false) (D : jD) (z : Nat × Nat) (x0 : Option Nat) (x1 : Int32) (x2 : Int32) (x3 : Int32) (x4 : Option Nat) (x5 : Option Nat) (μ : jM) (sz : Nat) (Q : Int32 → jM → Prop) : Met l yL_step wsL_step rmL_step (jPre2z D z μ sz [va_rf x0, .int x1, .int x2, .int x3, va_rf x4, va_rf x5] (wL_step z x0 x1 x2 x3 x4 x5 μ Q)) (jRz jfI Q D z (jA z μ sz)) 18 222 (jA z μ sz) := by
  refine Met.ofW (cc := cL_step) (maxL := 14) (ret := (some .boolean)) (by decide) rfl ?_
  intro p e s m args below meth c s₁ B hml hv
  obtain ⟨rfl, hsz, hH, hz0, hK, hG, hw⟩ := hv
  subst hsz
  have hX : jX2 D z (jA z μ s.heap.size) p l s m _ meth c yL_step cL_step 14 wsL_step (some .boolean) := ⟨B.exec, B.bytes, hml, findClass_of_methodNamed B.named, atoms_spec (ws := wsL_step) B.pre, B.returns, B.notSynchronized, (name_of_methodNamed B.named B.method).1, hK, hG, hfl⟩
  obtain ⟨ls, hg, hl⟩ : ∃ ls : Array Slot, entryFrame m ([va_rf x0, .int x1, .int x2, .int x3, va_rf x4, va_rf x5] : List Value).toArray 14 = F0 m 0 ls [] ∧ lv_has ls 14 [(0, va_rf x0), (1, .int x1), (2, .int x2), (3, .int x3), (4, va_rf x4), (5, va_rf x5)] := by
    cases x0 <;> cases x4 <;> cases x5 <;> exact ⟨_, lg_entry_eq .., lv_entry _ (n := 14) (Nat.le_of_ble_eq_true rfl)⟩
  rw [hg]
  exact kL_step_0 hX hw (jIz.start hH hz0) (lv_sub hl [0, 1, 2, 3, 4, 5] rfl) (by decide) (by decide)
set_option maxHeartbeats 4000000 in
set_option maxRecDepth 100000 in
theorem kX9_accounts_0 {b : Nat} (hX : jX2 D z A p l s m args meth c yX9_accounts cX9_accounts 1 wsX9_accounts (some .int)) {Q : Int32 → jM → Prop}   {μ : jM} {H : Heap} {locs : List Loc} {ls : Array Slot} {cells slots : Nat} (hw : wX9_accounts_0 z b Q  μ) (hI : jIz D z A s.heap μ H locs) (hl : lv_has ls 1 [(0, va_rf (some b))]) (hcn : cells + 0 ≤ 0) (hsn : slots + 0 ≤ 0) : W p l e rmX9_accounts s m args below meth c H locs cells slots (MQ below (jRz jfI Q D z A) args s 0 0 A) (F0 m 0 ls []) := by
  unfold wX9_accounts_0 at hw
  obtain ⟨hx, hb, hml, hown, hts, hr, hlocks, hnm, hK, hG, hfl⟩ := id hX
  have hown : s.vm.findClass RX9 = some m.cls := hown
  have hfX3 : ∀ w ∈ wsX30, w.before args s = true := fun w h => hts w (List.mem_cons_of_mem _ (List.mem_append_left _ (List.mem_append_right _ h)))
  have hfX9 : ∀ w ∈ wsX90, w.before args s = true := fun w h => hts w (List.mem_cons_of_mem _ (List.mem_append_left _ (List.mem_append_left _ (List.mem_append_right _ h))))
  refine j_aload_n (r := (some b)) hx hb dX9_accounts_0 rfl (lv_at hl 0 rfl) ?_
  obtain ⟨v1, hv1, hw⟩ := hw
  refine j_getz (C := RX9) (T := TX9) (N := 1) (ci := 11) (r := (some b)) (v := va_rf v1) hx hb hfX9 hown hK hI rfl 0 (by decide) (hts (.fieldLink RX9 10 "CashPools" "desk" "LCashPools$Desk;") (List.mem_of_getElem? (i := 1) (by decide +kernel))) (fun _ h => h) hv1 dX9_accounts_1 ?_
  obtain ⟨v2, hv2, hw⟩ := hw
  refine j_getz (C := RX3) (T := TX3) (N := 8) (ci := 6) (r := v1) (v := va_rf v2) hx hb hfX3 hown hK hI rfl 0 (by decide) (hts (.fieldLink RX9 148 "CashPools$Desk" "everyAccount" "Ljava/util/ArrayList;") (List.mem_of_getElem? (i := 2) (by decide +kernel))) (fun _ h => h) hv2 dX9_accounts_4 ?_
  obtain ⟨b5, ⟨hrb5, hfs⟩, hw⟩ := hw
  refine j_goz hI (va_runV (As := []) (rest := []) ⟨hx, hb, hml, hown, hts⟩ (kJx4a65c_size_8abf5 l hfl D z b5  μ H.size _) (cwV 0 hts gX9_accounts_Jx4a65c_size_8abf5 rfl rfl rfl (by decide +kernel) ⟨Nat.le_of_ble_eq_true rfl, Nat.le_of_ble_eq_true rfl⟩) (j_prV2z hK hG hI hw (ci := 2) rfl hfs) rfl rfl hl.1 (by rw [hrb5]; rfl) (lv_room (Nat.le_of_ble_eq_true rfl)) dX9_accounts_7 ⟨by show _ ≤ 0; omega, by show _ ≤ 0; omega⟩) (fun v3 μ4 H locs hw hI => ?_)
  refine W.eq (g2 := F0 m 10 ls [.int v3]) rfl ?_
  exact j_iretz hx hb hr hlocks hI hw (by omega) (by omega) dX9_accounts_10
set_option maxHeartbeats 4000000 in
set_option maxRecDepth 100000 in
theorem kX9_accounts (l : Launch) (hfl : l.stackTraces = false) (D : jD) (z : Nat × Nat) (b : Nat)  (μ : jM) (sz : Nat) (Q : Int32 → jM → Prop) : Met l yX9_accounts wsX9_accounts rmX9_accounts (jPre2z D z μ sz [.ref b] (wX9_accounts z b  μ Q)) (jRz jfI Q D z (jA z μ sz)) 0 0 (jA z μ sz) := by
  refine Met.ofW (cc := cX9_accounts) (maxL := 1) (ret := (some .int)) (by decide) rfl ?_
  intro p e s m args below meth c s₁ B hml hv
  obtain ⟨rfl, hsz, hH, hz0, hK, hG, hw⟩ := hv
  subst hsz
  have hX : jX2 D z (jA z μ s.heap.size) p l s m _ meth c yX9_accounts cX9_accounts 1 wsX9_accounts (some .int) := ⟨B.exec, B.bytes, hml, findClass_of_methodNamed B.named, atoms_spec (ws := wsX9_accounts) B.pre, B.returns, B.notSynchronized, (name_of_methodNamed B.named B.method).1, hK, hG, hfl⟩
  obtain ⟨ls, hg, hl⟩ : ∃ ls : Array Slot, entryFrame m ([.ref b] : List Value).toArray 1 = F0 m 0 ls [] ∧ lv_has ls 1 [(0, va_rf (some b))] := by
    exact ⟨_, lg_entry_eq .., lv_entry _ (n := 1) (Nat.le_of_ble_eq_true rfl)⟩
  rw [hg]
  exact kX9_accounts_0 hX hw (jIz.start hH hz0) (lv_sub hl [0] rfl) (by decide) (by decide)
set_option maxHeartbeats 4000000 in
set_option maxRecDepth 100000 in
theorem kX8_sumFrom_16 (hX : jX2 D z A p l s m args meth c yX8_sumFrom cX8_sumFrom 5 wsX8_sumFrom (some .long)) {Q : Int64 → jM → Prop} {nR : Nat} {RC : Option Nat → Int32 → jM → (Int64 → jM → Prop) → Prop} (hRC : ∀ (y0 : Option Nat) (y1 : Int32) (μ : jM) (sz : Nat) (Q : Int64 → jM → Prop), Met l yX8_sumFrom wsX8_sumFrom (rmX8_sumFrom nR) (jPre2z D z μ sz [va_rf y0, .int y1] (RC y0 y1 μ Q)) (jRz jfJ Q D z (jA z μ sz)) 0 0 (jA z μ sz)) (n : Nat) : ∀ {x0 : Option Nat} {x1 : Int32} {x2 : Int64} {x4 : Int32} {μ : jM} {H : Heap} {locs : List Loc} {ls : Array Slot} {cells slots : Nat}, wX8_sumFrom_16 z RC Q n x0 x1 x2 x4 μ → jIz D z A s.heap μ H locs → lv_has ls 5 [(0, va_rf x0), (1, .int x1), (2, .long x2), (4, .int x4)] → cells + 0 ≤ 0 → slots + 0 ≤ 0 → W p l e (rmX8_sumFrom (nR + 1)) s m args below meth c H locs cells slots (MQ below (jRz jfJ Q D z A) args s 0 0 A) (F0 m 16 ls []) := by
  induction n with
  | zero =>
    intros
    rename_i hw _ _ _ _
    exact (show False from hw).elim
  | succ n ih =>
    intro x0 x1 x2 x4 μ H locs ls cells slots hw hI hl hcn hsn
    have hw : wX8_sumFrom_16_b z RC Q (wX8_sumFrom_16 z RC Q n) x0 x1 x2 x4 μ := hw
    unfold wX8_sumFrom_16_b at hw
    obtain ⟨hx, hb, hml, hown, hts, hr, hlocks, hnm, hK, hG, hfl⟩ := id hX
    have hown : s.vm.findClass RX8 = some m.cls := hown
    have hfX0 : ∀ w ∈ wsX00, w.before args s = true := fun w h => hts w (List.mem_cons_of_mem _ (List.mem_append_left _ (List.mem_append_right _ h)))
    refine lv_iload hx hb dX8_sumFrom_16 (lv_at hl 3 rfl) ?_
    refine j_aload_n (r := x0) hx hb dX8_sumFrom_18 rfl (lv_at hl 0 rfl) ?_
    obtain ⟨v1, hv1, hw⟩ := hw
    refine j_getz (C := RX0) (T := TX0) (N := 12) (ci := 3) (r := x0) (v := va_rf v1) hx hb hfX0 hown hK hI rfl 4 (by decide) (hts (.fieldLink RX8 15 "CashPools$Account" "children" "Ljava/util/ArrayList;") (List.mem_of_getElem? (i := 2) (by decide +kernel))) (fun _ h => h) hv1 dX8_sumFrom_19 ?_
    obtain ⟨b4, ⟨hrb4, hfs⟩, hw⟩ := hw
    refine j_goz hI (va_runV (As := []) (rest := [.int x4]) ⟨hx, hb, hml, hown, hts⟩ (kJx4a65c_size_8abf5 l hfl D z b4  μ H.size _) (cwV 0 hts gX8_sumFrom_Jx4a65c_size_8abf5 rfl rfl rfl (by decide +kernel) ⟨by show 1 ≤ nR + 1 + 3; omega, by show 20 ≤ (nR + 1) * 24 + 64; omega⟩) (j_prV2z hK hG hI hw (ci := 2) rfl hfs) rfl rfl hl.1 (by rw [hrb4]; rfl) (lv_room (Nat.le_of_ble_eq_true rfl)) dX8_sumFrom_22 ⟨by show _ ≤ 0; omega, by show _ ≤ 0; omega⟩) (fun v2 μ3 H locs hw hI => ?_)
    refine W.eq (g2 := F0 m 25 ls [.int v2, .int x4]) rfl ?_
    refine lv_icmp_ge (tgt := 55) hx hb dX8_sumFrom_25 (by decide) (fun hc => ?_) (fun hc => ?_)
    · have hw := hw.1 hc
      refine lv_lload_n hx hb dX8_sumFrom_55 rfl (lv_at hl 2 rfl) ?_
      exact j_lretz hx hb hr hlocks hI hw (by omega) (by omega) dX8_sumFrom_56
    · have hw := hw.2 hc
      refine lv_lload_n hx hb dX8_sumFrom_28 rfl (lv_at hl 2 rfl) ?_
      refine j_aload_n (r := x0) hx hb dX8_sumFrom_29 rfl (lv_at hl 0 rfl) ?_
      obtain ⟨v5, hv5, hw⟩ := hw
      refine j_getz (C := RX0) (T := TX0) (N := 12) (ci := 3) (r := x0) (v := va_rf v5) hx hb hfX0 hown hK hI rfl 4 (by decide) (hts (.fieldLink RX8 15 "CashPools$Account" "children" "Ljava/util/ArrayList;") (List.mem_of_getElem? (i := 2) (by decide +kernel))) (fun _ h => h) hv5 dX8_sumFrom_30 ?_
      refine lv_iload hx hb dX8_sumFrom_33 (lv_at hl 3 rfl) ?_
      obtain ⟨b8, ⟨hrb8, hfs⟩, hw⟩ := hw
      refine j_goz hI (va_runV (As := [.int x4]) (rest := [.long x2]) ⟨hx, hb, hml, hown, hts⟩ (kJx4a65c_get_915e3 l hfl D z b8 x4 μ3 H.size _) (cwV 1 hts gX8_sumFrom_Jx4a65c_get_915e3 rfl rfl rfl (by decide +kernel) ⟨by show 3 ≤ nR + 1 + 3; omega, by show 64 ≤ (nR + 1) * 24 + 64; omega⟩) (j_prV2z hK hG hI hw (ci := 2) rfl hfs) rfl rfl hl.1 (by rw [hrb8]; rfl) (lv_room (Nat.le_of_ble_eq_true rfl)) dX8_sumFrom_35 ⟨by show _ ≤ 0; omega, by show _ ≤ 0; omega⟩) (fun v6 μ7 H locs hw hI => ?_)
      refine W.eq (g2 := F0 m 38 ls [va_rf v6, .long x2]) rfl ?_
      obtain ⟨h9, hw⟩ := hw
      refine j_castz (C := RX0) (T := TX0) (N := 12) (ci := 3) (r := v6) hx hb hown (hts (.classLink RX8 10 "CashPools$Account") (List.mem_of_getElem? (i := 3) (by decide +kernel))) hK hI rfl h9 dX8_sumFrom_38 ?_
      refine lv_iload_n hx hb dX8_sumFrom_41 rfl (lv_at hl 1 rfl) ?_
      refine lv_iconst (v := (1)) hx hb dX8_sumFrom_42 (by decide) ?_
      refine lv_iadd hx hb dX8_sumFrom_43 ?_
      refine j_goz hI (va_runS (As := [va_rf v6, .int (x1 + (1 : Int32))]) (rest := [.long x2]) ⟨hx, hb, hml, hown, hts⟩ (hRC v6 (x1 + (1 : Int32)) μ7 H.size _) (va_cwS 2 hts gX8_sumFrom_X8_sumFrom rfl rfl rfl (by decide +kernel) ⟨by show nR + 3 + 1 ≤ nR + 1 + 3; omega, by show 8 + (5 + 11) + (nR * 24 + 64) ≤ (nR + 1) * 24 + 64; omega⟩) (j_prS2z hK hG hI hw) rfl rfl hl.1 rfl (lv_room (Nat.le_of_ble_eq_true rfl)) dX8_sumFrom_44 ⟨by show _ ≤ 0; omega, by show _ ≤ 0; omega⟩) (fun v10 μ11 H locs hw hI => ?_)
      refine W.eq (g2 := F0 m 47 ls [.long v10, .long x2]) rfl ?_
      refine lv_ladd hx hb dX8_sumFrom_47 ?_
      refine lv_topl (fun v12 ev12 => ?_)
      have hw := hw v12 ev12
      refine lv_lstore_n (lv' := [(2, .long v12), (0, va_rf x0), (1, .int x1), (4, .int x4)]) hx hb dX8_sumFrom_48 rfl hl (by decide) rfl (fun ls hl => ?_)
      obtain ⟨v13, ev13⟩ : ∃ y : Int32, y = x4 + (1 : Int32) := ⟨_, rfl⟩
      have hw := hw v13 ev13
      refine lv_iinc (v := v13) (lv' := [(4, .int v13), (2, .long v12), (0, va_rf x0), (1, .int x1)]) hx hb dX8_sumFrom_49 hl (k := 3) rfl (by rw [ev13]; rfl) (by decide) rfl (fun ls hl => ?_)
      refine lv_goto (tgt := 16) hx hb dX8_sumFrom_52 (by decide) ?_
      exact ih hw hI (lv_sub hl [2, 3, 1, 0] rfl) (by omega) (by omega)
set_option maxHeartbeats 4000000 in
set_option maxRecDepth 100000 in
theorem kX8_sumFrom_0 (hX : jX2 D z A p l s m args meth c yX8_sumFrom cX8_sumFrom 5 wsX8_sumFrom (some .long)) {Q : Int64 → jM → Prop} {nR : Nat} {RC : Option Nat → Int32 → jM → (Int64 → jM → Prop) → Prop} (hRC : ∀ (y0 : Option Nat) (y1 : Int32) (μ : jM) (sz : Nat) (Q : Int64 → jM → Prop), Met l yX8_sumFrom wsX8_sumFrom (rmX8_sumFrom nR) (jPre2z D z μ sz [va_rf y0, .int y1] (RC y0 y1 μ Q)) (jRz jfJ Q D z (jA z μ sz)) 0 0 (jA z μ sz)) {x0 : Option Nat} {x1 : Int32} {μ : jM} {H : Heap} {locs : List Loc} {ls : Array Slot} {cells slots : Nat} (hw : wX8_sumFrom_0 z RC Q x0 x1 μ) (hI : jIz D z A s.heap μ H locs) (hl : lv_has ls 5 [(0, va_rf x0), (1, .int x1)]) (hcn : cells + 0 ≤ 0) (hsn : slots + 0 ≤ 0) : W p l e (rmX8_sumFrom (nR + 1)) s m args below meth c H locs cells slots (MQ below (jRz jfJ Q D z A) args s 0 0 A) (F0 m 0 ls []) := by
  unfold wX8_sumFrom_0 at hw
  obtain ⟨hx, hb, hml, hown, hts, hr, hlocks, hnm, hK, hG, hfl⟩ := id hX
  have hown : s.vm.findClass RX8 = some m.cls := hown
  have hfX0 : ∀ w ∈ wsX00, w.before args s = true := fun w h => hts w (List.mem_cons_of_mem _ (List.mem_append_left _ (List.mem_append_right _ h)))
  refine lv_iload_n hx hb dX8_sumFrom_0 rfl (lv_at hl 1 rfl) ?_
  refine lv_bipush (v := (10)) hx hb dX8_sumFrom_1 (by decide) ?_
  refine lv_icmp_le (tgt := 8) hx hb dX8_sumFrom_3 (by decide) (fun hc => ?_) (fun hc => ?_)
  · have hw := hw.1 hc
    refine j_aload_n (r := x0) hx hb dX8_sumFrom_8 rfl (lv_at hl 0 rfl) ?_
    obtain ⟨v1, hv1, hw⟩ := hw
    refine j_getz (C := RX0) (T := TX0) (N := 12) (ci := 3) (r := x0) (v := .long v1) hx hb hfX0 hown hK hI rfl 8 (by decide) (hts (.fieldLink RX8 9 "CashPools$Account" "cash" "J") (List.mem_of_getElem? (i := 1) (by decide +kernel))) (fun _ h => h) hv1 dX8_sumFrom_9 ?_
    refine lv_lstore_n (lv' := [(2, .long v1), (0, va_rf x0), (1, .int x1)]) hx hb dX8_sumFrom_12 rfl hl (by decide) rfl (fun ls hl => ?_)
    refine lv_iconst (v := (0)) hx hb dX8_sumFrom_13 (by decide) ?_
    refine lv_topi (fun v2 ev2 => ?_)
    have hw := hw v2 ev2
    refine lv_istore (lv' := [(4, .int v2), (2, .long v1), (0, va_rf x0), (1, .int x1)]) hx hb dX8_sumFrom_14 hl (by decide) rfl (fun ls hl => ?_)
    obtain ⟨n3, hw⟩ := hw
    exact kX8_sumFrom_16 hX hRC n3 hw hI (lv_sub hl [2, 3, 1, 0] rfl) (by omega) (by omega)
  · have hw := hw.2 hc
    refine lv_lconst (v := (0)) hx hb dX8_sumFrom_6 (by decide) ?_
    exact j_lretz hx hb hr hlocks hI hw (by omega) (by omega) dX8_sumFrom_7
set_option maxHeartbeats 4000000 in
set_option maxRecDepth 100000 in
theorem kX8_sumFrom_r (l : Launch) (hfl : l.stackTraces = false) (D : jD) (z : Nat × Nat) (n : Nat) : ∀ (x0 : Option Nat) (x1 : Int32) (μ : jM) (sz : Nat) (Q : Int64 → jM → Prop), Met l yX8_sumFrom wsX8_sumFrom (rmX8_sumFrom n) (jPre2z D z μ sz [va_rf x0, .int x1] (wX8_sumFrom z n x0 x1 μ Q)) (jRz jfJ Q D z (jA z μ sz)) 0 0 (jA z μ sz) := by
  induction n with
  | zero =>
    intro x0 x1 μ sz Q
    refine Met.ofW (cc := cX8_sumFrom) (maxL := 5) (ret := (some .long)) (by decide) rfl ?_
    intro p e s m args below meth c s₁ B hml hv
    obtain ⟨_, _, _, _, _, _, hw⟩ := hv
    exact (show False from hw).elim
  | succ n ih =>
    intro x0 x1 μ sz Q
    refine Met.ofW (cc := cX8_sumFrom) (maxL := 5) (ret := (some .long)) (by decide) rfl ?_
    intro p e s m args below meth c s₁ B hml hv
    obtain ⟨rfl, hsz, hH, hz0, hK, hG, hw⟩ := hv
    subst hsz
    have hX : jX2 D z (jA z μ s.heap.size) p l s m _ meth c yX8_sumFrom cX8_sumFrom 5 wsX8_sumFrom (some .long) := ⟨B.exec, B.bytes, hml, findClass_of_methodNamed B.named, atoms_spec (ws := wsX8_sumFrom) B.pre, B.returns, B.notSynchronized, (name_of_methodNamed B.named B.method).1, hK, hG, hfl⟩
    obtain ⟨ls, hg, hl⟩ : ∃ ls : Array Slot, entryFrame m ([va_rf x0, .int x1] : List Value).toArray 5 = F0 m 0 ls [] ∧ lv_has ls 5 [(0, va_rf x0), (1, .int x1)] := by
      cases x0 <;> exact ⟨_, lg_entry_eq .., lv_entry _ (n := 5) (Nat.le_of_ble_eq_true rfl)⟩
    rw [hg]
    exact kX8_sumFrom_0 hX ih hw (jIz.start hH hz0) (lv_sub hl [0, 1] rfl) (by decide) (by decide)
theorem kX8_sumFrom (l : Launch) (hfl : l.stackTraces = false) (D : jD) (z : Nat × Nat) (x0 : Option Nat) (x1 : Int32) (μ : jM) (sz : Nat) (Q : Int64 → jM → Prop) : Met l yX8_sumFrom wsX8_sumFrom (rmX8_sumFrom 12) (jPre2z D z μ sz [va_rf x0, .int x1] (wX8_sumFrom z 12 x0 x1 μ Q)) (jRz jfJ Q D z (jA z μ sz)) 0 0 (jA z μ sz) := kX8_sumFrom_r l hfl D z 12 x0 x1 μ sz Q
set_option maxHeartbeats 4000000 in
set_option maxRecDepth 100000 in
theorem kX9_total_0 {b : Nat} (hX : jX2 D z A p l s m args meth c yX9_total cX9_total 2 wsX9_total (some .long)) {Q : Int64 → jM → Prop}  {x1 : Int32} {μ : jM} {H : Heap} {locs : List Loc} {ls : Array Slot} {cells slots : Nat} (hw : wX9_total_0 z b Q jN x1 μ) (hI : jIz D z A s.heap μ H locs) (hl : lv_has ls 2 [(0, va_rf (some b)), (1, .int x1)]) (hcn : cells + 0 ≤ 0) (hsn : slots + 0 ≤ 0) : W p l e rmX9_total s m args below meth c H locs cells slots (MQ below (jRz jfJ Q D z A) args s 0 0 A) (F0 m 0 ls []) := by
  unfold wX9_total_0 at hw
  obtain ⟨hx, hb, hml, hown, hts, hr, hlocks, hnm, hK, hG, hfl⟩ := id hX
  have hown : s.vm.findClass RX9 = some m.cls := hown
  refine j_aload_n (r := (some b)) hx hb dX9_total_0 rfl (lv_at hl 0 rfl) ?_
  refine lv_iload_n hx hb dX9_total_1 rfl (lv_at hl 1 rfl) ?_
  obtain ⟨hfs, hw⟩ := hw
  refine j_goz hI (va_runV (As := [.int x1]) (rest := []) ⟨hx, hb, hml, hown, hts⟩ (kX9_accountAt l hfl D z b x1 μ H.size _) (cwV 1 hts gX9_total_X9_accountAt rfl rfl rfl (by decide +kernel) ⟨Nat.le_of_ble_eq_true rfl, Nat.le_of_ble_eq_true rfl⟩) (j_prV2z hK hG hI hw (ci := 11) rfl hfs) rfl rfl hl.1 rfl (lv_room (Nat.le_of_ble_eq_true rfl)) dX9_total_2 ⟨by show _ ≤ 0; omega, by show _ ≤ 0; omega⟩) (fun v1 μ2 H locs hw hI => ?_)
  refine W.eq (g2 := F0 m 5 ls [va_rf v1]) rfl ?_
  refine lv_iconst (v := (0)) hx hb dX9_total_5 (by decide) ?_
  refine j_goz hI (va_runSN (As := [va_rf v1, .int (0 : Int32)]) (rest := []) ⟨hx, hb, hml, hown, hts⟩ (kX8_sumFrom l hfl D z v1 (0 : Int32) μ2 H.size _) ⟨va_cnB 2 hts gX9_total_X8_sumFrom_n160 rfl rfl rfl hG.2.2.2.2.2.2.2.2.2.2.2.1 (hts (.initialized RX8) (List.mem_of_getElem? (i := 35) (by decide +kernel))) (by decide +kernel) ⟨Nat.le_of_ble_eq_true rfl, Nat.le_of_ble_eq_true rfl⟩, (hts (.static yX8_sumFrom) (List.mem_of_getElem? (i := 34) (by decide +kernel))), trivial⟩ (j_prS2z hK hG hI hw) rfl rfl hl.1 rfl (lv_room (Nat.le_of_ble_eq_true rfl)) dX9_total_6 ⟨by show _ ≤ 0; omega, by show _ ≤ 0; omega⟩) (fun v3 μ4 H locs hw hI => ?_)
  refine W.eq (g2 := F0 m 9 ls [.long v3]) rfl ?_
  exact j_lretz hx hb hr hlocks hI hw (by omega) (by omega) dX9_total_9
set_option maxHeartbeats 4000000 in
set_option maxRecDepth 100000 in
theorem kX9_total (l : Launch) (hfl : l.stackTraces = false) (D : jD) (z : Nat × Nat) (b : Nat) (x1 : Int32) (μ : jM) (sz : Nat) (Q : Int64 → jM → Prop) : Met l yX9_total wsX9_total rmX9_total (jPre2z D z μ sz [.ref b, .int x1] (wX9_total z b x1 μ Q jN)) (jRz jfJ Q D z (jA z μ sz)) 0 0 (jA z μ sz) := by
  refine Met.ofW (cc := cX9_total) (maxL := 2) (ret := (some .long)) (by decide) rfl ?_
  intro p e s m args below meth c s₁ B hml hv
  obtain ⟨rfl, hsz, hH, hz0, hK, hG, hw⟩ := hv
  subst hsz
  have hX : jX2 D z (jA z μ s.heap.size) p l s m _ meth c yX9_total cX9_total 2 wsX9_total (some .long) := ⟨B.exec, B.bytes, hml, findClass_of_methodNamed B.named, atoms_spec (ws := wsX9_total) B.pre, B.returns, B.notSynchronized, (name_of_methodNamed B.named B.method).1, hK, hG, hfl⟩
  obtain ⟨ls, hg, hl⟩ : ∃ ls : Array Slot, entryFrame m ([.ref b, .int x1] : List Value).toArray 2 = F0 m 0 ls [] ∧ lv_has ls 2 [(0, va_rf (some b)), (1, .int x1)] := by
    exact ⟨_, lg_entry_eq .., lv_entry _ (n := 2) (Nat.le_of_ble_eq_true rfl)⟩
  rw [hg]
  exact kX9_total_0 hX hw (jIz.start hH hz0) (lv_sub hl [0, 1] rfl) (by decide) (by decide)
set_option maxHeartbeats 4000000 in
set_option maxRecDepth 100000 in
theorem kX8_heldWithGifts_16 (hX : jX2 D z A p l s m args meth c yX8_heldWithGifts cX8_heldWithGifts 6 wsX8_heldWithGifts (some .long)) {Q : Int64 → jM → Prop} {nR : Nat} {RC : Option Nat → Int32 → jM → (Int64 → jM → Prop) → Prop} (hRC : ∀ (y0 : Option Nat) (y1 : Int32) (μ : jM) (sz : Nat) (Q : Int64 → jM → Prop), Met l yX8_heldWithGifts wsX8_heldWithGifts (rmX8_heldWithGifts nR) (jPre2z D z μ sz [va_rf y0, .int y1] (RC y0 y1 μ Q)) (jRz jfJ Q D z (jA z μ sz)) 0 0 (jA z μ sz)) (n : Nat) : ∀ {x0 : Option Nat} {x1 : Int32} {x2 : Int64} {x4 : Int32} {μ : jM} {H : Heap} {locs : List Loc} {ls : Array Slot} {cells slots : Nat}, wX8_heldWithGifts_16 z RC Q n x0 x1 x2 x4 μ → jIz D z A s.heap μ H locs → lv_has ls 6 [(0, va_rf x0), (1, .int x1), (2, .long x2), (4, .int x4)] → cells + 0 ≤ 0 → slots + 0 ≤ 0 → W p l e (rmX8_heldWithGifts (nR + 1)) s m args below meth c H locs cells slots (MQ below (jRz jfJ Q D z A) args s 0 0 A) (F0 m 16 ls []) := by
  induction n with
  | zero =>
    intros
    rename_i hw _ _ _ _
    exact (show False from hw).elim
  | succ n ih =>
    intro x0 x1 x2 x4 μ H locs ls cells slots hw hI hl hcn hsn
    have hw : wX8_heldWithGifts_16_b z RC Q (wX8_heldWithGifts_16 z RC Q n) x0 x1 x2 x4 μ := hw
    unfold wX8_heldWithGifts_16_b at hw
    obtain ⟨hx, hb, hml, hown, hts, hr, hlocks, hnm, hK, hG, hfl⟩ := id hX
    have hown : s.vm.findClass RX8 = some m.cls := hown
    have hfX0 : ∀ w ∈ wsX00, w.before args s = true := fun w h => hts w (List.mem_cons_of_mem _ (List.mem_append_left _ (List.mem_append_right _ h)))
    refine lv_iload hx hb dX8_heldWithGifts_16 (lv_at hl 3 rfl) ?_
    refine j_aload_n (r := x0) hx hb dX8_heldWithGifts_18 rfl (lv_at hl 0 rfl) ?_
    obtain ⟨v1, hv1, hw⟩ := hw
    refine j_getz (C := RX0) (T := TX0) (N := 12) (ci := 3) (r := x0) (v := va_rf v1) hx hb hfX0 hown hK hI rfl 4 (by decide) (hts (.fieldLink RX8 15 "CashPools$Account" "children" "Ljava/util/ArrayList;") (List.mem_of_getElem? (i := 2) (by decide +kernel))) (fun _ h => h) hv1 dX8_heldWithGifts_19 ?_
    obtain ⟨b4, ⟨hrb4, hfs⟩, hw⟩ := hw
    refine j_goz hI (va_runV (As := []) (rest := [.int x4]) ⟨hx, hb, hml, hown, hts⟩ (kJx4a65c_size_8abf5 l hfl D z b4  μ H.size _) (cwV 0 hts gX8_heldWithGifts_Jx4a65c_size_8abf5 rfl rfl rfl (by decide +kernel) ⟨by show 1 ≤ nR + 1 + 3; omega, by show 20 ≤ (nR + 1) * 25 + 132; omega⟩) (j_prV2z hK hG hI hw (ci := 2) rfl hfs) rfl rfl hl.1 (by rw [hrb4]; rfl) (lv_room (Nat.le_of_ble_eq_true rfl)) dX8_heldWithGifts_22 ⟨by show _ ≤ 0; omega, by show _ ≤ 0; omega⟩) (fun v2 μ3 H locs hw hI => ?_)
    refine W.eq (g2 := F0 m 25 ls [.int v2, .int x4]) rfl ?_
    refine lv_icmp_ge (tgt := 68) hx hb dX8_heldWithGifts_25 (by decide) (fun hc => ?_) (fun hc => ?_)
    · have hw := hw.1 hc
      refine lv_lload_n hx hb dX8_heldWithGifts_68 rfl (lv_at hl 2 rfl) ?_
      exact j_lretz hx hb hr hlocks hI hw (by omega) (by omega) dX8_heldWithGifts_69
    · have hw := hw.2 hc
      refine j_aload_n (r := x0) hx hb dX8_heldWithGifts_28 rfl (lv_at hl 0 rfl) ?_
      obtain ⟨v5, hv5, hw⟩ := hw
      refine j_getz (C := RX0) (T := TX0) (N := 12) (ci := 3) (r := x0) (v := va_rf v5) hx hb hfX0 hown hK hI rfl 4 (by decide) (hts (.fieldLink RX8 15 "CashPools$Account" "children" "Ljava/util/ArrayList;") (List.mem_of_getElem? (i := 2) (by decide +kernel))) (fun _ h => h) hv5 dX8_heldWithGifts_29 ?_
      refine lv_iload hx hb dX8_heldWithGifts_32 (lv_at hl 3 rfl) ?_
      obtain ⟨b8, ⟨hrb8, hfs⟩, hw⟩ := hw
      refine j_goz hI (va_runV (As := [.int x4]) (rest := []) ⟨hx, hb, hml, hown, hts⟩ (kJx4a65c_get_915e3 l hfl D z b8 x4 μ3 H.size _) (cwV 1 hts gX8_heldWithGifts_Jx4a65c_get_915e3 rfl rfl rfl (by decide +kernel) ⟨by show 3 ≤ nR + 1 + 3; omega, by show 64 ≤ (nR + 1) * 25 + 132; omega⟩) (j_prV2z hK hG hI hw (ci := 2) rfl hfs) rfl rfl hl.1 (by rw [hrb8]; rfl) (lv_room (Nat.le_of_ble_eq_true rfl)) dX8_heldWithGifts_34 ⟨by show _ ≤ 0; omega, by show _ ≤ 0; omega⟩) (fun v6 μ7 H locs hw hI => ?_)
      refine W.eq (g2 := F0 m 37 ls [va_rf v6]) rfl ?_
      obtain ⟨h9, hw⟩ := hw
      refine j_castz (C := RX0) (T := TX0) (N := 12) (ci := 3) (r := v6) hx hb hown (hts (.classLink RX8 10 "CashPools$Account") (List.mem_of_getElem? (i := 3) (by decide +kernel))) hK hI rfl h9 dX8_heldWithGifts_37 ?_
      refine j_astore (r := v6) (lv' := [(5, va_rf v6), (0, va_rf x0), (1, .int x1), (2, .long x2), (4, .int x4)]) hx hb dX8_heldWithGifts_40 hl (by decide) rfl (fun ls hl => ?_)
      refine lv_lload_n hx hb dX8_heldWithGifts_42 rfl (lv_at hl 3 rfl) ?_
      refine j_aload (r := v6) hx hb dX8_heldWithGifts_43 (lv_at hl 0 rfl) ?_
      refine j_aload (r := v6) hx hb dX8_heldWithGifts_45 (lv_at hl 0 rfl) ?_
      refine lv_iload_n hx hb dX8_heldWithGifts_47 rfl (lv_at hl 2 rfl) ?_
      refine lv_iconst (v := (1)) hx hb dX8_heldWithGifts_48 (by decide) ?_
      refine lv_iadd hx hb dX8_heldWithGifts_49 ?_
      refine j_goz hI (va_runS (As := [va_rf v6, .int (x1 + (1 : Int32))]) (rest := [va_rf v6, .long x2]) ⟨hx, hb, hml, hown, hts⟩ (hRC v6 (x1 + (1 : Int32)) μ7 H.size _) (va_cwS 2 hts gX8_heldWithGifts_X8_heldWithGifts rfl rfl rfl (by decide +kernel) ⟨by show nR + 3 + 1 ≤ nR + 1 + 3; omega, by show 8 + (6 + 11) + (nR * 25 + 132) ≤ (nR + 1) * 25 + 132; omega⟩) (j_prS2z hK hG hI hw) rfl rfl hl.1 rfl (lv_room (by simp only [List.map, List.sum_cons, List.sum_nil, jrc, jci, jcl, jcr, jcn]; exact Nat.le_of_ble_eq_true rfl)) dX8_heldWithGifts_50 ⟨by show _ ≤ 0; omega, by show _ ≤ 0; omega⟩) (fun v10 μ11 H locs hw hI => ?_)
      refine W.eq (g2 := F0 m 53 ls [.long v10, va_rf v6, .long x2]) rfl ?_
      obtain ⟨b14, ⟨hrb14, hfs⟩, hw⟩ := hw
      refine j_goz hI (va_runV (As := [.long v10]) (rest := [.long x2]) ⟨hx, hb, hml, hown, hts⟩ (kX0_surplusOf l hfl D z b14 v10 μ11 H.size _) (cwV 1 hts gX8_heldWithGifts_X0_surplusOf rfl rfl rfl (by decide +kernel) ⟨by show 2 ≤ nR + 1 + 3; omega, by show 132 ≤ (nR + 1) * 25 + 132; omega⟩) (j_prV2z hK hG hI hw (ci := 3) rfl hfs) rfl rfl hl.1 (by rw [hrb14]; rfl) (lv_room (Nat.le_of_ble_eq_true rfl)) dX8_heldWithGifts_53 ⟨by show _ ≤ 0; omega, by show _ ≤ 0; omega⟩) (fun v12 μ13 H locs hw hI => ?_)
      refine W.eq (g2 := F0 m 56 ls [.long v12, .long x2]) rfl ?_
      refine lv_lconst (v := (0)) hx hb dX8_heldWithGifts_56 (by decide) ?_
      refine va_mmax_long hx hb (by rw [hml]; exact hl.1.symm) hown (hts (.methodLink RX8 46 Lib.MathLoose.max_long.x) (List.mem_of_getElem? (i := 4) (by decide +kernel))) (hts (.static Lib.MathLoose.max_long.x) (List.mem_of_getElem? (i := 5) (by decide +kernel))) (hts (.initialized "java/lang/Math") (List.mem_of_getElem? (i := 6) (by decide +kernel))) (hts (.code Lib.MathLoose.max_long.x Lib.MathLoose.max_long.code 4 (some .long)) (List.mem_of_getElem? (i := 7) (by decide +kernel))) (by show 1 ≤ nR + 1 + 3; omega) (by simp only [List.map, List.sum_cons, List.sum_nil, jrc, jci, jcl, jcr, jcn]; show _ ≤ (nR + 1) * 25 + 132; omega) (by show _ ≤ 0; omega) (by show _ ≤ 0; omega) dX8_heldWithGifts_57 ?_
      refine lv_ladd hx hb dX8_heldWithGifts_60 ?_
      refine lv_topl (fun v15 ev15 => ?_)
      have hw := hw v15 ev15
      refine lv_lstore_n (lv' := [(2, .long v15), (5, va_rf v6), (0, va_rf x0), (1, .int x1), (4, .int x4)]) hx hb dX8_heldWithGifts_61 rfl hl (by decide) rfl (fun ls hl => ?_)
      obtain ⟨v16, ev16⟩ : ∃ y : Int32, y = x4 + (1 : Int32) := ⟨_, rfl⟩
      have hw := hw v16 ev16
      refine lv_iinc (v := v16) (lv' := [(4, .int v16), (2, .long v15), (5, va_rf v6), (0, va_rf x0), (1, .int x1)]) hx hb dX8_heldWithGifts_62 hl (k := 4) rfl (by rw [ev16]; rfl) (by decide) rfl (fun ls hl => ?_)
      refine lv_goto (tgt := 16) hx hb dX8_heldWithGifts_65 (by decide) ?_
      exact ih hw hI (lv_sub hl [3, 4, 1, 0] rfl) (by omega) (by omega)
set_option maxHeartbeats 4000000 in
set_option maxRecDepth 100000 in
theorem kX8_heldWithGifts_0 (hX : jX2 D z A p l s m args meth c yX8_heldWithGifts cX8_heldWithGifts 6 wsX8_heldWithGifts (some .long)) {Q : Int64 → jM → Prop} {nR : Nat} {RC : Option Nat → Int32 → jM → (Int64 → jM → Prop) → Prop} (hRC : ∀ (y0 : Option Nat) (y1 : Int32) (μ : jM) (sz : Nat) (Q : Int64 → jM → Prop), Met l yX8_heldWithGifts wsX8_heldWithGifts (rmX8_heldWithGifts nR) (jPre2z D z μ sz [va_rf y0, .int y1] (RC y0 y1 μ Q)) (jRz jfJ Q D z (jA z μ sz)) 0 0 (jA z μ sz)) {x0 : Option Nat} {x1 : Int32} {μ : jM} {H : Heap} {locs : List Loc} {ls : Array Slot} {cells slots : Nat} (hw : wX8_heldWithGifts_0 z RC Q x0 x1 μ) (hI : jIz D z A s.heap μ H locs) (hl : lv_has ls 6 [(0, va_rf x0), (1, .int x1)]) (hcn : cells + 0 ≤ 0) (hsn : slots + 0 ≤ 0) : W p l e (rmX8_heldWithGifts (nR + 1)) s m args below meth c H locs cells slots (MQ below (jRz jfJ Q D z A) args s 0 0 A) (F0 m 0 ls []) := by
  unfold wX8_heldWithGifts_0 at hw
  obtain ⟨hx, hb, hml, hown, hts, hr, hlocks, hnm, hK, hG, hfl⟩ := id hX
  have hown : s.vm.findClass RX8 = some m.cls := hown
  have hfX0 : ∀ w ∈ wsX00, w.before args s = true := fun w h => hts w (List.mem_cons_of_mem _ (List.mem_append_left _ (List.mem_append_right _ h)))
  refine lv_iload_n hx hb dX8_heldWithGifts_0 rfl (lv_at hl 1 rfl) ?_
  refine lv_bipush (v := (10)) hx hb dX8_heldWithGifts_1 (by decide) ?_
  refine lv_icmp_le (tgt := 8) hx hb dX8_heldWithGifts_3 (by decide) (fun hc => ?_) (fun hc => ?_)
  · have hw := hw.1 hc
    refine j_aload_n (r := x0) hx hb dX8_heldWithGifts_8 rfl (lv_at hl 0 rfl) ?_
    obtain ⟨v1, hv1, hw⟩ := hw
    refine j_getz (C := RX0) (T := TX0) (N := 12) (ci := 3) (r := x0) (v := .long v1) hx hb hfX0 hown hK hI rfl 8 (by decide) (hts (.fieldLink RX8 9 "CashPools$Account" "cash" "J") (List.mem_of_getElem? (i := 1) (by decide +kernel))) (fun _ h => h) hv1 dX8_heldWithGifts_9 ?_
    refine lv_lstore_n (lv' := [(2, .long v1), (0, va_rf x0), (1, .int x1)]) hx hb dX8_heldWithGifts_12 rfl hl (by decide) rfl (fun ls hl => ?_)
    refine lv_iconst (v := (0)) hx hb dX8_heldWithGifts_13 (by decide) ?_
    refine lv_topi (fun v2 ev2 => ?_)
    have hw := hw v2 ev2
    refine lv_istore (lv' := [(4, .int v2), (2, .long v1), (0, va_rf x0), (1, .int x1)]) hx hb dX8_heldWithGifts_14 hl (by decide) rfl (fun ls hl => ?_)
    obtain ⟨n3, hw⟩ := hw
    exact kX8_heldWithGifts_16 hX hRC n3 hw hI (lv_sub hl [2, 3, 1, 0] rfl) (by omega) (by omega)
  · have hw := hw.2 hc
    refine lv_lconst (v := (0)) hx hb dX8_heldWithGifts_6 (by decide) ?_
    exact j_lretz hx hb hr hlocks hI hw (by omega) (by omega) dX8_heldWithGifts_7
set_option maxHeartbeats 4000000 in
set_option maxRecDepth 100000 in
theorem kX8_heldWithGifts_r (l : Launch) (hfl : l.stackTraces = false) (D : jD) (z : Nat × Nat) (n : Nat) : ∀ (x0 : Option Nat) (x1 : Int32) (μ : jM) (sz : Nat) (Q : Int64 → jM → Prop), Met l yX8_heldWithGifts wsX8_heldWithGifts (rmX8_heldWithGifts n) (jPre2z D z μ sz [va_rf x0, .int x1] (wX8_heldWithGifts z n x0 x1 μ Q)) (jRz jfJ Q D z (jA z μ sz)) 0 0 (jA z μ sz) := by
  induction n with
  | zero =>
    intro x0 x1 μ sz Q
    refine Met.ofW (cc := cX8_heldWithGifts) (maxL := 6) (ret := (some .long)) (by decide) rfl ?_
    intro p e s m args below meth c s₁ B hml hv
    obtain ⟨_, _, _, _, _, _, hw⟩ := hv
    exact (show False from hw).elim
  | succ n ih =>
    intro x0 x1 μ sz Q
    refine Met.ofW (cc := cX8_heldWithGifts) (maxL := 6) (ret := (some .long)) (by decide) rfl ?_
    intro p e s m args below meth c s₁ B hml hv
    obtain ⟨rfl, hsz, hH, hz0, hK, hG, hw⟩ := hv
    subst hsz
    have hX : jX2 D z (jA z μ s.heap.size) p l s m _ meth c yX8_heldWithGifts cX8_heldWithGifts 6 wsX8_heldWithGifts (some .long) := ⟨B.exec, B.bytes, hml, findClass_of_methodNamed B.named, atoms_spec (ws := wsX8_heldWithGifts) B.pre, B.returns, B.notSynchronized, (name_of_methodNamed B.named B.method).1, hK, hG, hfl⟩
    obtain ⟨ls, hg, hl⟩ : ∃ ls : Array Slot, entryFrame m ([va_rf x0, .int x1] : List Value).toArray 6 = F0 m 0 ls [] ∧ lv_has ls 6 [(0, va_rf x0), (1, .int x1)] := by
      cases x0 <;> exact ⟨_, lg_entry_eq .., lv_entry _ (n := 6) (Nat.le_of_ble_eq_true rfl)⟩
    rw [hg]
    exact kX8_heldWithGifts_0 hX ih hw (jIz.start hH hz0) (lv_sub hl [0, 1] rfl) (by decide) (by decide)
theorem kX8_heldWithGifts (l : Launch) (hfl : l.stackTraces = false) (D : jD) (z : Nat × Nat) (x0 : Option Nat) (x1 : Int32) (μ : jM) (sz : Nat) (Q : Int64 → jM → Prop) : Met l yX8_heldWithGifts wsX8_heldWithGifts (rmX8_heldWithGifts 12) (jPre2z D z μ sz [va_rf x0, .int x1] (wX8_heldWithGifts z 12 x0 x1 μ Q)) (jRz jfJ Q D z (jA z μ sz)) 0 0 (jA z μ sz) := kX8_heldWithGifts_r l hfl D z 12 x0 x1 μ sz Q
set_option maxHeartbeats 4000000 in
set_option maxRecDepth 100000 in
theorem kX8_heldBetweenPasses_0 (hX : jX2 D z A p l s m args meth c yX8_heldBetweenPasses cX8_heldBetweenPasses 3 wsX8_heldBetweenPasses (some .long)) {Q : Int64 → jM → Prop}  {x0 : Option Nat} {μ : jM} {H : Heap} {locs : List Loc} {ls : Array Slot} {cells slots : Nat} (hw : wX8_heldBetweenPasses_0 z Q x0 μ) (hI : jIz D z A s.heap μ H locs) (hl : lv_has ls 3 [(0, va_rf x0)]) (hcn : cells + 0 ≤ 0) (hsn : slots + 0 ≤ 0) : W p l e rmX8_heldBetweenPasses s m args below meth c H locs cells slots (MQ below (jRz jfJ Q D z A) args s 0 0 A) (F0 m 0 ls []) := by
  unfold wX8_heldBetweenPasses_0 at hw
  obtain ⟨hx, hb, hml, hown, hts, hr, hlocks, hnm, hK, hG, hfl⟩ := id hX
  have hown : s.vm.findClass RX8 = some m.cls := hown
  refine j_aload_n (r := x0) hx hb dX8_heldBetweenPasses_0 rfl (lv_at hl 0 rfl) ?_
  refine lv_iconst (v := (0)) hx hb dX8_heldBetweenPasses_1 (by decide) ?_
  refine j_goz hI (va_runS (As := [va_rf x0, .int (0 : Int32)]) (rest := []) ⟨hx, hb, hml, hown, hts⟩ (kX8_heldWithGifts l hfl D z x0 (0 : Int32) μ H.size _) (va_cwS 2 hts gX8_heldBetweenPasses_X8_heldWithGifts rfl rfl rfl (by decide +kernel) ⟨Nat.le_of_ble_eq_true rfl, Nat.le_of_ble_eq_true rfl⟩) (j_prS2z hK hG hI hw) rfl rfl hl.1 rfl (lv_room (Nat.le_of_ble_eq_true rfl)) dX8_heldBetweenPasses_2 ⟨by show _ ≤ 0; omega, by show _ ≤ 0; omega⟩) (fun v1 μ2 H locs hw hI => ?_)
  refine W.eq (g2 := F0 m 5 ls [.long v1]) rfl ?_
  refine j_lstore_nA (r := x0) (F := fun w => [(0, w)]) (F2 := fun w => [(1, .long v1), (0, w)]) hx hb dX8_heldBetweenPasses_5 rfl hl (by decide) (fun w hw => by rcases hw with rfl | ⟨_, rfl⟩ <;> rfl) (fun ls hl => ?_)
  refine lv_lload_n hx hb dX8_heldBetweenPasses_6 rfl (lv_at hl 0 rfl) ?_
  refine j_aload_n (r := x0) hx hb dX8_heldBetweenPasses_7 rfl (lv_at hl 1 rfl) ?_
  refine lv_lload_n hx hb dX8_heldBetweenPasses_8 rfl (lv_at hl 0 rfl) ?_
  obtain ⟨b5, ⟨hrb5, hfs⟩, hw⟩ := hw
  refine j_goz hI (va_runV (As := [.long v1]) (rest := [.long v1]) ⟨hx, hb, hml, hown, hts⟩ (kX0_surplusOf l hfl D z b5 v1 μ2 H.size _) (cwV 1 hts gX8_heldBetweenPasses_X0_surplusOf rfl rfl rfl (by decide +kernel) ⟨Nat.le_of_ble_eq_true rfl, Nat.le_of_ble_eq_true rfl⟩) (j_prV2z hK hG hI hw (ci := 3) rfl hfs) rfl rfl hl.1 (by rw [hrb5]; rfl) (lv_room (Nat.le_of_ble_eq_true rfl)) dX8_heldBetweenPasses_9 ⟨by show _ ≤ 0; omega, by show _ ≤ 0; omega⟩) (fun v3 μ4 H locs hw hI => ?_)
  refine W.eq (g2 := F0 m 12 ls [.long v3, .long v1]) rfl ?_
  refine lv_lconst (v := (0)) hx hb dX8_heldBetweenPasses_12 (by decide) ?_
  refine va_mmax_long hx hb (by rw [hml]; exact hl.1.symm) hown (hts (.methodLink RX8 46 Lib.MathLoose.max_long.x) (List.mem_of_getElem? (i := 1) (by decide +kernel))) (hts (.static Lib.MathLoose.max_long.x) (List.mem_of_getElem? (i := 2) (by decide +kernel))) (hts (.initialized "java/lang/Math") (List.mem_of_getElem? (i := 3) (by decide +kernel))) (hts (.code Lib.MathLoose.max_long.x Lib.MathLoose.max_long.code 4 (some .long)) (List.mem_of_getElem? (i := 4) (by decide +kernel))) (Nat.le_of_ble_eq_true rfl) (Nat.le_of_ble_eq_true rfl) (by show _ ≤ 0; omega) (by show _ ≤ 0; omega) dX8_heldBetweenPasses_13 ?_
  refine lv_lsub hx hb dX8_heldBetweenPasses_16 ?_
  exact j_lretz hx hb hr hlocks hI hw (by omega) (by omega) dX8_heldBetweenPasses_17
set_option maxHeartbeats 4000000 in
set_option maxRecDepth 100000 in
theorem kX8_heldBetweenPasses (l : Launch) (hfl : l.stackTraces = false) (D : jD) (z : Nat × Nat) (x0 : Option Nat) (μ : jM) (sz : Nat) (Q : Int64 → jM → Prop) : Met l yX8_heldBetweenPasses wsX8_heldBetweenPasses rmX8_heldBetweenPasses (jPre2z D z μ sz [va_rf x0] (wX8_heldBetweenPasses z x0 μ Q)) (jRz jfJ Q D z (jA z μ sz)) 0 0 (jA z μ sz) := by
  refine Met.ofW (cc := cX8_heldBetweenPasses) (maxL := 3) (ret := (some .long)) (by decide) rfl ?_
  intro p e s m args below meth c s₁ B hml hv
  obtain ⟨rfl, hsz, hH, hz0, hK, hG, hw⟩ := hv
  subst hsz
  have hX : jX2 D z (jA z μ s.heap.size) p l s m _ meth c yX8_heldBetweenPasses cX8_heldBetweenPasses 3 wsX8_heldBetweenPasses (some .long) := ⟨B.exec, B.bytes, hml, findClass_of_methodNamed B.named, atoms_spec (ws := wsX8_heldBetweenPasses) B.pre, B.returns, B.notSynchronized, (name_of_methodNamed B.named B.method).1, hK, hG, hfl⟩
  obtain ⟨ls, hg, hl⟩ : ∃ ls : Array Slot, entryFrame m ([va_rf x0] : List Value).toArray 3 = F0 m 0 ls [] ∧ lv_has ls 3 [(0, va_rf x0)] := by
    cases x0 <;> exact ⟨_, lg_entry_eq .., lv_entry _ (n := 3) (Nat.le_of_ble_eq_true rfl)⟩
  rw [hg]
  exact kX8_heldBetweenPasses_0 hX hw (jIz.start hH hz0) (lv_sub hl [0] rfl) (by decide) (by decide)
set_option maxHeartbeats 4000000 in
set_option maxRecDepth 100000 in
theorem kX8_leftBefore_45 (hX : jX2 D z A p l s m args meth c yX8_leftBefore cX8_leftBefore 7 wsX8_leftBefore (some .long)) {Q : Int64 → jM → Prop} {nR : Nat} {RC : Option Nat → Int32 → Int32 → jM → (Int64 → jM → Prop) → Prop} (hRC : ∀ (y0 : Option Nat) (y1 : Int32) (y2 : Int32) (μ : jM) (sz : Nat) (Q : Int64 → jM → Prop), Met l yX8_leftBefore wsX8_leftBefore (rmX8_leftBefore nR) (jPre2z D z μ sz [va_rf y0, .int y1, .int y2] (RC y0 y1 y2 μ Q)) (jRz jfJ Q D z (jA z μ sz)) 0 0 (jA z μ sz)) (n : Nat) : ∀ {x0 : Option Nat} {x1 : Int32} {x3 : Int64} {x5 : Int32} {μ : jM} {H : Heap} {locs : List Loc} {ls : Array Slot} {cells slots : Nat}, wX8_leftBefore_45 z RC Q n x0 x1 x3 x5 μ → jIz D z A s.heap μ H locs → lv_has ls 7 [(0, va_rf x0), (1, .int x1), (3, .long x3), (5, .int x5)] → cells + 0 ≤ 0 → slots + 0 ≤ 0 → W p l e (rmX8_leftBefore (nR + 1)) s m args below meth c H locs cells slots (MQ below (jRz jfJ Q D z A) args s 0 0 A) (F0 m 45 ls []) := by
  induction n with
  | zero =>
    intros
    rename_i hw _ _ _ _
    exact (show False from hw).elim
  | succ n ih =>
    intro x0 x1 x3 x5 μ H locs ls cells slots hw hI hl hcn hsn
    have hw : wX8_leftBefore_45_b z RC Q (wX8_leftBefore_45 z RC Q n) x0 x1 x3 x5 μ := hw
    unfold wX8_leftBefore_45_b at hw
    obtain ⟨hx, hb, hml, hown, hts, hr, hlocks, hnm, hK, hG, hfl⟩ := id hX
    have hown : s.vm.findClass RX8 = some m.cls := hown
    have hfX0 : ∀ w ∈ wsX00, w.before args s = true := fun w h => hts w (List.mem_cons_of_mem _ (List.mem_append_left _ (List.mem_append_right _ h)))
    refine lv_iload hx hb dX8_leftBefore_45 (lv_at hl 3 rfl) ?_
    refine j_aload_n (r := x0) hx hb dX8_leftBefore_47 rfl (lv_at hl 0 rfl) ?_
    obtain ⟨v1, hv1, hw⟩ := hw
    refine j_getz (C := RX0) (T := TX0) (N := 12) (ci := 3) (r := x0) (v := va_rf v1) hx hb hfX0 hown hK hI rfl 4 (by decide) (hts (.fieldLink RX8 15 "CashPools$Account" "children" "Ljava/util/ArrayList;") (List.mem_of_getElem? (i := 3) (by decide +kernel))) (fun _ h => h) hv1 dX8_leftBefore_48 ?_
    obtain ⟨b4, ⟨hrb4, hfs⟩, hw⟩ := hw
    refine j_goz hI (va_runV (As := []) (rest := [.int x5]) ⟨hx, hb, hml, hown, hts⟩ (kJx4a65c_size_8abf5 l hfl D z b4  μ H.size _) (cwV 0 hts gX8_leftBefore_Jx4a65c_size_8abf5 rfl rfl rfl (by decide +kernel) ⟨by show 1 ≤ nR + 1 + 17; omega, by show 20 ≤ (nR + 1) * 26 + 479; omega⟩) (j_prV2z hK hG hI hw (ci := 2) rfl hfs) rfl rfl hl.1 (by rw [hrb4]; rfl) (lv_room (Nat.le_of_ble_eq_true rfl)) dX8_leftBefore_51 ⟨by show _ ≤ 0; omega, by show _ ≤ 0; omega⟩) (fun v2 μ3 H locs hw hI => ?_)
    refine W.eq (g2 := F0 m 54 ls [.int v2, .int x5]) rfl ?_
    refine lv_icmp_ge (tgt := 100) hx hb dX8_leftBefore_54 (by decide) (fun hc => ?_) (fun hc => ?_)
    · have hw := hw.1 hc
      refine lv_lload_n hx hb dX8_leftBefore_100 rfl (lv_at hl 2 rfl) ?_
      exact j_lretz hx hb hr hlocks hI hw (by omega) (by omega) dX8_leftBefore_101
    · have hw := hw.2 hc
      refine j_aload_n (r := x0) hx hb dX8_leftBefore_57 rfl (lv_at hl 0 rfl) ?_
      obtain ⟨v5, hv5, hw⟩ := hw
      refine j_getz (C := RX0) (T := TX0) (N := 12) (ci := 3) (r := x0) (v := va_rf v5) hx hb hfX0 hown hK hI rfl 4 (by decide) (hts (.fieldLink RX8 15 "CashPools$Account" "children" "Ljava/util/ArrayList;") (List.mem_of_getElem? (i := 3) (by decide +kernel))) (fun _ h => h) hv5 dX8_leftBefore_58 ?_
      refine lv_iload hx hb dX8_leftBefore_61 (lv_at hl 3 rfl) ?_
      obtain ⟨b8, ⟨hrb8, hfs⟩, hw⟩ := hw
      refine j_goz hI (va_runV (As := [.int x5]) (rest := []) ⟨hx, hb, hml, hown, hts⟩ (kJx4a65c_get_915e3 l hfl D z b8 x5 μ3 H.size _) (cwV 1 hts gX8_leftBefore_Jx4a65c_get_915e3 rfl rfl rfl (by decide +kernel) ⟨by show 3 ≤ nR + 1 + 17; omega, by show 64 ≤ (nR + 1) * 26 + 479; omega⟩) (j_prV2z hK hG hI hw (ci := 2) rfl hfs) rfl rfl hl.1 (by rw [hrb8]; rfl) (lv_room (Nat.le_of_ble_eq_true rfl)) dX8_leftBefore_63 ⟨by show _ ≤ 0; omega, by show _ ≤ 0; omega⟩) (fun v6 μ7 H locs hw hI => ?_)
      refine W.eq (g2 := F0 m 66 ls [va_rf v6]) rfl ?_
      obtain ⟨h9, hw⟩ := hw
      refine j_castz (C := RX0) (T := TX0) (N := 12) (ci := 3) (r := v6) hx hb hown (hts (.classLink RX8 10 "CashPools$Account") (List.mem_of_getElem? (i := 4) (by decide +kernel))) hK hI rfl h9 dX8_leftBefore_66 ?_
      refine j_astore (r := v6) (lv' := [(6, va_rf v6), (0, va_rf x0), (1, .int x1), (3, .long x3), (5, .int x5)]) hx hb dX8_leftBefore_69 hl (by decide) rfl (fun ls hl => ?_)
      refine j_aload (r := v6) hx hb dX8_leftBefore_71 (lv_at hl 0 rfl) ?_
      obtain ⟨v10, hv10, hw⟩ := hw
      refine j_getz (C := RX0) (T := TX0) (N := 12) (ci := 3) (r := v6) (v := .int v10) hx hb hfX0 hown hK hI rfl 0 (by decide) (hts (.fieldLink RX8 75 "CashPools$Account" "number" "I") (List.mem_of_getElem? (i := 2) (by decide +kernel))) (fun _ h => h) hv10 dX8_leftBefore_73 ?_
      refine lv_iload_n hx hb dX8_leftBefore_76 rfl (lv_at hl 2 rfl) ?_
      refine lv_icmp_ge (tgt := 94) hx hb dX8_leftBefore_77 (by decide) (fun hc => ?_) (fun hc => ?_)
      · have hw := hw.1 hc
        obtain ⟨v11, ev11⟩ : ∃ y : Int32, y = x5 + (1 : Int32) := ⟨_, rfl⟩
        have hw := hw v11 ev11
        refine lv_iinc (v := v11) (lv' := [(5, .int v11), (6, va_rf v6), (0, va_rf x0), (1, .int x1), (3, .long x3)]) hx hb dX8_leftBefore_94 hl (k := 4) rfl (by rw [ev11]; rfl) (by decide) rfl (fun ls hl => ?_)
        refine lv_goto (tgt := 45) hx hb dX8_leftBefore_97 (by decide) ?_
        exact ih hw hI (lv_sub hl [2, 3, 4, 0] rfl) (by omega) (by omega)
      · have hw := hw.2 hc
        refine lv_lload_n hx hb dX8_leftBefore_80 rfl (lv_at hl 3 rfl) ?_
        refine j_aload (r := v6) hx hb dX8_leftBefore_81 (lv_at hl 0 rfl) ?_
        refine j_aload (r := v6) hx hb dX8_leftBefore_83 (lv_at hl 0 rfl) ?_
        refine j_goz hI (va_runS (As := [va_rf v6]) (rest := [va_rf v6, .long x3]) ⟨hx, hb, hml, hown, hts⟩ (kX8_heldBetweenPasses l hfl D z v6 μ7 H.size _) (va_cwS 1 hts gX8_leftBefore_X8_heldBetweenPasses rfl rfl rfl (by decide +kernel) ⟨by show 17 ≤ nR + 1 + 17; omega, by show 479 ≤ (nR + 1) * 26 + 479; omega⟩) (j_prS2z hK hG hI hw) rfl rfl hl.1 rfl (lv_room (by simp only [List.map, List.sum_cons, List.sum_nil, jrc, jci, jcl, jcr, jcn]; exact Nat.le_of_ble_eq_true rfl)) dX8_leftBefore_85 ⟨by show _ ≤ 0; omega, by show _ ≤ 0; omega⟩) (fun v12 μ13 H locs hw hI => ?_)
        refine W.eq (g2 := F0 m 88 ls [.long v12, va_rf v6, .long x3]) rfl ?_
        refine lv_lload_n hx hb dX8_leftBefore_88 rfl (lv_at hl 3 rfl) ?_
        refine j_goz hI (va_runS (As := [va_rf v6, .long v12, .long x3]) (rest := [.long x3]) ⟨hx, hb, hml, hown, hts⟩ (kX8_partOf l hfl D z v6 v12 x3 μ13 H.size _) (va_cwS 3 hts gX8_leftBefore_X8_partOf rfl rfl rfl (by decide +kernel) ⟨by show 3 ≤ nR + 1 + 17; omega, by show 160 ≤ (nR + 1) * 26 + 479; omega⟩) (j_prS2z hK hG hI hw) rfl rfl hl.1 rfl (lv_room (Nat.le_of_ble_eq_true rfl)) dX8_leftBefore_89 ⟨by show _ ≤ 0; omega, by show _ ≤ 0; omega⟩) (fun v14 μ15 H locs hw hI => ?_)
        refine W.eq (g2 := F0 m 92 ls [.long v14, .long x3]) rfl ?_
        refine lv_lsub hx hb dX8_leftBefore_92 ?_
        refine lv_topl (fun v16 ev16 => ?_)
        have hw := hw v16 ev16
        refine lv_lstore_n (lv' := [(3, .long v16), (6, va_rf v6), (0, va_rf x0), (1, .int x1), (5, .int x5)]) hx hb dX8_leftBefore_93 rfl hl (by decide) rfl (fun ls hl => ?_)
        obtain ⟨v17, ev17⟩ : ∃ y : Int32, y = x5 + (1 : Int32) := ⟨_, rfl⟩
        have hw := hw v17 ev17
        refine lv_iinc (v := v17) (lv' := [(5, .int v17), (3, .long v16), (6, va_rf v6), (0, va_rf x0), (1, .int x1)]) hx hb dX8_leftBefore_94 hl (k := 4) rfl (by rw [ev17]; rfl) (by decide) rfl (fun ls hl => ?_)
        refine lv_goto (tgt := 45) hx hb dX8_leftBefore_97 (by decide) ?_
        exact ih hw hI (lv_sub hl [3, 4, 1, 0] rfl) (by omega) (by omega)
set_option maxHeartbeats 4000000 in
set_option maxRecDepth 100000 in
theorem kX8_leftBefore_0 (hX : jX2 D z A p l s m args meth c yX8_leftBefore cX8_leftBefore 7 wsX8_leftBefore (some .long)) {Q : Int64 → jM → Prop} {nR : Nat} {RC : Option Nat → Int32 → Int32 → jM → (Int64 → jM → Prop) → Prop} (hRC : ∀ (y0 : Option Nat) (y1 : Int32) (y2 : Int32) (μ : jM) (sz : Nat) (Q : Int64 → jM → Prop), Met l yX8_leftBefore wsX8_leftBefore (rmX8_leftBefore nR) (jPre2z D z μ sz [va_rf y0, .int y1, .int y2] (RC y0 y1 y2 μ Q)) (jRz jfJ Q D z (jA z μ sz)) 0 0 (jA z μ sz)) {x0 : Option Nat} {x1 : Int32} {x2 : Int32} {μ : jM} {H : Heap} {locs : List Loc} {ls : Array Slot} {cells slots : Nat} (hw : wX8_leftBefore_0 z RC Q x0 x1 x2 μ) (hI : jIz D z A s.heap μ H locs) (hl : lv_has ls 7 [(0, va_rf x0), (1, .int x1), (2, .int x2)]) (hcn : cells + 0 ≤ 0) (hsn : slots + 0 ≤ 0) : W p l e (rmX8_leftBefore (nR + 1)) s m args below meth c H locs cells slots (MQ below (jRz jfJ Q D z A) args s 0 0 A) (F0 m 0 ls []) := by
  unfold wX8_leftBefore_0 at hw
  obtain ⟨hx, hb, hml, hown, hts, hr, hlocks, hnm, hK, hG, hfl⟩ := id hX
  have hown : s.vm.findClass RX8 = some m.cls := hown
  have hfX0 : ∀ w ∈ wsX00, w.before args s = true := fun w h => hts w (List.mem_cons_of_mem _ (List.mem_append_left _ (List.mem_append_right _ h)))
  refine lv_iload_n hx hb dX8_leftBefore_0 rfl (lv_at hl 2 rfl) ?_
  refine lv_bipush (v := (10)) hx hb dX8_leftBefore_1 (by decide) ?_
  refine lv_icmp_le (tgt := 8) hx hb dX8_leftBefore_3 (by decide) (fun hc => ?_) (fun hc => ?_)
  · have hw := hw.1 hc
    refine j_aload_n (r := x0) hx hb dX8_leftBefore_8 rfl (lv_at hl 0 rfl) ?_
    refine j_goz hI (va_runS (As := [va_rf x0]) (rest := []) ⟨hx, hb, hml, hown, hts⟩ (kX8_heldBetweenPasses l hfl D z x0 μ H.size _) (va_cwS 1 hts gX8_leftBefore_X8_heldBetweenPasses rfl rfl rfl (by decide +kernel) ⟨by show 17 ≤ nR + 1 + 17; omega, by show 479 ≤ (nR + 1) * 26 + 479; omega⟩) (j_prS2z hK hG hI hw) rfl rfl hl.1 rfl (lv_room (Nat.le_of_ble_eq_true rfl)) dX8_leftBefore_9 ⟨by show _ ≤ 0; omega, by show _ ≤ 0; omega⟩) (fun v1 μ2 H locs hw hI => ?_)
    refine W.eq (g2 := F0 m 12 ls [.long v1]) rfl ?_
    refine lv_lstore_n (lv' := [(3, .long v1), (0, va_rf x0), (1, .int x1), (2, .int x2)]) hx hb dX8_leftBefore_12 rfl hl (by decide) rfl (fun ls hl => ?_)
    refine j_aload_n (r := x0) hx hb dX8_leftBefore_13 rfl (lv_at hl 1 rfl) ?_
    obtain ⟨v3, hv3, hw⟩ := hw
    refine j_getz (C := RX0) (T := TX0) (N := 12) (ci := 3) (r := x0) (v := va_rf v3) hx hb hfX0 hown hK hI rfl 1 (by decide) (hts (.fieldLink RX8 52 "CashPools$Account" "parent" "LCashPools$Account;") (List.mem_of_getElem? (i := 1) (by decide +kernel))) (fun _ h => h) hv3 dX8_leftBefore_14 ?_
    refine j_ifnull (r := v3) (tgt := 42) hx hb dX8_leftBefore_17 (by decide) (fun hc => ?_) (fun hc => ?_)
    · have hw := hw.1 hc
      refine lv_iconst (v := (0)) hx hb dX8_leftBefore_42 (by decide) ?_
      refine lv_topi (fun v4 ev4 => ?_)
      have hw := hw v4 ev4
      refine lv_istore (lv' := [(5, .int v4), (3, .long v1), (0, va_rf x0), (1, .int x1), (2, .int x2)]) hx hb dX8_leftBefore_43 hl (by decide) rfl (fun ls hl => ?_)
      obtain ⟨n5, hw⟩ := hw
      exact kX8_leftBefore_45 hX hRC n5 hw hI (lv_sub hl [2, 3, 1, 0] rfl) (by omega) (by omega)
    · have hw := hw.2 hc
      refine lv_lload_n hx hb dX8_leftBefore_20 rfl (lv_at hl 0 rfl) ?_
      refine j_aload_n (r := x0) hx hb dX8_leftBefore_21 rfl (lv_at hl 1 rfl) ?_
      refine lv_lload_n hx hb dX8_leftBefore_22 rfl (lv_at hl 0 rfl) ?_
      refine j_aload_n (r := x0) hx hb dX8_leftBefore_23 rfl (lv_at hl 1 rfl) ?_
      obtain ⟨v6, hv6, hw⟩ := hw
      refine j_getz (C := RX0) (T := TX0) (N := 12) (ci := 3) (r := x0) (v := va_rf v6) hx hb hfX0 hown hK hI rfl 1 (by decide) (hts (.fieldLink RX8 52 "CashPools$Account" "parent" "LCashPools$Account;") (List.mem_of_getElem? (i := 1) (by decide +kernel))) (fun _ h => h) hv6 dX8_leftBefore_24 ?_
      refine j_aload_n (r := x0) hx hb dX8_leftBefore_27 rfl (lv_at hl 1 rfl) ?_
      obtain ⟨v7, hv7, hw⟩ := hw
      refine j_getz (C := RX0) (T := TX0) (N := 12) (ci := 3) (r := x0) (v := .int v7) hx hb hfX0 hown hK hI rfl 0 (by decide) (hts (.fieldLink RX8 75 "CashPools$Account" "number" "I") (List.mem_of_getElem? (i := 2) (by decide +kernel))) (fun _ h => h) hv7 dX8_leftBefore_28 ?_
      refine lv_iload_n hx hb dX8_leftBefore_31 rfl (lv_at hl 3 rfl) ?_
      refine lv_iconst (v := (1)) hx hb dX8_leftBefore_32 (by decide) ?_
      refine lv_iadd hx hb dX8_leftBefore_33 ?_
      refine j_goz hI (va_runS (As := [va_rf v6, .int v7, .int (x2 + (1 : Int32))]) (rest := [.long v1, va_rf x0, .long v1]) ⟨hx, hb, hml, hown, hts⟩ (hRC v6 v7 (x2 + (1 : Int32)) μ2 H.size _) (va_cwS 3 hts gX8_leftBefore_X8_leftBefore rfl rfl rfl (by decide +kernel) ⟨by show nR + 17 + 1 ≤ nR + 1 + 17; omega, by show 8 + (7 + 11) + (nR * 26 + 479) ≤ (nR + 1) * 26 + 479; omega⟩) (j_prS2z hK hG hI hw) rfl rfl hl.1 rfl (lv_room (by simp only [List.map, List.sum_cons, List.sum_nil, jrc, jci, jcl, jcr, jcn]; exact Nat.le_of_ble_eq_true rfl)) dX8_leftBefore_34 ⟨by show _ ≤ 0; omega, by show _ ≤ 0; omega⟩) (fun v8 μ9 H locs hw hI => ?_)
      refine W.eq (g2 := F0 m 37 ls [.long v8, .long v1, va_rf x0, .long v1]) rfl ?_
      refine j_goz hI (va_runS (As := [va_rf x0, .long v1, .long v8]) (rest := [.long v1]) ⟨hx, hb, hml, hown, hts⟩ (kX8_partOf l hfl D z x0 v1 v8 μ9 H.size _) (va_cwS 3 hts gX8_leftBefore_X8_partOf rfl rfl rfl (by decide +kernel) ⟨by show 3 ≤ nR + 1 + 17; omega, by show 160 ≤ (nR + 1) * 26 + 479; omega⟩) (j_prS2z hK hG hI hw) rfl rfl hl.1 rfl (lv_room (Nat.le_of_ble_eq_true rfl)) dX8_leftBefore_37 ⟨by show _ ≤ 0; omega, by show _ ≤ 0; omega⟩) (fun v10 μ11 H locs hw hI => ?_)
      refine W.eq (g2 := F0 m 40 ls [.long v10, .long v1]) rfl ?_
      refine lv_ladd hx hb dX8_leftBefore_40 ?_
      refine lv_topl (fun v12 ev12 => ?_)
      have hw := hw v12 ev12
      refine lv_lstore_n (lv' := [(3, .long v12), (0, va_rf x0), (1, .int x1), (2, .int x2)]) hx hb dX8_leftBefore_41 rfl hl (by decide) rfl (fun ls hl => ?_)
      refine lv_iconst (v := (0)) hx hb dX8_leftBefore_42 (by decide) ?_
      refine lv_topi (fun v13 ev13 => ?_)
      have hw := hw v13 ev13
      refine lv_istore (lv' := [(5, .int v13), (3, .long v12), (0, va_rf x0), (1, .int x1), (2, .int x2)]) hx hb dX8_leftBefore_43 hl (by decide) rfl (fun ls hl => ?_)
      obtain ⟨n14, hw⟩ := hw
      exact kX8_leftBefore_45 hX hRC n14 hw hI (lv_sub hl [2, 3, 1, 0] rfl) (by omega) (by omega)
  · have hw := hw.2 hc
    refine lv_lconst (v := (0)) hx hb dX8_leftBefore_6 (by decide) ?_
    exact j_lretz hx hb hr hlocks hI hw (by omega) (by omega) dX8_leftBefore_7
set_option maxHeartbeats 4000000 in
set_option maxRecDepth 100000 in
theorem kX8_leftBefore_r (l : Launch) (hfl : l.stackTraces = false) (D : jD) (z : Nat × Nat) (n : Nat) : ∀ (x0 : Option Nat) (x1 : Int32) (x2 : Int32) (μ : jM) (sz : Nat) (Q : Int64 → jM → Prop), Met l yX8_leftBefore wsX8_leftBefore (rmX8_leftBefore n) (jPre2z D z μ sz [va_rf x0, .int x1, .int x2] (wX8_leftBefore z n x0 x1 x2 μ Q)) (jRz jfJ Q D z (jA z μ sz)) 0 0 (jA z μ sz) := by
  induction n with
  | zero =>
    intro x0 x1 x2 μ sz Q
    refine Met.ofW (cc := cX8_leftBefore) (maxL := 7) (ret := (some .long)) (by decide) rfl ?_
    intro p e s m args below meth c s₁ B hml hv
    obtain ⟨_, _, _, _, _, _, hw⟩ := hv
    exact (show False from hw).elim
  | succ n ih =>
    intro x0 x1 x2 μ sz Q
    refine Met.ofW (cc := cX8_leftBefore) (maxL := 7) (ret := (some .long)) (by decide) rfl ?_
    intro p e s m args below meth c s₁ B hml hv
    obtain ⟨rfl, hsz, hH, hz0, hK, hG, hw⟩ := hv
    subst hsz
    have hX : jX2 D z (jA z μ s.heap.size) p l s m _ meth c yX8_leftBefore cX8_leftBefore 7 wsX8_leftBefore (some .long) := ⟨B.exec, B.bytes, hml, findClass_of_methodNamed B.named, atoms_spec (ws := wsX8_leftBefore) B.pre, B.returns, B.notSynchronized, (name_of_methodNamed B.named B.method).1, hK, hG, hfl⟩
    obtain ⟨ls, hg, hl⟩ : ∃ ls : Array Slot, entryFrame m ([va_rf x0, .int x1, .int x2] : List Value).toArray 7 = F0 m 0 ls [] ∧ lv_has ls 7 [(0, va_rf x0), (1, .int x1), (2, .int x2)] := by
      cases x0 <;> exact ⟨_, lg_entry_eq .., lv_entry _ (n := 7) (Nat.le_of_ble_eq_true rfl)⟩
    rw [hg]
    exact kX8_leftBefore_0 hX ih hw (jIz.start hH hz0) (lv_sub hl [0, 1, 2] rfl) (by decide) (by decide)
theorem kX8_leftBefore (l : Launch) (hfl : l.stackTraces = false) (D : jD) (z : Nat × Nat) (x0 : Option Nat) (x1 : Int32) (x2 : Int32) (μ : jM) (sz : Nat) (Q : Int64 → jM → Prop) : Met l yX8_leftBefore wsX8_leftBefore (rmX8_leftBefore 12) (jPre2z D z μ sz [va_rf x0, .int x1, .int x2] (wX8_leftBefore z 12 x0 x1 x2 μ Q)) (jRz jfJ Q D z (jA z μ sz)) 0 0 (jA z μ sz) := kX8_leftBefore_r l hfl D z 12 x0 x1 x2 μ sz Q
set_option maxHeartbeats 4000000 in
set_option maxRecDepth 100000 in
theorem kX8_sweptCash_0 (hX : jX2 D z A p l s m args meth c yX8_sweptCash cX8_sweptCash 1 wsX8_sweptCash (some .long)) {Q : Int64 → jM → Prop}  {x0 : Option Nat} {μ : jM} {H : Heap} {locs : List Loc} {ls : Array Slot} {cells slots : Nat} (hw : wX8_sweptCash_0 z Q x0 μ) (hI : jIz D z A s.heap μ H locs) (hl : lv_has ls 1 [(0, va_rf x0)]) (hcn : cells + 0 ≤ 0) (hsn : slots + 0 ≤ 0) : W p l e rmX8_sweptCash s m args below meth c H locs cells slots (MQ below (jRz jfJ Q D z A) args s 0 0 A) (F0 m 0 ls []) := by
  unfold wX8_sweptCash_0 at hw
  obtain ⟨hx, hb, hml, hown, hts, hr, hlocks, hnm, hK, hG, hfl⟩ := id hX
  have hown : s.vm.findClass RX8 = some m.cls := hown
  refine j_aload_n (r := x0) hx hb dX8_sweptCash_0 rfl (lv_at hl 0 rfl) ?_
  refine lv_bipush (v := (10)) hx hb dX8_sweptCash_1 (by decide) ?_
  refine lv_iconst (v := (0)) hx hb dX8_sweptCash_3 (by decide) ?_
  refine j_goz hI (va_runS (As := [va_rf x0, .int (10 : Int32), .int (0 : Int32)]) (rest := []) ⟨hx, hb, hml, hown, hts⟩ (kX8_leftBefore l hfl D z x0 (10 : Int32) (0 : Int32) μ H.size _) (va_cwS 3 hts gX8_sweptCash_X8_leftBefore rfl rfl rfl (by decide +kernel) ⟨Nat.le_of_ble_eq_true rfl, Nat.le_of_ble_eq_true rfl⟩) (j_prS2z hK hG hI hw) rfl rfl hl.1 rfl (lv_room (Nat.le_of_ble_eq_true rfl)) dX8_sweptCash_4 ⟨by show _ ≤ 0; omega, by show _ ≤ 0; omega⟩) (fun v1 μ2 H locs hw hI => ?_)
  refine W.eq (g2 := F0 m 7 ls [.long v1]) rfl ?_
  exact j_lretz hx hb hr hlocks hI hw (by omega) (by omega) dX8_sweptCash_7
set_option maxHeartbeats 4000000 in
set_option maxRecDepth 100000 in
theorem kX8_sweptCash (l : Launch) (hfl : l.stackTraces = false) (D : jD) (z : Nat × Nat) (x0 : Option Nat) (μ : jM) (sz : Nat) (Q : Int64 → jM → Prop) : Met l yX8_sweptCash wsX8_sweptCash rmX8_sweptCash (jPre2z D z μ sz [va_rf x0] (wX8_sweptCash z x0 μ Q)) (jRz jfJ Q D z (jA z μ sz)) 0 0 (jA z μ sz) := by
  refine Met.ofW (cc := cX8_sweptCash) (maxL := 1) (ret := (some .long)) (by decide) rfl ?_
  intro p e s m args below meth c s₁ B hml hv
  obtain ⟨rfl, hsz, hH, hz0, hK, hG, hw⟩ := hv
  subst hsz
  have hX : jX2 D z (jA z μ s.heap.size) p l s m _ meth c yX8_sweptCash cX8_sweptCash 1 wsX8_sweptCash (some .long) := ⟨B.exec, B.bytes, hml, findClass_of_methodNamed B.named, atoms_spec (ws := wsX8_sweptCash) B.pre, B.returns, B.notSynchronized, (name_of_methodNamed B.named B.method).1, hK, hG, hfl⟩
  obtain ⟨ls, hg, hl⟩ : ∃ ls : Array Slot, entryFrame m ([va_rf x0] : List Value).toArray 1 = F0 m 0 ls [] ∧ lv_has ls 1 [(0, va_rf x0)] := by
    cases x0 <;> exact ⟨_, lg_entry_eq .., lv_entry _ (n := 1) (Nat.le_of_ble_eq_true rfl)⟩
  rw [hg]
  exact kX8_sweptCash_0 hX hw (jIz.start hH hz0) (lv_sub hl [0] rfl) (by decide) (by decide)
set_option maxHeartbeats 4000000 in
set_option maxRecDepth 100000 in
theorem kX9_afterSweep_0 {b : Nat} (hX : jX2 D z A p l s m args meth c yX9_afterSweep cX9_afterSweep 2 wsX9_afterSweep (some .long)) {Q : Int64 → jM → Prop}  {x1 : Int32} {μ : jM} {H : Heap} {locs : List Loc} {ls : Array Slot} {cells slots : Nat} (hw : wX9_afterSweep_0 z b Q jN x1 μ) (hI : jIz D z A s.heap μ H locs) (hl : lv_has ls 2 [(0, va_rf (some b)), (1, .int x1)]) (hcn : cells + 0 ≤ 0) (hsn : slots + 0 ≤ 0) : W p l e rmX9_afterSweep s m args below meth c H locs cells slots (MQ below (jRz jfJ Q D z A) args s 0 0 A) (F0 m 0 ls []) := by
  unfold wX9_afterSweep_0 at hw
  obtain ⟨hx, hb, hml, hown, hts, hr, hlocks, hnm, hK, hG, hfl⟩ := id hX
  have hown : s.vm.findClass RX9 = some m.cls := hown
  refine j_aload_n (r := (some b)) hx hb dX9_afterSweep_0 rfl (lv_at hl 0 rfl) ?_
  refine lv_iload_n hx hb dX9_afterSweep_1 rfl (lv_at hl 1 rfl) ?_
  obtain ⟨hfs, hw⟩ := hw
  refine j_goz hI (va_runV (As := [.int x1]) (rest := []) ⟨hx, hb, hml, hown, hts⟩ (kX9_accountAt l hfl D z b x1 μ H.size _) (cwV 1 hts gX9_afterSweep_X9_accountAt rfl rfl rfl (by decide +kernel) ⟨Nat.le_of_ble_eq_true rfl, Nat.le_of_ble_eq_true rfl⟩) (j_prV2z hK hG hI hw (ci := 11) rfl hfs) rfl rfl hl.1 rfl (lv_room (Nat.le_of_ble_eq_true rfl)) dX9_afterSweep_2 ⟨by show _ ≤ 0; omega, by show _ ≤ 0; omega⟩) (fun v1 μ2 H locs hw hI => ?_)
  refine W.eq (g2 := F0 m 5 ls [va_rf v1]) rfl ?_
  refine j_goz hI (va_runS (As := [va_rf v1]) (rest := []) ⟨hx, hb, hml, hown, hts⟩ (kX8_sweptCash l hfl D z v1 μ2 H.size _) (va_cwS 1 hts gX9_afterSweep_X8_sweptCash rfl rfl rfl (by decide +kernel) ⟨Nat.le_of_ble_eq_true rfl, Nat.le_of_ble_eq_true rfl⟩) (j_prS2z hK hG hI hw) rfl rfl hl.1 rfl (lv_room (Nat.le_of_ble_eq_true rfl)) dX9_afterSweep_5 ⟨by show _ ≤ 0; omega, by show _ ≤ 0; omega⟩) (fun v3 μ4 H locs hw hI => ?_)
  refine W.eq (g2 := F0 m 8 ls [.long v3]) rfl ?_
  exact j_lretz hx hb hr hlocks hI hw (by omega) (by omega) dX9_afterSweep_8
set_option maxHeartbeats 4000000 in
set_option maxRecDepth 100000 in
theorem kX9_afterSweep (l : Launch) (hfl : l.stackTraces = false) (D : jD) (z : Nat × Nat) (b : Nat) (x1 : Int32) (μ : jM) (sz : Nat) (Q : Int64 → jM → Prop) : Met l yX9_afterSweep wsX9_afterSweep rmX9_afterSweep (jPre2z D z μ sz [.ref b, .int x1] (wX9_afterSweep z b x1 μ Q jN)) (jRz jfJ Q D z (jA z μ sz)) 0 0 (jA z μ sz) := by
  refine Met.ofW (cc := cX9_afterSweep) (maxL := 2) (ret := (some .long)) (by decide) rfl ?_
  intro p e s m args below meth c s₁ B hml hv
  obtain ⟨rfl, hsz, hH, hz0, hK, hG, hw⟩ := hv
  subst hsz
  have hX : jX2 D z (jA z μ s.heap.size) p l s m _ meth c yX9_afterSweep cX9_afterSweep 2 wsX9_afterSweep (some .long) := ⟨B.exec, B.bytes, hml, findClass_of_methodNamed B.named, atoms_spec (ws := wsX9_afterSweep) B.pre, B.returns, B.notSynchronized, (name_of_methodNamed B.named B.method).1, hK, hG, hfl⟩
  obtain ⟨ls, hg, hl⟩ : ∃ ls : Array Slot, entryFrame m ([.ref b, .int x1] : List Value).toArray 2 = F0 m 0 ls [] ∧ lv_has ls 2 [(0, va_rf (some b)), (1, .int x1)] := by
    exact ⟨_, lg_entry_eq .., lv_entry _ (n := 2) (Nat.le_of_ble_eq_true rfl)⟩
  rw [hg]
  exact kX9_afterSweep_0 hX hw (jIz.start hH hz0) (lv_sub hl [0, 1] rfl) (by decide) (by decide)
end
