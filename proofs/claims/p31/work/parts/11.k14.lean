section
variable {p : Program} {l : Launch} {e : Env} {s : State} {m : MethodId} {args : Array Value} {below : List Frame} {meth : Method} {c : Code} {D : jD} {z : Nat × Nat} {A : Nat → Prop}
set_option maxHeartbeats 4000000 in
set_option maxRecDepth 100000 in
theorem kL_schedules_94 (hX : jX2 D z A p l s m args meth c yL_schedules cL_schedules 10 wsL_schedules (some .boolean)) {Q : Int32 → jM → Prop}  {x0 : Option Nat} {x3 : Int32} {x4 : Int32} {x8 : Int32} {t0 : Int32} {μ : jM} {H : Heap} {locs : List Loc} {ls : Array Slot} {cells slots : Nat} (hw : wL_schedules_94 z Q x0 x3 x4 x8 t0 μ) (hI : jIz D z A s.heap μ H locs) (hl : lv_has ls 10 [(0, va_rf x0), (3, .int x3), (4, .int x4), (8, .int x8)]) (hcn : cells + 0 ≤ 2) (hsn : slots + 0 ≤ 39) : W p l e rmL_schedules s m args below meth c H locs cells slots (MQ below (jRz jfI Q D z A) args s 2 39 A) (F0 m 94 ls [.int t0]) := by
  unfold wL_schedules_94 at hw
  obtain ⟨hx, hb, hml, hown, hts, hr, hlocks, hnm, hK, hG, hfl⟩ := id hX
  have hown : s.vm.findClass RL = some m.cls := hown
  refine lv_istore (lv' := [(9, .int t0), (0, va_rf x0), (3, .int x3), (4, .int x4), (8, .int x8)]) hx hb dL_schedules_94 hl (by decide) rfl (fun ls hl => ?_)
  refine lv_iload hx hb dL_schedules_96 (lv_at hl 0 rfl) ?_
  refine lv_if_eq (tgt := 141) hx hb dL_schedules_98 (by decide) (fun hc => ?_) (fun hc => ?_)
  · have hw := hw.1 hc
    refine lv_iconst (v := (0)) hx hb dL_schedules_141 (by decide) ?_
    exact j_zretz hx hb hr rfl hlocks hI hw (by omega) (by omega) dL_schedules_142
  · have hw := hw.2 hc
    refine lv_iload_n hx hb dL_schedules_101 rfl (lv_at hl 2 rfl) ?_
    refine lv_bipush (v := (11)) hx hb dL_schedules_102 (by decide) ?_
    refine lv_irem hx hb dL_schedules_104 (by decide) ?_
    refine lv_if_gt (tgt := 137) hx hb dL_schedules_105 (by decide) (fun hc => ?_) (fun hc => ?_)
    · have hw := hw.1 hc
      refine lv_iconst (v := (1)) hx hb dL_schedules_137 (by decide) ?_
      refine lv_goto (tgt := 142) hx hb dL_schedules_138 (by decide) ?_
      exact j_zretz hx hb hr rfl hlocks hI hw (by omega) (by omega) dL_schedules_142
    · have hw := hw.2 hc
      refine j_aload_n (r := x0) hx hb dL_schedules_108 rfl (lv_at hl 1 rfl) ?_
      refine lv_iload hx hb dL_schedules_109 (lv_at hl 3 rfl) ?_
      obtain ⟨b3, ⟨hrb3, hfs⟩, hw⟩ := hw
      refine j_goz hI (va_runV (As := [.int x4]) (rest := []) ⟨hx, hb, hml, hown, hts⟩ (kX9_cancel l hfl D z b3 x4 μ H.size _) (cwV 1 hts gL_schedules_X9_cancel rfl rfl rfl (by decide +kernel) ⟨Nat.le_of_ble_eq_true rfl, Nat.le_of_ble_eq_true rfl⟩) (j_prV2z hK hG hI hw (ci := 11) rfl hfs) rfl rfl hl.1 (by rw [hrb3]; rfl) (lv_room (Nat.le_of_ble_eq_true rfl)) dL_schedules_111 ⟨by show _ ≤ 2; omega, by show _ ≤ 39; omega⟩) (fun v1 μ2 H locs hw hI => ?_)
      refine W.eq (g2 := F0 m 114 ls [.int v1]) rfl ?_
      refine lv_iload hx hb dL_schedules_114 (lv_at hl 4 rfl) ?_
      refine lv_icmp_ne (tgt := 141) hx hb dL_schedules_116 (by decide) (fun hc => ?_) (fun hc => ?_)
      · have hw := hw.1 hc
        refine lv_iconst (v := (0)) hx hb dL_schedules_141 (by decide) ?_
        exact j_zretz hx hb hr rfl hlocks hI hw (by omega) (by omega) dL_schedules_142
      · have hw := hw.2 hc
        refine j_aload_n (r := x0) hx hb dL_schedules_119 rfl (lv_at hl 1 rfl) ?_
        refine lv_iload hx hb dL_schedules_120 (lv_at hl 3 rfl) ?_
        obtain ⟨b6, ⟨hrb6, hfs⟩, hw⟩ := hw
        refine j_goz hI (va_runV (As := [.int x4]) (rest := []) ⟨hx, hb, hml, hown, hts⟩ (kX9_timesLeft l hfl D z b6 x4 μ2 H.size _) (cwV 1 hts gL_schedules_X9_timesLeft rfl rfl rfl (by decide +kernel) ⟨Nat.le_of_ble_eq_true rfl, Nat.le_of_ble_eq_true rfl⟩) (j_prV2z hK hG hI hw (ci := 11) rfl hfs) rfl rfl hl.1 (by rw [hrb6]; rfl) (lv_room (Nat.le_of_ble_eq_true rfl)) dL_schedules_122 ⟨by show _ ≤ 2; omega, by show _ ≤ 39; omega⟩) (fun v4 μ5 H locs hw hI => ?_)
        refine W.eq (g2 := F0 m 125 ls [.int v4]) rfl ?_
        refine lv_if_ne (tgt := 141) hx hb dL_schedules_125 (by decide) (fun hc => ?_) (fun hc => ?_)
        · have hw := hw.1 hc
          refine lv_iconst (v := (0)) hx hb dL_schedules_141 (by decide) ?_
          exact j_zretz hx hb hr rfl hlocks hI hw (by omega) (by omega) dL_schedules_142
        · have hw := hw.2 hc
          refine j_aload_n (r := x0) hx hb dL_schedules_128 rfl (lv_at hl 1 rfl) ?_
          refine lv_iload hx hb dL_schedules_129 (lv_at hl 3 rfl) ?_
          obtain ⟨b9, ⟨hrb9, hfs⟩, hw⟩ := hw
          refine j_goz hI (va_runV (As := [.int x4]) (rest := []) ⟨hx, hb, hml, hown, hts⟩ (kX9_cancel l hfl D z b9 x4 μ5 H.size _) (cwV 1 hts gL_schedules_X9_cancel rfl rfl rfl (by decide +kernel) ⟨Nat.le_of_ble_eq_true rfl, Nat.le_of_ble_eq_true rfl⟩) (j_prV2z hK hG hI hw (ci := 11) rfl hfs) rfl rfl hl.1 (by rw [hrb9]; rfl) (lv_room (Nat.le_of_ble_eq_true rfl)) dL_schedules_131 ⟨by show _ ≤ 2; omega, by show _ ≤ 39; omega⟩) (fun v7 μ8 H locs hw hI => ?_)
          refine W.eq (g2 := F0 m 134 ls [.int v7]) rfl ?_
          refine lv_if_ne (tgt := 141) hx hb dL_schedules_134 (by decide) (fun hc => ?_) (fun hc => ?_)
          · have hw := hw.1 hc
            refine lv_iconst (v := (0)) hx hb dL_schedules_141 (by decide) ?_
            exact j_zretz hx hb hr rfl hlocks hI hw (by omega) (by omega) dL_schedules_142
          · have hw := hw.2 hc
            refine lv_iconst (v := (1)) hx hb dL_schedules_137 (by decide) ?_
            refine lv_goto (tgt := 142) hx hb dL_schedules_138 (by decide) ?_
            exact j_zretz hx hb hr rfl hlocks hI hw (by omega) (by omega) dL_schedules_142
set_option maxHeartbeats 4000000 in
set_option maxRecDepth 100000 in
theorem kL_schedules_93 (hX : jX2 D z A p l s m args meth c yL_schedules cL_schedules 10 wsL_schedules (some .boolean)) {Q : Int32 → jM → Prop}  {x0 : Option Nat} {x3 : Int32} {x4 : Int32} {x8 : Int32} {μ : jM} {H : Heap} {locs : List Loc} {ls : Array Slot} {cells slots : Nat} (hw : wL_schedules_93 z Q x0 x3 x4 x8 μ) (hI : jIz D z A s.heap μ H locs) (hl : lv_has ls 10 [(0, va_rf x0), (3, .int x3), (4, .int x4), (8, .int x8)]) (hcn : cells + 0 ≤ 2) (hsn : slots + 0 ≤ 39) : W p l e rmL_schedules s m args below meth c H locs cells slots (MQ below (jRz jfI Q D z A) args s 2 39 A) (F0 m 93 ls []) := by
  unfold wL_schedules_93 at hw
  obtain ⟨hx, hb, hml, hown, hts, hr, hlocks, hnm, hK, hG, hfl⟩ := id hX
  have hown : s.vm.findClass RL = some m.cls := hown
  refine lv_iconst (v := (0)) hx hb dL_schedules_93 (by decide) ?_
  exact kL_schedules_94 hX  hw hI (lv_sub hl [0, 1, 2, 3] rfl) (by omega) (by omega)
set_option maxHeartbeats 4000000 in
set_option maxRecDepth 100000 in
theorem kL_schedules_25 (hX : jX2 D z A p l s m args meth c yL_schedules cL_schedules 10 wsL_schedules (some .boolean)) {Q : Int32 → jM → Prop}  {x0 : Option Nat} {x1 : Int32} {x2 : Int32} {x3 : Int32} {x4 : Int32} {t0 : Int32} {μ : jM} {H : Heap} {locs : List Loc} {ls : Array Slot} {cells slots : Nat} (hw : wL_schedules_25 z Q x0 x1 x2 x3 x4 t0 μ) (hI : jIz D z A s.heap μ H locs) (hl : lv_has ls 10 [(0, va_rf x0), (1, .int x1), (2, .int x2), (3, .int x3), (4, .int x4)]) (hcn : cells + 2 ≤ 2) (hsn : slots + 39 ≤ 39) : W p l e rmL_schedules s m args below meth c H locs cells slots (MQ below (jRz jfI Q D z A) args s 2 39 A) (F0 m 25 ls [.int t0]) := by
  unfold wL_schedules_25 at hw
  obtain ⟨hx, hb, hml, hown, hts, hr, hlocks, hnm, hK, hG, hfl⟩ := id hX
  have hown : s.vm.findClass RL = some m.cls := hown
  refine lv_istore (lv' := [(5, .int t0), (0, va_rf x0), (1, .int x1), (2, .int x2), (3, .int x3), (4, .int x4)]) hx hb dL_schedules_25 hl (by decide) rfl (fun ls hl => ?_)
  refine j_aload_n (r := x0) hx hb dL_schedules_27 rfl (lv_at hl 1 rfl) ?_
  obtain ⟨b3, ⟨hrb3, hfs⟩, hw⟩ := hw
  refine j_goz hI (va_runV (As := []) (rest := []) ⟨hx, hb, hml, hown, hts⟩ (kX9_today l hfl D z b3  μ H.size _) (cwV 0 hts gL_schedules_X9_today rfl rfl rfl (by decide +kernel) ⟨Nat.le_of_ble_eq_true rfl, Nat.le_of_ble_eq_true rfl⟩) (j_prV2z hK hG hI hw (ci := 11) rfl hfs) rfl rfl hl.1 (by rw [hrb3]; rfl) (lv_room (Nat.le_of_ble_eq_true rfl)) dL_schedules_28 ⟨by show _ ≤ 2; omega, by show _ ≤ 39; omega⟩) (fun v1 μ2 H locs hw hI => ?_)
  refine W.eq (g2 := F0 m 31 ls [.int v1]) rfl ?_
  refine lv_iload_n hx hb dL_schedules_31 rfl (lv_at hl 4 rfl) ?_
  refine lv_bipush (v := (20)) hx hb dL_schedules_32 (by decide) ?_
  refine lv_irem hx hb dL_schedules_34 (by decide) ?_
  refine lv_iadd hx hb dL_schedules_35 ?_
  refine lv_topi (fun v4 ev4 => ?_)
  have hw := hw v4 ev4
  refine lv_istore (lv' := [(6, .int v4), (5, .int t0), (0, va_rf x0), (1, .int x1), (2, .int x2), (3, .int x3), (4, .int x4)]) hx hb dL_schedules_36 hl (by decide) rfl (fun ls hl => ?_)
  refine lv_iconst (v := (1)) hx hb dL_schedules_38 (by decide) ?_
  refine lv_iload_n hx hb dL_schedules_39 rfl (lv_at hl 5 rfl) ?_
  refine lv_bipush (v := (20)) hx hb dL_schedules_40 (by decide) ?_
  refine lv_idiv hx hb dL_schedules_42 (by decide) ?_
  refine lv_bipush (v := (30)) hx hb dL_schedules_43 (by decide) ?_
  refine lv_irem hx hb dL_schedules_45 (by decide) ?_
  refine lv_iadd hx hb dL_schedules_46 ?_
  refine lv_topi (fun v5 ev5 => ?_)
  have hw := hw v5 ev5
  refine lv_istore (lv' := [(7, .int v5), (6, .int v4), (5, .int t0), (0, va_rf x0), (1, .int x1), (2, .int x2), (3, .int x3), (4, .int x4)]) hx hb dL_schedules_47 hl (by decide) rfl (fun ls hl => ?_)
  refine lv_iconst (v := (1)) hx hb dL_schedules_49 (by decide) ?_
  refine lv_iload_n hx hb dL_schedules_50 rfl (lv_at hl 5 rfl) ?_
  refine lv_bipush (v := (7)) hx hb dL_schedules_51 (by decide) ?_
  refine lv_idiv hx hb dL_schedules_53 (by decide) ?_
  refine lv_bipush (v := (30)) hx hb dL_schedules_54 (by decide) ?_
  refine lv_irem hx hb dL_schedules_56 (by decide) ?_
  refine lv_iadd hx hb dL_schedules_57 ?_
  refine lv_topi (fun v6 ev6 => ?_)
  have hw := hw v6 ev6
  refine lv_istore (lv' := [(8, .int v6), (7, .int v5), (6, .int v4), (5, .int t0), (0, va_rf x0), (1, .int x1), (2, .int x2), (3, .int x3), (4, .int x4)]) hx hb dL_schedules_58 hl (by decide) rfl (fun ls hl => ?_)
  refine j_aload_n (r := x0) hx hb dL_schedules_60 rfl (lv_at hl 4 rfl) ?_
  refine lv_iload_n hx hb dL_schedules_61 rfl (lv_at hl 5 rfl) ?_
  refine lv_iload hx hb dL_schedules_62 (lv_at hl 3 rfl) ?_
  refine lv_iload hx hb dL_schedules_64 (lv_at hl 2 rfl) ?_
  refine lv_iload hx hb dL_schedules_66 (lv_at hl 1 rfl) ?_
  refine lv_iload hx hb dL_schedules_68 (lv_at hl 0 rfl) ?_
  obtain ⟨b9, ⟨hrb9, hfs⟩, hw⟩ := hw
  refine j_goz hI (va_runV (As := [.int x1, .int t0, .int v4, .int v5, .int v6]) (rest := []) ⟨hx, hb, hml, hown, hts⟩ (kX9_schedule l hfl D z b9 x1 t0 v4 v5 v6 μ2 H.size _) (cwV 5 hts gL_schedules_X9_schedule rfl rfl rfl (by decide +kernel) ⟨Nat.le_of_ble_eq_true rfl, Nat.le_of_ble_eq_true rfl⟩) (j_prV2z hK hG hI hw (ci := 11) rfl hfs) rfl rfl hl.1 (by rw [hrb9]; rfl) (lv_room (Nat.le_of_ble_eq_true rfl)) dL_schedules_70 ⟨by show _ ≤ 2; omega, by show _ ≤ 39; omega⟩) (fun v7 μ8 H locs hw hI => ?_)
  refine W.eq (g2 := F0 m 73 ls [.int v7]) rfl ?_
  refine lv_iload hx hb dL_schedules_73 (lv_at hl 8 rfl) ?_
  refine lv_icmp_ne (tgt := 93) hx hb dL_schedules_75 (by decide) (fun hc => ?_) (fun hc => ?_)
  · have hw := hw.1 hc
    exact kL_schedules_93 hX  hw hI (lv_sub hl [4, 7, 8, 0] rfl) (by omega) (by omega)
  · have hw := hw.2 hc
    refine j_aload_n (r := x0) hx hb dL_schedules_78 rfl (lv_at hl 4 rfl) ?_
    refine lv_iload hx hb dL_schedules_79 (lv_at hl 8 rfl) ?_
    obtain ⟨b12, ⟨hrb12, hfs⟩, hw⟩ := hw
    refine j_goz hI (va_runV (As := [.int x4]) (rest := []) ⟨hx, hb, hml, hown, hts⟩ (kX9_timesLeft l hfl D z b12 x4 μ8 H.size _) (cwV 1 hts gL_schedules_X9_timesLeft rfl rfl rfl (by decide +kernel) ⟨Nat.le_of_ble_eq_true rfl, Nat.le_of_ble_eq_true rfl⟩) (j_prV2z hK hG hI hw (ci := 11) rfl hfs) rfl rfl hl.1 (by rw [hrb12]; rfl) (lv_room (Nat.le_of_ble_eq_true rfl)) dL_schedules_81 ⟨by show _ ≤ 2; omega, by show _ ≤ 39; omega⟩) (fun v10 μ11 H locs hw hI => ?_)
    refine W.eq (g2 := F0 m 84 ls [.int v10]) rfl ?_
    refine lv_iload hx hb dL_schedules_84 (lv_at hl 0 rfl) ?_
    refine lv_icmp_ne (tgt := 93) hx hb dL_schedules_86 (by decide) (fun hc => ?_) (fun hc => ?_)
    · have hw := hw.1 hc
      exact kL_schedules_93 hX  hw hI (lv_sub hl [4, 7, 8, 0] rfl) (by omega) (by omega)
    · have hw := hw.2 hc
      refine lv_iconst (v := (1)) hx hb dL_schedules_89 (by decide) ?_
      refine lv_goto (tgt := 94) hx hb dL_schedules_90 (by decide) ?_
      exact kL_schedules_94 hX  hw hI (lv_sub hl [4, 7, 8, 0] rfl) (by omega) (by omega)
set_option maxHeartbeats 4000000 in
set_option maxRecDepth 100000 in
theorem kL_schedules_0 (hX : jX2 D z A p l s m args meth c yL_schedules cL_schedules 10 wsL_schedules (some .boolean)) {Q : Int32 → jM → Prop}  {x0 : Option Nat} {x1 : Int32} {x2 : Int32} {x3 : Int32} {x4 : Int32} {μ : jM} {H : Heap} {locs : List Loc} {ls : Array Slot} {cells slots : Nat} (hw : wL_schedules_0 z Q x0 x1 x2 x3 x4 μ) (hI : jIz D z A s.heap μ H locs) (hl : lv_has ls 10 [(0, va_rf x0), (1, .int x1), (2, .int x2), (3, .int x3), (4, .int x4)]) (hcn : cells + 2 ≤ 2) (hsn : slots + 39 ≤ 39) : W p l e rmL_schedules s m args below meth c H locs cells slots (MQ below (jRz jfI Q D z A) args s 2 39 A) (F0 m 0 ls []) := by
  unfold wL_schedules_0 at hw
  obtain ⟨hx, hb, hml, hown, hts, hr, hlocks, hnm, hK, hG, hfl⟩ := id hX
  have hown : s.vm.findClass RL = some m.cls := hown
  refine lv_iload_n hx hb dL_schedules_0 rfl (lv_at hl 2 rfl) ?_
  refine lv_iconst (v := (2)) hx hb dL_schedules_1 (by decide) ?_
  refine lv_irem hx hb dL_schedules_2 (by decide) ?_
  refine lv_if_ne (tgt := 17) hx hb dL_schedules_3 (by decide) (fun hc => ?_) (fun hc => ?_)
  · have hw := hw.1 hc
    refine lv_iconst (v := (-1)) hx hb dL_schedules_17 (by decide) ?_
    refine lv_iload_n hx hb dL_schedules_18 rfl (lv_at hl 2 rfl) ?_
    refine lv_iconst (v := (2)) hx hb dL_schedules_19 (by decide) ?_
    refine lv_idiv hx hb dL_schedules_20 (by decide) ?_
    refine lv_ldc (v := (1000000)) hx hb hown (hts (.constant RL 86 (1000000)) (List.mem_of_getElem? (i := 1) (by decide +kernel))) dL_schedules_21 ?_
    refine lv_irem hx hb dL_schedules_23 (by decide) ?_
    refine lv_isub hx hb dL_schedules_24 ?_
    exact kL_schedules_25 hX  hw hI (lv_sub hl [0, 1, 2, 3, 4] rfl) (by omega) (by omega)
  · have hw := hw.2 hc
    refine lv_iconst (v := (1)) hx hb dL_schedules_6 (by decide) ?_
    refine lv_iload_n hx hb dL_schedules_7 rfl (lv_at hl 2 rfl) ?_
    refine lv_iconst (v := (2)) hx hb dL_schedules_8 (by decide) ?_
    refine lv_idiv hx hb dL_schedules_9 (by decide) ?_
    refine lv_ldc (v := (1000000)) hx hb hown (hts (.constant RL 86 (1000000)) (List.mem_of_getElem? (i := 1) (by decide +kernel))) dL_schedules_10 ?_
    refine lv_irem hx hb dL_schedules_12 (by decide) ?_
    refine lv_iadd hx hb dL_schedules_13 ?_
    refine lv_goto (tgt := 25) hx hb dL_schedules_14 (by decide) ?_
    exact kL_schedules_25 hX  hw hI (lv_sub hl [0, 1, 2, 3, 4] rfl) (by omega) (by omega)
set_option maxHeartbeats 4000000 in
set_option maxRecDepth 100000 in
theorem kL_schedules (l : Launch) (hfl : l.stackTraces = false) (D : jD) (z : Nat × Nat) (x0 : Option Nat) (x1 : Int32) (x2 : Int32) (x3 : Int32) (x4 : Int32) (μ : jM) (sz : Nat) (Q : Int32 → jM → Prop) : Met l yL_schedules wsL_schedules rmL_schedules (jPre2z D z μ sz [va_rf x0, .int x1, .int x2, .int x3, .int x4] (wL_schedules z x0 x1 x2 x3 x4 μ Q)) (jRz jfI Q D z (jA z μ sz)) 2 39 (jA z μ sz) := by
  refine Met.ofW (cc := cL_schedules) (maxL := 10) (ret := (some .boolean)) (by decide) rfl ?_
  intro p e s m args below meth c s₁ B hml hv
  obtain ⟨rfl, hsz, hH, hz0, hK, hG, hw⟩ := hv
  subst hsz
  have hX : jX2 D z (jA z μ s.heap.size) p l s m _ meth c yL_schedules cL_schedules 10 wsL_schedules (some .boolean) := ⟨B.exec, B.bytes, hml, findClass_of_methodNamed B.named, atoms_spec (ws := wsL_schedules) B.pre, B.returns, B.notSynchronized, (name_of_methodNamed B.named B.method).1, hK, hG, hfl⟩
  obtain ⟨ls, hg, hl⟩ : ∃ ls : Array Slot, entryFrame m ([va_rf x0, .int x1, .int x2, .int x3, .int x4] : List Value).toArray 10 = F0 m 0 ls [] ∧ lv_has ls 10 [(0, va_rf x0), (1, .int x1), (2, .int x2), (3, .int x3), (4, .int x4)] := by
    cases x0 <;> exact ⟨_, lg_entry_eq .., lv_entry _ (n := 10) (Nat.le_of_ble_eq_true rfl)⟩
  rw [hg]
  exact kL_schedules_0 hX hw (jIz.start hH hz0) (lv_sub hl [0, 1, 2, 3, 4] rfl) (by decide) (by decide)
set_option maxHeartbeats 4000000 in
set_option maxRecDepth 100000 in
theorem kL_desk_276 {b L : Nat} {xs : Nat → Int32} (hX : jX2 D z A p l s m args meth c yL_desk cL_desk 11 wsL_desk (some .boolean)) (hS : jXS b L xs A s s.heap) {Q : Int32 → jM → Prop} {capC capS : Nat} {K45 : Int32 → Option Nat → Option Nat → Option Nat → Int32 → Int32 → jM → Prop} (hK45 : ∀ {x1 : Int32} {x2 : Option Nat} {x3 : Option Nat} {x4 : Option Nat} {x5 : Int32} {x6 : Int32} {μ : jM} {H : Heap} {locs : List Loc} {ls : Array Slot} {cells slots : Nat}, K45 x1 x2 x3 x4 x5 x6 μ → jIz D z A s.heap μ H locs → lv_has ls 11 [(0, va_rf (some b)), (1, .int x1), (2, va_rf x2), (3, va_rf x3), (4, va_rf x4), (5, .int x5), (6, .int x6)] → cells + capC ≤ 863 → slots + capS ≤ 11716 → W p l e rmL_desk s m args below meth c H locs cells slots (MQ below (jRz jfI Q D z A) args s 863 11716 A) (F0 m 45 ls [])) {x1 : Int32} {x2 : Option Nat} {x3 : Option Nat} {x4 : Option Nat} {x5 : Int32} {x6 : Int32} {x10 : Int32} {μ : jM} {H : Heap} {locs : List Loc} {ls : Array Slot} {cells slots : Nat} (hw : wL_desk_276 z b K45 L xs Q x1 x2 x3 x4 x5 x6 x10 μ) (hI : jIz D z A s.heap μ H locs) (hl : lv_has ls 11 [(0, va_rf (some b)), (1, .int x1), (2, va_rf x2), (3, va_rf x3), (4, va_rf x4), (5, .int x5), (6, .int x6), (10, .int x10)]) (hcn : cells + 0 + capC ≤ 863) (hsn : slots + 0 + capS ≤ 11716) : W p l e rmL_desk s m args below meth c H locs cells slots (MQ below (jRz jfI Q D z A) args s 863 11716 A) (F0 m 276 ls []) := by
  unfold wL_desk_276 at hw
  obtain ⟨hx, hb, hml, hown, hts, hr, hlocks, hnm, hK, hG, hfl⟩ := id hX
  have hown : s.vm.findClass RL = some m.cls := hown
  refine lv_iload hx hb dL_desk_276 (lv_at hl 7 rfl) ?_
  refine lv_if_ne (tgt := 283) hx hb dL_desk_278 (by decide) (fun hc => ?_) (fun hc => ?_)
  · have hw := hw.1 hc
    obtain ⟨v1, ev1⟩ : ∃ y : Int32, y = x6 + (1 : Int32) := ⟨_, rfl⟩
    have hw := hw v1 ev1
    refine lv_iinc (v := v1) (lv' := [(6, .int v1), (0, va_rf (some b)), (1, .int x1), (2, va_rf x2), (3, va_rf x3), (4, va_rf x4), (5, .int x5), (10, .int x10)]) hx hb dL_desk_283 hl (k := 6) rfl (by rw [ev1]; rfl) (by decide) rfl (fun ls hl => ?_)
    refine lv_goto (tgt := 45) hx hb dL_desk_286 (by decide) ?_
    exact hK45 hw hI (lv_sub hl [1, 2, 3, 4, 5, 6, 0] rfl) (by omega) (by omega)
  · have hw := hw.2 hc
    refine lv_iconst (v := (0)) hx hb dL_desk_281 (by decide) ?_
    exact j_zretz hx hb hr rfl hlocks hI hw (by omega) (by omega) dL_desk_282
set_option maxHeartbeats 4000000 in
set_option maxRecDepth 100000 in
theorem kL_desk_215 {b L : Nat} {xs : Nat → Int32} (hX : jX2 D z A p l s m args meth c yL_desk cL_desk 11 wsL_desk (some .boolean)) (hS : jXS b L xs A s s.heap) {Q : Int32 → jM → Prop} {capC capS : Nat} {K45 : Int32 → Option Nat → Option Nat → Option Nat → Int32 → Int32 → jM → Prop} (hK45 : ∀ {x1 : Int32} {x2 : Option Nat} {x3 : Option Nat} {x4 : Option Nat} {x5 : Int32} {x6 : Int32} {μ : jM} {H : Heap} {locs : List Loc} {ls : Array Slot} {cells slots : Nat}, K45 x1 x2 x3 x4 x5 x6 μ → jIz D z A s.heap μ H locs → lv_has ls 11 [(0, va_rf (some b)), (1, .int x1), (2, va_rf x2), (3, va_rf x3), (4, va_rf x4), (5, .int x5), (6, .int x6)] → cells + capC ≤ 863 → slots + capS ≤ 11716 → W p l e rmL_desk s m args below meth c H locs cells slots (MQ below (jRz jfI Q D z A) args s 863 11716 A) (F0 m 45 ls [])) {x1 : Int32} {x2 : Option Nat} {x3 : Option Nat} {x4 : Option Nat} {x5 : Int32} {x6 : Int32} {x7 : Int32} {x8 : Int32} {t0 : Int32} {μ : jM} {H : Heap} {locs : List Loc} {ls : Array Slot} {cells slots : Nat} (hw : wL_desk_215 z b K45 L xs Q x1 x2 x3 x4 x5 x6 x7 x8 t0 μ) (hI : jIz D z A s.heap μ H locs) (hl : lv_has ls 11 [(0, va_rf (some b)), (1, .int x1), (2, va_rf x2), (3, va_rf x3), (4, va_rf x4), (5, .int x5), (6, .int x6), (7, .int x7), (8, .int x8)]) (hcn : cells + 2 + capC ≤ 863) (hsn : slots + 39 + capS ≤ 11716) : W p l e rmL_desk s m args below meth c H locs cells slots (MQ below (jRz jfI Q D z A) args s 863 11716 A) (F0 m 215 ls [.int t0]) := by
  unfold wL_desk_215 at hw
  obtain ⟨hx, hb, hml, hown, hts, hr, hlocks, hnm, hK, hG, hfl⟩ := id hX
  have hown : s.vm.findClass RL = some m.cls := hown
  refine lv_istore (lv' := [(10, .int t0), (0, va_rf (some b)), (1, .int x1), (2, va_rf x2), (3, va_rf x3), (4, va_rf x4), (5, .int x5), (6, .int x6), (7, .int x7), (8, .int x8)]) hx hb dL_desk_215 hl (by decide) rfl (fun ls hl => ?_)
  refine lv_iload hx hb dL_desk_217 (lv_at hl 7 rfl) ?_
  refine lv_iconst (v := (4)) hx hb dL_desk_219 (by decide) ?_
  refine lv_irem hx hb dL_desk_220 (by decide) ?_
  refine lv_iconst (v := (3)) hx hb dL_desk_221 (by decide) ?_
  refine lv_icmp_ne (tgt := 276) hx hb dL_desk_222 (by decide) (fun hc => ?_) (fun hc => ?_)
  · have hw := hw.1 hc
    exact kL_desk_276 hX hS hK45 hw hI (lv_sub hl [1, 2, 3, 4, 5, 6, 7, 0] rfl) (by omega) (by omega)
  · have hw := hw.2 hc
    refine lv_iload hx hb dL_desk_225 (lv_at hl 6 rfl) ?_
    refine lv_bipush (v := (20)) hx hb dL_desk_227 (by decide) ?_
    refine lv_icmp_ge (tgt := 276) hx hb dL_desk_229 (by decide) (fun hc => ?_) (fun hc => ?_)
    · have hw := hw.1 hc
      exact kL_desk_276 hX hS hK45 hw hI (lv_sub hl [1, 2, 3, 4, 5, 6, 7, 0] rfl) (by omega) (by omega)
    · have hw := hw.2 hc
      refine j_aload_n (r := x2) hx hb dL_desk_232 rfl (lv_at hl 3 rfl) ?_
      obtain ⟨b3, ⟨hrb3, hfs⟩, hw⟩ := hw
      refine j_goz hI (va_runV (As := []) (rest := []) ⟨hx, hb, hml, hown, hts⟩ (kX9_today l hfl D z b3  μ H.size _) (cwV 0 hts gL_desk_X9_today rfl rfl rfl (by decide +kernel) ⟨Nat.le_of_ble_eq_true rfl, Nat.le_of_ble_eq_true rfl⟩) (j_prV2z hK hG hI hw (ci := 11) rfl hfs) rfl rfl hl.1 (by rw [hrb3]; rfl) (lv_room (Nat.le_of_ble_eq_true rfl)) dL_desk_233 ⟨by show _ ≤ 863; omega, by show _ ≤ 11716; omega⟩) (fun v1 μ2 H locs hw hI => ?_)
      refine W.eq (g2 := F0 m 236 ls [.int v1]) rfl ?_
      refine lv_bipush (v := (19)) hx hb dL_desk_236 (by decide) ?_
      refine lv_iadd hx hb dL_desk_238 ?_
      refine lv_sipush (v := (450)) hx hb dL_desk_239 (by decide) ?_
      refine lv_icmp_gt (tgt := 276) hx hb dL_desk_242 (by decide) (fun hc => ?_) (fun hc => ?_)
      · have hw := hw.1 hc
        exact kL_desk_276 hX hS hK45 hw hI (lv_sub hl [1, 2, 3, 4, 5, 6, 7, 0] rfl) (by omega) (by omega)
      · have hw := hw.2 hc
        refine lv_iload hx hb dL_desk_245 (lv_at hl 0 rfl) ?_
        refine lv_if_eq (tgt := 276) hx hb dL_desk_247 (by decide) (fun hc => ?_) (fun hc => ?_)
        · have hw := hw.1 hc
          exact kL_desk_276 hX hS hK45 hw hI (lv_sub hl [1, 2, 3, 4, 5, 6, 7, 0] rfl) (by omega) (by omega)
        · have hw := hw.2 hc
          refine j_aload_n (r := x2) hx hb dL_desk_250 rfl (lv_at hl 3 rfl) ?_
          refine lv_iload hx hb dL_desk_251 (lv_at hl 9 rfl) ?_
          refine j_aload_n (r := x3) hx hb dL_desk_253 rfl (lv_at hl 4 rfl) ?_
          refine lv_iconst (v := (0)) hx hb dL_desk_254 (by decide) ?_
          obtain ⟨v4, hv4, hw⟩ := hw
          refine j_ialdz (r := x3) hx hb hK hI hv4 dL_desk_255 ?_
          obtain ⟨h5, hw⟩ := hw
          refine lv_irem hx hb dL_desk_256 h5 ?_
          refine lv_iload hx hb dL_desk_257 (lv_at hl 8 rfl) ?_
          refine lv_iconst (v := (3)) hx hb dL_desk_259 (by decide) ?_
          refine lv_idiv hx hb dL_desk_260 (by decide) ?_
          refine lv_iload hx hb dL_desk_261 (lv_at hl 9 rfl) ?_
          refine lv_bipush (v := (10)) hx hb dL_desk_263 (by decide) ?_
          refine lv_idiv hx hb dL_desk_265 (by decide) ?_
          refine lv_iload hx hb dL_desk_266 (lv_at hl 6 rfl) ?_
          refine j_goz hI (va_runS (As := [va_rf x2, .int (x8 - x8 / v4 * v4), .int (x7 / (3 : Int32)), .int (x8 / (10 : Int32)), .int x5]) (rest := []) ⟨hx, hb, hml, hown, hts⟩ (kL_schedules l hfl D z x2 (x8 - x8 / v4 * v4) (x7 / (3 : Int32)) (x8 / (10 : Int32)) x5 μ2 H.size _) (va_cwS 5 hts gL_desk_L_schedules rfl rfl rfl (by decide +kernel) ⟨Nat.le_of_ble_eq_true rfl, Nat.le_of_ble_eq_true rfl⟩) (j_prS2z hK hG hI hw) rfl rfl hl.1 rfl (lv_room (Nat.le_of_ble_eq_true rfl)) dL_desk_268 ⟨by show _ ≤ 863; omega, by show _ ≤ 11716; omega⟩) (fun v6 μ7 H locs hw hI => ?_)
          refine W.eq (g2 := F0 m 271 ls [.int v6]) rfl ?_
          refine lv_istore (lv' := [(10, .int v6), (0, va_rf (some b)), (1, .int x1), (2, va_rf x2), (3, va_rf x3), (4, va_rf x4), (5, .int x5), (6, .int x6), (7, .int x7), (8, .int x8)]) hx hb dL_desk_271 hl (by decide) rfl (fun ls hl => ?_)
          obtain ⟨v8, ev8⟩ : ∃ y : Int32, y = x5 + (1 : Int32) := ⟨_, rfl⟩
          have hw := hw v8 ev8
          refine j_iincA (r := x4) (F := fun w => [(10, .int v6), (0, va_rf (some b)), (1, .int x1), (2, va_rf x2), (3, va_rf x3), (4, w), (5, .int x5), (6, .int x6), (7, .int x7), (8, .int x8)]) (F2 := fun w => [(5, .int v8), (10, .int v6), (0, va_rf (some b)), (1, .int x1), (2, va_rf x2), (3, va_rf x3), (4, w), (6, .int x6), (7, .int x7), (8, .int x8)]) (v := v8) hx hb dL_desk_273 hl (k := 6) (fun _ => rfl) (by rw [ev8]; rfl) (by decide) (fun w hw => by rcases hw with rfl | ⟨_, rfl⟩ <;> rfl) (fun ls hl => ?_)
          exact kL_desk_276 hX hS hK45 hw hI (lv_sub hl [2, 3, 4, 5, 6, 0, 7, 1] rfl) (by omega) (by omega)
set_option maxHeartbeats 4000000 in
set_option maxRecDepth 100000 in
theorem kL_desk_214 {b L : Nat} {xs : Nat → Int32} (hX : jX2 D z A p l s m args meth c yL_desk cL_desk 11 wsL_desk (some .boolean)) (hS : jXS b L xs A s s.heap) {Q : Int32 → jM → Prop} {capC capS : Nat} {K45 : Int32 → Option Nat → Option Nat → Option Nat → Int32 → Int32 → jM → Prop} (hK45 : ∀ {x1 : Int32} {x2 : Option Nat} {x3 : Option Nat} {x4 : Option Nat} {x5 : Int32} {x6 : Int32} {μ : jM} {H : Heap} {locs : List Loc} {ls : Array Slot} {cells slots : Nat}, K45 x1 x2 x3 x4 x5 x6 μ → jIz D z A s.heap μ H locs → lv_has ls 11 [(0, va_rf (some b)), (1, .int x1), (2, va_rf x2), (3, va_rf x3), (4, va_rf x4), (5, .int x5), (6, .int x6)] → cells + capC ≤ 863 → slots + capS ≤ 11716 → W p l e rmL_desk s m args below meth c H locs cells slots (MQ below (jRz jfI Q D z A) args s 863 11716 A) (F0 m 45 ls [])) {x1 : Int32} {x2 : Option Nat} {x3 : Option Nat} {x4 : Option Nat} {x5 : Int32} {x6 : Int32} {x7 : Int32} {x8 : Int32} {μ : jM} {H : Heap} {locs : List Loc} {ls : Array Slot} {cells slots : Nat} (hw : wL_desk_214 z b K45 L xs Q x1 x2 x3 x4 x5 x6 x7 x8 μ) (hI : jIz D z A s.heap μ H locs) (hl : lv_has ls 11 [(0, va_rf (some b)), (1, .int x1), (2, va_rf x2), (3, va_rf x3), (4, va_rf x4), (5, .int x5), (6, .int x6), (7, .int x7), (8, .int x8)]) (hcn : cells + 2 + capC ≤ 863) (hsn : slots + 39 + capS ≤ 11716) : W p l e rmL_desk s m args below meth c H locs cells slots (MQ below (jRz jfI Q D z A) args s 863 11716 A) (F0 m 214 ls []) := by
  unfold wL_desk_214 at hw
  obtain ⟨hx, hb, hml, hown, hts, hr, hlocks, hnm, hK, hG, hfl⟩ := id hX
  have hown : s.vm.findClass RL = some m.cls := hown
  refine lv_iconst (v := (0)) hx hb dL_desk_214 (by decide) ?_
  exact kL_desk_215 hX hS hK45 hw hI (lv_sub hl [0, 1, 2, 3, 4, 5, 6, 7, 8] rfl) (by omega) (by omega)
set_option maxHeartbeats 4000000 in
set_option maxRecDepth 100000 in
theorem kL_desk_140 {b L : Nat} {xs : Nat → Int32} (hX : jX2 D z A p l s m args meth c yL_desk cL_desk 11 wsL_desk (some .boolean)) (hS : jXS b L xs A s s.heap) {Q : Int32 → jM → Prop} {capC capS : Nat} {K45 : Int32 → Option Nat → Option Nat → Option Nat → Int32 → Int32 → jM → Prop} (hK45 : ∀ {x1 : Int32} {x2 : Option Nat} {x3 : Option Nat} {x4 : Option Nat} {x5 : Int32} {x6 : Int32} {μ : jM} {H : Heap} {locs : List Loc} {ls : Array Slot} {cells slots : Nat}, K45 x1 x2 x3 x4 x5 x6 μ → jIz D z A s.heap μ H locs → lv_has ls 11 [(0, va_rf (some b)), (1, .int x1), (2, va_rf x2), (3, va_rf x3), (4, va_rf x4), (5, .int x5), (6, .int x6)] → cells + capC ≤ 863 → slots + capS ≤ 11716 → W p l e rmL_desk s m args below meth c H locs cells slots (MQ below (jRz jfI Q D z A) args s 863 11716 A) (F0 m 45 ls [])) {x1 : Int32} {x2 : Option Nat} {x3 : Option Nat} {x4 : Option Nat} {x5 : Int32} {x6 : Int32} {x7 : Int32} {x8 : Int32} {t0 : Int32} {μ : jM} {H : Heap} {locs : List Loc} {ls : Array Slot} {cells slots : Nat} (hw : wL_desk_140 z b K45 L xs Q x1 x2 x3 x4 x5 x6 x7 x8 t0 μ) (hI : jIz D z A s.heap μ H locs) (hl : lv_has ls 11 [(0, va_rf (some b)), (1, .int x1), (2, va_rf x2), (3, va_rf x3), (4, va_rf x4), (5, .int x5), (6, .int x6), (7, .int x7), (8, .int x8)]) (hcn : cells + 20 + capC ≤ 863) (hsn : slots + 261 + capS ≤ 11716) : W p l e rmL_desk s m args below meth c H locs cells slots (MQ below (jRz jfI Q D z A) args s 863 11716 A) (F0 m 140 ls [.int t0]) := by
  unfold wL_desk_140 at hw
  obtain ⟨hx, hb, hml, hown, hts, hr, hlocks, hnm, hK, hG, hfl⟩ := id hX
  have hown : s.vm.findClass RL = some m.cls := hown
  refine lv_istore (lv' := [(9, .int t0), (0, va_rf (some b)), (1, .int x1), (2, va_rf x2), (3, va_rf x3), (4, va_rf x4), (5, .int x5), (6, .int x6), (7, .int x7), (8, .int x8)]) hx hb dL_desk_140 hl (by decide) rfl (fun ls hl => ?_)
  refine j_aload_n (r := x2) hx hb dL_desk_142 rfl (lv_at hl 3 rfl) ?_
  refine lv_iload hx hb dL_desk_143 (lv_at hl 0 rfl) ?_
  refine lv_iload hx hb dL_desk_145 (lv_at hl 8 rfl) ?_
  refine lv_iload hx hb dL_desk_147 (lv_at hl 9 rfl) ?_
  refine j_aload_n (r := x3) hx hb dL_desk_149 rfl (lv_at hl 4 rfl) ?_
  refine j_aload (r := x4) hx hb dL_desk_150 (lv_at hl 5 rfl) ?_
  refine j_goz hI (va_runS (As := [va_rf x2, .int t0, .int x7, .int x8, va_rf x3, va_rf x4]) (rest := []) ⟨hx, hb, hml, hown, hts⟩ (kL_step l hfl D z x2 t0 x7 x8 x3 x4 μ H.size _) (va_cwS 6 hts gL_desk_L_step rfl rfl rfl (by decide +kernel) ⟨Nat.le_of_ble_eq_true rfl, Nat.le_of_ble_eq_true rfl⟩) (j_prS2z hK hG hI hw) rfl rfl hl.1 rfl (lv_room (Nat.le_of_ble_eq_true rfl)) dL_desk_152 ⟨by show _ ≤ 863; omega, by show _ ≤ 11716; omega⟩) (fun v1 μ2 H locs hw hI => ?_)
  refine W.eq (g2 := F0 m 155 ls [.int v1]) rfl ?_
  refine lv_if_eq (tgt := 214) hx hb dL_desk_155 (by decide) (fun hc => ?_) (fun hc => ?_)
  · have hw := hw.1 hc
    exact kL_desk_214 hX hS hK45 hw hI (lv_sub hl [1, 2, 3, 4, 5, 6, 7, 8, 9] rfl) (by omega) (by omega)
  · have hw := hw.2 hc
    refine j_aload_n (r := x2) hx hb dL_desk_158 rfl (lv_at hl 3 rfl) ?_
    refine j_aload_n (r := x3) hx hb dL_desk_159 rfl (lv_at hl 4 rfl) ?_
    refine j_goz hI (va_runS (As := [va_rf x2, va_rf x3]) (rest := []) ⟨hx, hb, hml, hown, hts⟩ (kL_areSums l hfl D z x2 x3 μ2 H.size _) (va_cwS 2 hts gL_desk_L_areSums rfl rfl rfl (by decide +kernel) ⟨Nat.le_of_ble_eq_true rfl, Nat.le_of_ble_eq_true rfl⟩) (j_prS2z hK hG hI hw) rfl rfl hl.1 rfl (lv_room (Nat.le_of_ble_eq_true rfl)) dL_desk_160 ⟨by show _ ≤ 863; omega, by show _ ≤ 11716; omega⟩) (fun v3 μ4 H locs hw hI => ?_)
    refine W.eq (g2 := F0 m 163 ls [.int v3]) rfl ?_
    refine lv_if_eq (tgt := 214) hx hb dL_desk_163 (by decide) (fun hc => ?_) (fun hc => ?_)
    · have hw := hw.1 hc
      exact kL_desk_214 hX hS hK45 hw hI (lv_sub hl [1, 2, 3, 4, 5, 6, 7, 8, 9] rfl) (by omega) (by omega)
    · have hw := hw.2 hc
      refine j_aload_n (r := x2) hx hb dL_desk_166 rfl (lv_at hl 3 rfl) ?_
      refine j_aload_n (r := x3) hx hb dL_desk_167 rfl (lv_at hl 4 rfl) ?_
      refine j_goz hI (va_runS (As := [va_rf x2, va_rf x3]) (rest := []) ⟨hx, hb, hml, hown, hts⟩ (kL_areExposed l hfl D z x2 x3 μ4 H.size _) (va_cwS 2 hts gL_desk_L_areExposed rfl rfl rfl (by decide +kernel) ⟨Nat.le_of_ble_eq_true rfl, Nat.le_of_ble_eq_true rfl⟩) (j_prS2z hK hG hI hw) rfl rfl hl.1 rfl (lv_room (Nat.le_of_ble_eq_true rfl)) dL_desk_168 ⟨by show _ ≤ 863; omega, by show _ ≤ 11716; omega⟩) (fun v5 μ6 H locs hw hI => ?_)
      refine W.eq (g2 := F0 m 171 ls [.int v5]) rfl ?_
      refine lv_if_eq (tgt := 214) hx hb dL_desk_171 (by decide) (fun hc => ?_) (fun hc => ?_)
      · have hw := hw.1 hc
        exact kL_desk_214 hX hS hK45 hw hI (lv_sub hl [1, 2, 3, 4, 5, 6, 7, 8, 9] rfl) (by omega) (by omega)
      · have hw := hw.2 hc
        refine j_aload_n (r := x2) hx hb dL_desk_174 rfl (lv_at hl 3 rfl) ?_
        refine j_aload_n (r := x3) hx hb dL_desk_175 rfl (lv_at hl 4 rfl) ?_
        refine j_goz hI (va_runS (As := [va_rf x2, va_rf x3]) (rest := []) ⟨hx, hb, hml, hown, hts⟩ (kL_areLines l hfl D z x2 x3 μ6 H.size _) (va_cwS 2 hts gL_desk_L_areLines rfl rfl rfl (by decide +kernel) ⟨Nat.le_of_ble_eq_true rfl, Nat.le_of_ble_eq_true rfl⟩) (j_prS2z hK hG hI hw) rfl rfl hl.1 rfl (lv_room (Nat.le_of_ble_eq_true rfl)) dL_desk_176 ⟨by show _ ≤ 863; omega, by show _ ≤ 11716; omega⟩) (fun v7 μ8 H locs hw hI => ?_)
        refine W.eq (g2 := F0 m 179 ls [.int v7]) rfl ?_
        refine lv_if_eq (tgt := 214) hx hb dL_desk_179 (by decide) (fun hc => ?_) (fun hc => ?_)
        · have hw := hw.1 hc
          exact kL_desk_214 hX hS hK45 hw hI (lv_sub hl [1, 2, 3, 4, 5, 6, 7, 8, 9] rfl) (by omega) (by omega)
        · have hw := hw.2 hc
          refine j_aload_n (r := x2) hx hb dL_desk_182 rfl (lv_at hl 3 rfl) ?_
          refine j_aload_n (r := x3) hx hb dL_desk_183 rfl (lv_at hl 4 rfl) ?_
          refine j_goz hI (va_runS (As := [va_rf x2, va_rf x3]) (rest := []) ⟨hx, hb, hml, hown, hts⟩ (kL_isSwept l hfl D z x2 x3 μ8 H.size _) (va_cwS 2 hts gL_desk_L_isSwept rfl rfl rfl (by decide +kernel) ⟨Nat.le_of_ble_eq_true rfl, Nat.le_of_ble_eq_true rfl⟩) (j_prS2z hK hG hI hw) rfl rfl hl.1 rfl (lv_room (Nat.le_of_ble_eq_true rfl)) dL_desk_184 ⟨by show _ ≤ 863; omega, by show _ ≤ 11716; omega⟩) (fun v9 μ10 H locs hw hI => ?_)
          refine W.eq (g2 := F0 m 187 ls [.int v9]) rfl ?_
          refine lv_if_eq (tgt := 214) hx hb dL_desk_187 (by decide) (fun hc => ?_) (fun hc => ?_)
          · have hw := hw.1 hc
            exact kL_desk_214 hX hS hK45 hw hI (lv_sub hl [1, 2, 3, 4, 5, 6, 7, 8, 9] rfl) (by omega) (by omega)
          · have hw := hw.2 hc
            refine j_aload_n (r := x2) hx hb dL_desk_190 rfl (lv_at hl 3 rfl) ?_
            refine lv_iload hx hb dL_desk_191 (lv_at hl 8 rfl) ?_
            refine j_aload_n (r := x3) hx hb dL_desk_193 rfl (lv_at hl 4 rfl) ?_
            refine lv_iconst (v := (0)) hx hb dL_desk_194 (by decide) ?_
            obtain ⟨v11, hv11, hw⟩ := hw
            refine j_ialdz (r := x3) hx hb hK hI hv11 dL_desk_195 ?_
            obtain ⟨h12, hw⟩ := hw
            refine lv_irem hx hb dL_desk_196 h12 ?_
            refine lv_iload hx hb dL_desk_197 (lv_at hl 8 rfl) ?_
            refine lv_bipush (v := (10)) hx hb dL_desk_199 (by decide) ?_
            refine lv_idiv hx hb dL_desk_201 (by decide) ?_
            refine lv_iload hx hb dL_desk_202 (lv_at hl 9 rfl) ?_
            refine j_goz hI (va_runS (As := [va_rf x2, .int (x7 - x7 / v11 * v11), .int (x7 / (10 : Int32)), .int x8]) (rest := []) ⟨hx, hb, hml, hown, hts⟩ (kL_areDays l hfl D z x2 (x7 - x7 / v11 * v11) (x7 / (10 : Int32)) x8 μ10 H.size _) (va_cwS 4 hts gL_desk_L_areDays rfl rfl rfl (by decide +kernel) ⟨Nat.le_of_ble_eq_true rfl, Nat.le_of_ble_eq_true rfl⟩) (j_prS2z hK hG hI hw) rfl rfl hl.1 rfl (lv_room (Nat.le_of_ble_eq_true rfl)) dL_desk_204 ⟨by show _ ≤ 863; omega, by show _ ≤ 11716; omega⟩) (fun v13 μ14 H locs hw hI => ?_)
            refine W.eq (g2 := F0 m 207 ls [.int v13]) rfl ?_
            refine lv_if_eq (tgt := 214) hx hb dL_desk_207 (by decide) (fun hc => ?_) (fun hc => ?_)
            · have hw := hw.1 hc
              exact kL_desk_214 hX hS hK45 hw hI (lv_sub hl [1, 2, 3, 4, 5, 6, 7, 8, 9] rfl) (by omega) (by omega)
            · have hw := hw.2 hc
              refine lv_iconst (v := (1)) hx hb dL_desk_210 (by decide) ?_
              refine lv_goto (tgt := 215) hx hb dL_desk_211 (by decide) ?_
              exact kL_desk_215 hX hS hK45 hw hI (lv_sub hl [1, 2, 3, 4, 5, 6, 7, 8, 9] rfl) (by omega) (by omega)
set_option maxHeartbeats 4000000 in
set_option maxRecDepth 100000 in
theorem kL_desk_45 {b L : Nat} {xs : Nat → Int32} (hX : jX2 D z A p l s m args meth c yL_desk cL_desk 11 wsL_desk (some .boolean)) (hS : jXS b L xs A s s.heap) {Q : Int32 → jM → Prop}  (n : Nat) : ∀ {x1 : Int32} {x2 : Option Nat} {x3 : Option Nat} {x4 : Option Nat} {x5 : Int32} {x6 : Int32} {μ : jM} {H : Heap} {locs : List Loc} {ls : Array Slot} {cells slots : Nat}, wL_desk_45 z b L xs Q n x1 x2 x3 x4 x5 x6 μ → jIz D z A s.heap μ H locs → lv_has ls 11 [(0, va_rf (some b)), (1, .int x1), (2, va_rf x2), (3, va_rf x3), (4, va_rf x4), (5, .int x5), (6, .int x6)] → cells + n * 20 + 20 ≤ 863 → slots + n * 261 + 261 ≤ 11716 → W p l e rmL_desk s m args below meth c H locs cells slots (MQ below (jRz jfI Q D z A) args s 863 11716 A) (F0 m 45 ls []) := by
  induction n with
  | zero =>
    intros
    rename_i hw _ _ _ _
    exact (show False from hw).elim
  | succ n ih =>
    intro x1 x2 x3 x4 x5 x6 μ H locs ls cells slots hw hI hl hcn hsn
    have hw : wL_desk_45_b z b L xs Q (wL_desk_45 z b L xs Q n) x1 x2 x3 x4 x5 x6 μ := hw
    unfold wL_desk_45_b at hw
    obtain ⟨hx, hb, hml, hown, hts, hr, hlocks, hnm, hK, hG, hfl⟩ := id hX
    have hown : s.vm.findClass RL = some m.cls := hown
    refine lv_iload hx hb dL_desk_45 (lv_at hl 6 rfl) ?_
    refine lv_bipush (v := (40)) hx hb dL_desk_47 (by decide) ?_
    refine lv_icmp_ge (tgt := 289) hx hb dL_desk_49 (by decide) (fun hc => ?_) (fun hc => ?_)
    · have hw := hw.1 hc
      refine lv_iconst (v := (1)) hx hb dL_desk_289 (by decide) ?_
      exact j_zretz hx hb hr rfl hlocks hI hw (by omega) (by omega) dL_desk_290
    · have hw := hw.2 hc
      refine j_aload_n (r := (some b)) hx hb dL_desk_52 rfl (lv_at hl 0 rfl) ?_
      refine lv_iload_n hx hb dL_desk_53 rfl (lv_at hl 1 rfl) ?_
      refine lv_iconst (v := (3)) hx hb dL_desk_54 (by decide) ?_
      refine lv_iload hx hb dL_desk_55 (lv_at hl 6 rfl) ?_
      refine lv_imul hx hb dL_desk_57 ?_
      refine lv_iadd hx hb dL_desk_58 ?_
      refine lv_iconst (v := (1)) hx hb dL_desk_59 (by decide) ?_
      refine lv_iadd hx hb dL_desk_60 ?_
      refine lv_ldc (v := (1073741824)) hx hb hown (hts (.constant RL 146 (1073741824)) (List.mem_of_getElem? (i := 5) (by decide +kernel))) dL_desk_61 ?_
      refine j_goz hI (va_runS (As := [va_rf (some b), .int ((x1 + ((3 : Int32) * x6)) + (1 : Int32)), .int (1073741824 : Int32)]) (rest := []) ⟨hx, hb, hml, hown, hts⟩ (kL_draw l hfl D z b ((x1 + ((3 : Int32) * x6)) + (1 : Int32)) (1073741824 : Int32) μ H.size L xs _) (va_cwS 3 hts gL_desk_L_draw rfl rfl rfl (by decide +kernel) ⟨Nat.le_of_ble_eq_true rfl, Nat.le_of_ble_eq_true rfl⟩) (j_preS hK hG hI hw hS) rfl rfl hl.1 rfl (lv_room (Nat.le_of_ble_eq_true rfl)) dL_desk_63 ⟨by show _ ≤ 863; omega, by show _ ≤ 11716; omega⟩) (fun v1 μ2 H locs hw hI => ?_)
      refine W.eq (g2 := F0 m 66 ls [.int v1]) rfl ?_
      refine lv_istore (lv' := [(7, .int v1), (0, va_rf (some b)), (1, .int x1), (2, va_rf x2), (3, va_rf x3), (4, va_rf x4), (5, .int x5), (6, .int x6)]) hx hb dL_desk_66 hl (by decide) rfl (fun ls hl => ?_)
      refine j_aload_n (r := (some b)) hx hb dL_desk_68 rfl (lv_at hl 1 rfl) ?_
      refine lv_iload_n hx hb dL_desk_69 rfl (lv_at hl 2 rfl) ?_
      refine lv_iconst (v := (3)) hx hb dL_desk_70 (by decide) ?_
      refine lv_iload hx hb dL_desk_71 (lv_at hl 7 rfl) ?_
      refine lv_imul hx hb dL_desk_73 ?_
      refine lv_iadd hx hb dL_desk_74 ?_
      refine lv_iconst (v := (2)) hx hb dL_desk_75 (by decide) ?_
      refine lv_iadd hx hb dL_desk_76 ?_
      refine lv_ldc (v := (1073741824)) hx hb hown (hts (.constant RL 146 (1073741824)) (List.mem_of_getElem? (i := 5) (by decide +kernel))) dL_desk_77 ?_
      refine j_goz hI (va_runS (As := [va_rf (some b), .int ((x1 + ((3 : Int32) * x6)) + (2 : Int32)), .int (1073741824 : Int32)]) (rest := []) ⟨hx, hb, hml, hown, hts⟩ (kL_draw l hfl D z b ((x1 + ((3 : Int32) * x6)) + (2 : Int32)) (1073741824 : Int32) μ2 H.size L xs _) (va_cwS 3 hts gL_desk_L_draw rfl rfl rfl (by decide +kernel) ⟨Nat.le_of_ble_eq_true rfl, Nat.le_of_ble_eq_true rfl⟩) (j_preS hK hG hI hw hS) rfl rfl hl.1 rfl (lv_room (Nat.le_of_ble_eq_true rfl)) dL_desk_79 ⟨by show _ ≤ 863; omega, by show _ ≤ 11716; omega⟩) (fun v3 μ4 H locs hw hI => ?_)
      refine W.eq (g2 := F0 m 82 ls [.int v3]) rfl ?_
      refine lv_istore (lv' := [(8, .int v3), (7, .int v1), (0, va_rf (some b)), (1, .int x1), (2, va_rf x2), (3, va_rf x3), (4, va_rf x4), (5, .int x5), (6, .int x6)]) hx hb dL_desk_82 hl (by decide) rfl (fun ls hl => ?_)
      refine lv_iload hx hb dL_desk_84 (lv_at hl 8 rfl) ?_
      refine lv_iconst (v := (4)) hx hb dL_desk_86 (by decide) ?_
      refine lv_icmp_ge (tgt := 94) hx hb dL_desk_87 (by decide) (fun hc => ?_) (fun hc => ?_)
      · have hw := hw.1 hc
        refine lv_iload hx hb dL_desk_94 (lv_at hl 8 rfl) ?_
        refine lv_bipush (v := (6)) hx hb dL_desk_96 (by decide) ?_
        refine lv_icmp_ge (tgt := 105) hx hb dL_desk_98 (by decide) (fun hc => ?_) (fun hc => ?_)
        · have hw := hw.1 hc
          refine lv_iload hx hb dL_desk_105 (lv_at hl 8 rfl) ?_
          refine lv_bipush (v := (6)) hx hb dL_desk_107 (by decide) ?_
          refine lv_icmp_ne (tgt := 116) hx hb dL_desk_109 (by decide) (fun hc => ?_) (fun hc => ?_)
          · have hw := hw.1 hc
            refine lv_iload hx hb dL_desk_116 (lv_at hl 8 rfl) ?_
            refine lv_bipush (v := (10)) hx hb dL_desk_118 (by decide) ?_
            refine lv_icmp_ge (tgt := 128) hx hb dL_desk_120 (by decide) (fun hc => ?_) (fun hc => ?_)
            · have hw := hw.1 hc
              refine j_aload_n (r := (some b)) hx hb dL_desk_128 rfl (lv_at hl 2 rfl) ?_
              refine lv_iload_n hx hb dL_desk_129 rfl (lv_at hl 3 rfl) ?_
              refine lv_iconst (v := (3)) hx hb dL_desk_130 (by decide) ?_
              refine lv_iload hx hb dL_desk_131 (lv_at hl 8 rfl) ?_
              refine lv_imul hx hb dL_desk_133 ?_
              refine lv_iadd hx hb dL_desk_134 ?_
              refine lv_bipush (v := (16)) hx hb dL_desk_135 (by decide) ?_
              refine j_goz hI (va_runS (As := [va_rf (some b), .int (x1 + ((3 : Int32) * x6)), .int (16 : Int32)]) (rest := []) ⟨hx, hb, hml, hown, hts⟩ (kL_draw l hfl D z b (x1 + ((3 : Int32) * x6)) (16 : Int32) μ4 H.size L xs _) (va_cwS 3 hts gL_desk_L_draw rfl rfl rfl (by decide +kernel) ⟨Nat.le_of_ble_eq_true rfl, Nat.le_of_ble_eq_true rfl⟩) (j_preS hK hG hI hw hS) rfl rfl hl.1 rfl (lv_room (Nat.le_of_ble_eq_true rfl)) dL_desk_137 ⟨by show _ ≤ 863; omega, by show _ ≤ 11716; omega⟩) (fun v5 μ6 H locs hw hI => ?_)
              refine W.eq (g2 := F0 m 140 ls [.int v5]) rfl ?_
              exact kL_desk_140 hX hS (capC := n * 20 + 20) (capS := n * 261 + 261) (fun hw hI hl hcn hsn => ih hw hI hl (by omega) (by omega)) hw hI (lv_sub hl [2, 3, 4, 5, 6, 7, 8, 1, 0] rfl) (by omega) (by omega)
            · have hw := hw.2 hc
              refine lv_bipush (v := (7)) hx hb dL_desk_123 (by decide) ?_
              refine lv_goto (tgt := 140) hx hb dL_desk_125 (by decide) ?_
              exact kL_desk_140 hX hS (capC := n * 20 + 20) (capS := n * 261 + 261) (fun hw hI hl hcn hsn => ih hw hI hl (by omega) (by omega)) hw hI (lv_sub hl [2, 3, 4, 5, 6, 7, 8, 1, 0] rfl) (by omega) (by omega)
          · have hw := hw.2 hc
            refine lv_iconst (v := (4)) hx hb dL_desk_112 (by decide) ?_
            refine lv_goto (tgt := 140) hx hb dL_desk_113 (by decide) ?_
            exact kL_desk_140 hX hS (capC := n * 20 + 20) (capS := n * 261 + 261) (fun hw hI hl hcn hsn => ih hw hI hl (by omega) (by omega)) hw hI (lv_sub hl [2, 3, 4, 5, 6, 7, 8, 1, 0] rfl) (by omega) (by omega)
        · have hw := hw.2 hc
          refine lv_iconst (v := (2)) hx hb dL_desk_101 (by decide) ?_
          refine lv_goto (tgt := 140) hx hb dL_desk_102 (by decide) ?_
          exact kL_desk_140 hX hS (capC := n * 20 + 20) (capS := n * 261 + 261) (fun hw hI hl hcn hsn => ih hw hI hl (by omega) (by omega)) hw hI (lv_sub hl [2, 3, 4, 5, 6, 7, 8, 1, 0] rfl) (by omega) (by omega)
      · have hw := hw.2 hc
        refine lv_iconst (v := (0)) hx hb dL_desk_90 (by decide) ?_
        refine lv_goto (tgt := 140) hx hb dL_desk_91 (by decide) ?_
        exact kL_desk_140 hX hS (capC := n * 20 + 20) (capS := n * 261 + 261) (fun hw hI hl hcn hsn => ih hw hI hl (by omega) (by omega)) hw hI (lv_sub hl [2, 3, 4, 5, 6, 7, 8, 1, 0] rfl) (by omega) (by omega)
set_option maxHeartbeats 4000000 in
set_option maxRecDepth 100000 in
theorem kL_desk_24 {b L : Nat} {xs : Nat → Int32} (hX : jX2 D z A p l s m args meth c yL_desk cL_desk 11 wsL_desk (some .boolean)) (hS : jXS b L xs A s s.heap) {Q : Int32 → jM → Prop}  (n : Nat) : ∀ {x1 : Int32} {x2 : Option Nat} {x3 : Option Nat} {x4 : Option Nat} {x5 : Int32} {x6 : Int32} {μ : jM} {H : Heap} {locs : List Loc} {ls : Array Slot} {cells slots : Nat}, wL_desk_24 z b L xs Q n x1 x2 x3 x4 x5 x6 μ → jIz D z A s.heap μ H locs → lv_has ls 11 [(0, va_rf (some b)), (1, .int x1), (2, va_rf x2), (3, va_rf x3), (4, va_rf x4), (5, .int x5), (6, .int x6)] → cells + 840 ≤ 863 → slots + 10962 ≤ 11716 → W p l e rmL_desk s m args below meth c H locs cells slots (MQ below (jRz jfI Q D z A) args s 863 11716 A) (F0 m 24 ls []) := by
  induction n with
  | zero =>
    intros
    rename_i hw _ _ _ _
    exact (show False from hw).elim
  | succ n ih =>
    intro x1 x2 x3 x4 x5 x6 μ H locs ls cells slots hw hI hl hcn hsn
    have hw : wL_desk_24_b z b L xs Q (wL_desk_24 z b L xs Q n) x1 x2 x3 x4 x5 x6 μ := hw
    unfold wL_desk_24_b at hw
    obtain ⟨hx, hb, hml, hown, hts, hr, hlocks, hnm, hK, hG, hfl⟩ := id hX
    have hown : s.vm.findClass RL = some m.cls := hown
    refine lv_iload hx hb dL_desk_24 (lv_at hl 6 rfl) ?_
    refine lv_iconst (v := (4)) hx hb dL_desk_26 (by decide) ?_
    refine lv_icmp_ge (tgt := 42) hx hb dL_desk_27 (by decide) (fun hc => ?_) (fun hc => ?_)
    · have hw := hw.1 hc
      refine lv_iconst (v := (0)) hx hb dL_desk_42 (by decide) ?_
      refine lv_topi (fun v1 ev1 => ?_)
      have hw := hw v1 ev1
      refine lv_istore (lv' := [(6, .int v1), (0, va_rf (some b)), (1, .int x1), (2, va_rf x2), (3, va_rf x3), (4, va_rf x4), (5, .int x5)]) hx hb dL_desk_43 hl (by decide) rfl (fun ls hl => ?_)
      obtain ⟨n2, hn, hw⟩ := hw
      exact kL_desk_45 hX hS  n2 hw hI (lv_sub hl [1, 2, 3, 4, 5, 6, 0] rfl) (by omega) (by omega)
    · have hw := hw.2 hc
      refine j_aload (r := x4) hx hb dL_desk_30 (lv_at hl 4 rfl) ?_
      refine lv_iload hx hb dL_desk_32 (lv_at hl 6 rfl) ?_
      refine lv_iconst (v := (-1)) hx hb dL_desk_34 (by decide) ?_
      obtain ⟨μ3, hμ3, hw⟩ := hw
      refine j_iastz (r := x4) hx hb hK hI hμ3 dL_desk_35 (fun H locs hI => ?_)
      obtain ⟨v4, ev4⟩ : ∃ y : Int32, y = x6 + (1 : Int32) := ⟨_, rfl⟩
      have hw := hw v4 ev4
      refine lv_iinc (v := v4) (lv' := [(6, .int v4), (0, va_rf (some b)), (1, .int x1), (2, va_rf x2), (3, va_rf x3), (4, va_rf x4), (5, .int x5)]) hx hb dL_desk_36 hl (k := 6) rfl (by rw [ev4]; rfl) (by decide) rfl (fun ls hl => ?_)
      refine lv_goto (tgt := 24) hx hb dL_desk_39 (by decide) ?_
      exact ih hw hI (lv_sub hl [1, 2, 3, 4, 5, 6, 0] rfl) (by omega) (by omega)
set_option maxHeartbeats 4000000 in
set_option maxRecDepth 100000 in
theorem kL_desk_0 {b L : Nat} {xs : Nat → Int32} (hX : jX2 D z A p l s m args meth c yL_desk cL_desk 11 wsL_desk (some .boolean)) (hS : jXS b L xs A s s.heap) {Q : Int32 → jM → Prop}  {x1 : Int32} {μ : jM} {H : Heap} {locs : List Loc} {ls : Array Slot} {cells slots : Nat} (hw : wL_desk_0 z b L xs Q x1 μ) (hI : jIz D z A s.heap μ H locs) (hl : lv_has ls 11 [(0, va_rf (some b)), (1, .int x1)]) (hcn : cells + 863 ≤ 863) (hsn : slots + 11716 ≤ 11716) : W p l e rmL_desk s m args below meth c H locs cells slots (MQ below (jRz jfI Q D z A) args s 863 11716 A) (F0 m 0 ls []) := by
  unfold wL_desk_0 at hw
  obtain ⟨hx, hb, hml, hown, hts, hr, hlocks, hnm, hK, hG, hfl⟩ := id hX
  have hown : s.vm.findClass RL = some m.cls := hown
  have hfX9 : ∀ w ∈ wsX90, w.before args s = true := fun w h => hts w (List.mem_cons_of_mem _ (List.mem_append_left _ (List.mem_append_left _ (List.mem_append_left _ (List.mem_append_left _ (List.mem_append_left _ (List.mem_append_left _ (List.mem_append_left _ (List.mem_append_left _ (List.mem_append_left _ (List.mem_append_left _ (List.mem_append_left _ (List.mem_append_left _ (List.mem_append_right _ h))))))))))))))
  refine j_newz (C := RX9) (T := TX9) (N := 1) (ci := 11) (fs := jfX9) hx hb hfX9 tyX9 tyX9_ok hown (hts (.classLink RL 17 RX9) (List.mem_of_getElem? (i := 1) (by decide +kernel))) (hts (.instantiable RX9 1) (List.mem_of_getElem? (i := 2) (by decide +kernel))) (hts (.initialized RX9) (List.mem_of_getElem? (i := 3) (by decide +kernel))) hK hI rfl jdX9 (by show _ ≤ 863; omega) (by show _ ≤ 11716; omega) dL_desk_0 (fun q1 H hq1 hI => ?_)
  have hw := hw q1 hq1
  refine lv_dup hx hb dL_desk_3 rfl ?_
  refine j_goz hI (va_runI (As := []) (rest := [va_rf (some q1)]) ⟨hx, hb, hml, hown, hts⟩ (kX9_init l hfl D z q1  (va_up μ q1 (some (.inr (11, jfX9)))) H.size _) (cwI 0 hts gL_desk_X9_init rfl rfl rfl (hts (.initialized RX9) (List.mem_of_getElem? (i := 3) (by decide +kernel))) (hts (.methodLink RL 145 yX9_init) (List.mem_of_getElem? (i := 6) (by decide +kernel))) (hts (.instanceMethod yX9_init) (List.mem_of_getElem? (i := 7) (by decide +kernel))) rfl (by decide +kernel) ⟨Nat.le_of_ble_eq_true rfl, Nat.le_of_ble_eq_true rfl⟩) (j_prS2z hK hG hI hw) rfl rfl hl.1 rfl (lv_room (Nat.le_of_ble_eq_true rfl)) dL_desk_4 ⟨by show _ ≤ 863; omega, by show _ ≤ 11716; omega⟩) (fun u2 μ3 H locs hw hI => ?_)
  refine W.eq (g2 := F0 m 7 ls [va_rf (some q1)]) rfl ?_
  refine j_astore_n (r := (some q1)) (lv' := [(2, va_rf (some q1)), (0, va_rf (some b)), (1, .int x1)]) hx hb dL_desk_7 rfl hl (by decide) rfl (fun ls hl => ?_)
  refine lv_bipush (v := (64)) hx hb dL_desk_8 (by decide) ?_
  refine j_newaz (atype := .int) (ty := .int) (t := 0) (N' := 64) (a0 := (64, .inl (fun _ => 0))) hx hb (hts (.arrayClass .int) (List.mem_of_getElem? (i := 4) (by decide +kernel))) rfl hK hI (fun cA h => Option.some.inj (h.symm.trans ((hK.2 0 (D.2 0, .int) rfl).2))) (fun cA => rfl) (by decide) (by decide) (by decide) (by show _ ≤ 863; omega) (by show _ ≤ 11716; omega) dL_desk_10 (fun q4 H hq4 hI => ?_)
  have hw := hw q4 hq4
  refine j_astore_n (r := (some q4)) (lv' := [(3, va_rf (some q4)), (2, va_rf (some q1)), (0, va_rf (some b)), (1, .int x1)]) hx hb dL_desk_12 rfl hl (by decide) rfl (fun ls hl => ?_)
  refine lv_iconst (v := (4)) hx hb dL_desk_13 (by decide) ?_
  refine j_newaz (atype := .int) (ty := .int) (t := 0) (N' := 4) (a0 := (4, .inl (fun _ => 0))) hx hb (hts (.arrayClass .int) (List.mem_of_getElem? (i := 4) (by decide +kernel))) rfl hK hI (fun cA h => Option.some.inj (h.symm.trans ((hK.2 0 (D.2 0, .int) rfl).2))) (fun cA => rfl) (by decide) (by decide) (by decide) (by show _ ≤ 863; omega) (by show _ ≤ 11716; omega) dL_desk_14 (fun q5 H hq5 hI => ?_)
  have hw := hw q5 hq5
  refine j_astore (r := (some q5)) (lv' := [(4, va_rf (some q5)), (3, va_rf (some q4)), (2, va_rf (some q1)), (0, va_rf (some b)), (1, .int x1)]) hx hb dL_desk_16 hl (by decide) rfl (fun ls hl => ?_)
  refine lv_iconst (v := (0)) hx hb dL_desk_18 (by decide) ?_
  refine lv_topi (fun v6 ev6 => ?_)
  have hw := hw v6 ev6
  refine lv_istore (lv' := [(5, .int v6), (4, va_rf (some q5)), (3, va_rf (some q4)), (2, va_rf (some q1)), (0, va_rf (some b)), (1, .int x1)]) hx hb dL_desk_19 hl (by decide) rfl (fun ls hl => ?_)
  refine lv_iconst (v := (0)) hx hb dL_desk_21 (by decide) ?_
  refine lv_topi (fun v7 ev7 => ?_)
  have hw := hw v7 ev7
  refine lv_istore (lv' := [(6, .int v7), (5, .int v6), (4, va_rf (some q5)), (3, va_rf (some q4)), (2, va_rf (some q1)), (0, va_rf (some b)), (1, .int x1)]) hx hb dL_desk_22 hl (by decide) rfl (fun ls hl => ?_)
  obtain ⟨n8, hw⟩ := hw
  exact kL_desk_24 hX hS  n8 hw hI (lv_sub hl [5, 6, 4, 3, 2, 1, 0] rfl) (by omega) (by omega)
set_option maxHeartbeats 4000000 in
set_option maxRecDepth 100000 in
theorem kL_desk (l : Launch) (hfl : l.stackTraces = false) (D : jD) (z : Nat × Nat) (b : Nat) (x1 : Int32) (μ : jM) (sz L : Nat) (xs : Nat → Int32) (Q : Int32 → jM → Prop) : Met l yL_desk wsL_desk rmL_desk (jPreS D z μ sz [.ref b, .int x1] b L xs (wL_desk z b L xs x1 μ Q)) (jRz jfI Q D z (jA z μ sz)) 863 11716 (jA z μ sz) := by
  refine Met.ofW (cc := cL_desk) (maxL := 11) (ret := (some .boolean)) (by decide) rfl ?_
  intro p e s m args below meth c s₁ B hml hv
  obtain ⟨rfl, hsz, hH, hz0, hK, hG, hw, hS⟩ := hv
  subst hsz
  have hX : jX2 D z (jA z μ s.heap.size) p l s m _ meth c yL_desk cL_desk 11 wsL_desk (some .boolean) := ⟨B.exec, B.bytes, hml, findClass_of_methodNamed B.named, atoms_spec (ws := wsL_desk) B.pre, B.returns, B.notSynchronized, (name_of_methodNamed B.named B.method).1, hK, hG, hfl⟩
  obtain ⟨ls, hg, hl⟩ : ∃ ls : Array Slot, entryFrame m ([.ref b, .int x1] : List Value).toArray 11 = F0 m 0 ls [] ∧ lv_has ls 11 [(0, va_rf (some b)), (1, .int x1)] := ⟨_, lg_entry_eq .., lv_entry _ (n := 11) (Nat.le_of_ble_eq_true rfl)⟩
  rw [hg]
  exact kL_desk_0 hX hS hw (jIz.start hH hz0) (lv_sub hl [0, 1] rfl) (by decide) (by decide)
end
