section
variable {p : Program} {l : Launch} {e : Env} {s : State} {m : MethodId} {args : Array Value} {below : List Frame} {meth : Method} {c : Code} {D : jD} {z : Nat × Nat} {A : Nat → Prop}
set_option maxHeartbeats 4000000 in
set_option maxRecDepth 100000 in
theorem kL_sets_46 (hX : jX2 D z A p l s m args meth c yL_sets cL_sets 7 wsL_sets (some .boolean)) {Q : Int32 → jM → Prop}  {x0 : Option Nat} {x1 : Option Nat} {x2 : Int32} {x5 : Int32} {μ : jM} {H : Heap} {locs : List Loc} {ls : Array Slot} {cells slots : Nat} (hw : wL_sets_46 z Q x0 x1 x2 x5 μ) (hI : jIz D z A s.heap μ H locs) (hl : lv_has ls 7 [(0, va_rf x0), (1, va_rf x1), (2, .int x2), (5, .int x5)]) (hcn : cells + 0 ≤ 0) (hsn : slots + 0 ≤ 0) : W p l e rmL_sets s m args below meth c H locs cells slots (MQ below (jRz jfI Q D z A) args s 0 0 A) (F0 m 46 ls []) := by
  unfold wL_sets_46 at hw
  obtain ⟨hx, hb, hml, hown, hts, hr, hlocks, hnm, hK, hG, hfl⟩ := id hX
  have hown : s.vm.findClass RL = some m.cls := hown
  refine j_aload_n (r := x1) hx hb dL_sets_46 rfl (lv_at hl 1 rfl) ?_
  refine lv_iconst (v := (3)) hx hb dL_sets_47 (by decide) ?_
  refine lv_iload_n hx hb dL_sets_48 rfl (lv_at hl 2 rfl) ?_
  refine lv_imul hx hb dL_sets_49 ?_
  refine lv_bipush (v := (36)) hx hb dL_sets_50 (by decide) ?_
  refine lv_iadd hx hb dL_sets_52 ?_
  obtain ⟨v1, hv1, hw⟩ := hw
  refine j_ialdz (r := x1) hx hb hK hI hv1 dL_sets_53 ?_
  refine lv_istore (lv' := [(6, .int v1), (0, va_rf x0), (1, va_rf x1), (2, .int x2), (5, .int x5)]) hx hb dL_sets_54 hl (by decide) rfl (fun ls hl => ?_)
  refine j_aload_n (r := x1) hx hb dL_sets_56 rfl (lv_at hl 2 rfl) ?_
  refine lv_iconst (v := (3)) hx hb dL_sets_57 (by decide) ?_
  refine lv_iload_n hx hb dL_sets_58 rfl (lv_at hl 3 rfl) ?_
  refine lv_imul hx hb dL_sets_59 ?_
  refine lv_bipush (v := (36)) hx hb dL_sets_60 (by decide) ?_
  refine lv_iadd hx hb dL_sets_62 ?_
  refine lv_iload hx hb dL_sets_63 (lv_at hl 4 rfl) ?_
  obtain ⟨μ2, hμ2, hw⟩ := hw
  refine j_iastz (r := x1) hx hb hK hI hμ2 dL_sets_65 (fun H locs hI => ?_)
  refine j_aload_n (r := x0) hx hb dL_sets_66 rfl (lv_at hl 1 rfl) ?_
  refine lv_iload_n hx hb dL_sets_67 rfl (lv_at hl 3 rfl) ?_
  refine lv_iload hx hb dL_sets_68 (lv_at hl 4 rfl) ?_
  obtain ⟨b5, ⟨hrb5, hfs⟩, hw⟩ := hw
  refine j_goz hI (va_runV (As := [.int x2, .int x5]) (rest := []) ⟨hx, hb, hml, hown, hts⟩ (kX9_setFloor l hfl D z b5 x2 x5 μ2 H.size _) (cwV 2 hts gL_sets_X9_setFloor rfl rfl rfl (by decide +kernel) ⟨Nat.le_of_ble_eq_true rfl, Nat.le_of_ble_eq_true rfl⟩) (j_prV2z hK hG hI hw (ci := 11) rfl hfs) rfl rfl hl.1 (by rw [hrb5]; rfl) (lv_room (Nat.le_of_ble_eq_true rfl)) dL_sets_70 ⟨by show _ ≤ 0; omega, by show _ ≤ 0; omega⟩) (fun v3 μ4 H locs hw hI => ?_)
  refine W.eq (g2 := F0 m 73 ls [.int v3]) rfl ?_
  refine lv_iload hx hb dL_sets_73 (lv_at hl 0 rfl) ?_
  refine lv_icmp_ne (tgt := 82) hx hb dL_sets_75 (by decide) (fun hc => ?_) (fun hc => ?_)
  · have hw := hw.1 hc
    refine lv_iconst (v := (0)) hx hb dL_sets_82 (by decide) ?_
    exact j_zretz hx hb hr rfl hlocks hI hw (by omega) (by omega) dL_sets_83
  · have hw := hw.2 hc
    refine lv_iconst (v := (1)) hx hb dL_sets_78 (by decide) ?_
    refine lv_goto (tgt := 83) hx hb dL_sets_79 (by decide) ?_
    exact j_zretz hx hb hr rfl hlocks hI hw (by omega) (by omega) dL_sets_83
set_option maxHeartbeats 4000000 in
set_option maxRecDepth 100000 in
theorem kL_sets_29 (hX : jX2 D z A p l s m args meth c yL_sets cL_sets 7 wsL_sets (some .boolean)) {Q : Int32 → jM → Prop}  {x0 : Option Nat} {x1 : Option Nat} {x2 : Int32} {x4 : Int32} {t0 : Int32} {μ : jM} {H : Heap} {locs : List Loc} {ls : Array Slot} {cells slots : Nat} (hw : wL_sets_29 z Q x0 x1 x2 x4 t0 μ) (hI : jIz D z A s.heap μ H locs) (hl : lv_has ls 7 [(0, va_rf x0), (1, va_rf x1), (2, .int x2), (4, .int x4)]) (hcn : cells + 0 ≤ 0) (hsn : slots + 0 ≤ 0) : W p l e rmL_sets s m args below meth c H locs cells slots (MQ below (jRz jfI Q D z A) args s 0 0 A) (F0 m 29 ls [.int t0]) := by
  unfold wL_sets_29 at hw
  obtain ⟨hx, hb, hml, hown, hts, hr, hlocks, hnm, hK, hG, hfl⟩ := id hX
  have hown : s.vm.findClass RL = some m.cls := hown
  refine lv_istore (lv' := [(5, .int t0), (0, va_rf x0), (1, va_rf x1), (2, .int x2), (4, .int x4)]) hx hb dL_sets_29 hl (by decide) rfl (fun ls hl => ?_)
  refine lv_iload hx hb dL_sets_31 (lv_at hl 4 rfl) ?_
  refine lv_iconst (v := (3)) hx hb dL_sets_33 (by decide) ?_
  refine lv_irem hx hb dL_sets_34 (by decide) ?_
  refine lv_if_eq (tgt := 46) hx hb dL_sets_35 (by decide) (fun hc => ?_) (fun hc => ?_)
  · have hw := hw.1 hc
    exact kL_sets_46 hX  hw hI (lv_sub hl [1, 2, 3, 0] rfl) (by omega) (by omega)
  · have hw := hw.2 hc
    refine j_aload_n (r := x1) hx hb dL_sets_38 rfl (lv_at hl 2 rfl) ?_
    refine lv_iload_n hx hb dL_sets_39 rfl (lv_at hl 3 rfl) ?_
    refine j_goz hI (va_runS (As := [va_rf x1, .int x2]) (rest := []) ⟨hx, hb, hml, hown, hts⟩ (kL_parent l hfl D z x1 x2 μ H.size _) (va_cwS 2 hts gL_sets_L_parent rfl rfl rfl (by decide +kernel) ⟨Nat.le_of_ble_eq_true rfl, Nat.le_of_ble_eq_true rfl⟩) (j_prS2z hK hG hI hw) rfl rfl hl.1 rfl (lv_room (Nat.le_of_ble_eq_true rfl)) dL_sets_40 ⟨by show _ ≤ 0; omega, by show _ ≤ 0; omega⟩) (fun v1 μ2 H locs hw hI => ?_)
    refine W.eq (g2 := F0 m 43 ls [.int v1]) rfl ?_
    refine lv_if_ge (tgt := 84) hx hb dL_sets_43 (by decide) (fun hc => ?_) (fun hc => ?_)
    · have hw := hw.1 hc
      refine j_aload_n (r := x1) hx hb dL_sets_84 rfl (lv_at hl 2 rfl) ?_
      refine lv_iconst (v := (3)) hx hb dL_sets_85 (by decide) ?_
      refine lv_iload_n hx hb dL_sets_86 rfl (lv_at hl 3 rfl) ?_
      refine lv_imul hx hb dL_sets_87 ?_
      refine lv_bipush (v := (34)) hx hb dL_sets_88 (by decide) ?_
      refine lv_iadd hx hb dL_sets_90 ?_
      obtain ⟨v3, hv3, hw⟩ := hw
      refine j_ialdz (r := x1) hx hb hK hI hv3 dL_sets_91 ?_
      refine lv_istore (lv' := [(6, .int v3), (5, .int t0), (0, va_rf x0), (1, va_rf x1), (2, .int x2), (4, .int x4)]) hx hb dL_sets_92 hl (by decide) rfl (fun ls hl => ?_)
      refine j_aload_n (r := x1) hx hb dL_sets_94 rfl (lv_at hl 3 rfl) ?_
      refine lv_iconst (v := (3)) hx hb dL_sets_95 (by decide) ?_
      refine lv_iload_n hx hb dL_sets_96 rfl (lv_at hl 4 rfl) ?_
      refine lv_imul hx hb dL_sets_97 ?_
      refine lv_bipush (v := (34)) hx hb dL_sets_98 (by decide) ?_
      refine lv_iadd hx hb dL_sets_100 ?_
      refine lv_iload hx hb dL_sets_101 (lv_at hl 5 rfl) ?_
      refine lv_iconst (v := (3)) hx hb dL_sets_103 (by decide) ?_
      refine lv_idiv hx hb dL_sets_104 (by decide) ?_
      refine lv_iconst (v := (4)) hx hb dL_sets_105 (by decide) ?_
      refine lv_irem hx hb dL_sets_106 (by decide) ?_
      obtain ⟨μ4, hμ4, hw⟩ := hw
      refine j_iastz (r := x1) hx hb hK hI hμ4 dL_sets_107 (fun H locs hI => ?_)
      refine j_aload_n (r := x1) hx hb dL_sets_108 rfl (lv_at hl 3 rfl) ?_
      refine lv_iconst (v := (3)) hx hb dL_sets_109 (by decide) ?_
      refine lv_iload_n hx hb dL_sets_110 rfl (lv_at hl 4 rfl) ?_
      refine lv_imul hx hb dL_sets_111 ?_
      refine lv_bipush (v := (35)) hx hb dL_sets_112 (by decide) ?_
      refine lv_iadd hx hb dL_sets_114 ?_
      refine lv_iload hx hb dL_sets_115 (lv_at hl 1 rfl) ?_
      obtain ⟨μ5, hμ5, hw⟩ := hw
      refine j_iastz (r := x1) hx hb hK hI hμ5 dL_sets_117 (fun H locs hI => ?_)
      refine j_aload_n (r := x0) hx hb dL_sets_118 rfl (lv_at hl 2 rfl) ?_
      refine lv_iload_n hx hb dL_sets_119 rfl (lv_at hl 4 rfl) ?_
      refine lv_iload hx hb dL_sets_120 (lv_at hl 5 rfl) ?_
      refine lv_iconst (v := (3)) hx hb dL_sets_122 (by decide) ?_
      refine lv_idiv hx hb dL_sets_123 (by decide) ?_
      refine lv_iconst (v := (4)) hx hb dL_sets_124 (by decide) ?_
      refine lv_irem hx hb dL_sets_125 (by decide) ?_
      refine lv_iload hx hb dL_sets_126 (lv_at hl 1 rfl) ?_
      obtain ⟨b8, ⟨hrb8, hfs⟩, hw⟩ := hw
      refine j_goz hI (va_runV (As := [.int x2, .int ((x4 / (3 : Int32)) - (x4 / (3 : Int32)) / (4 : Int32) * (4 : Int32)), .int t0]) (rest := []) ⟨hx, hb, hml, hown, hts⟩ (kX9_setRule l hfl D z b8 x2 ((x4 / (3 : Int32)) - (x4 / (3 : Int32)) / (4 : Int32) * (4 : Int32)) t0 μ5 H.size _) (cwV 3 hts gL_sets_X9_setRule rfl rfl rfl (by decide +kernel) ⟨Nat.le_of_ble_eq_true rfl, Nat.le_of_ble_eq_true rfl⟩) (j_prV2z hK hG hI hw (ci := 11) rfl hfs) rfl rfl hl.1 (by rw [hrb8]; rfl) (lv_room (Nat.le_of_ble_eq_true rfl)) dL_sets_128 ⟨by show _ ≤ 0; omega, by show _ ≤ 0; omega⟩) (fun v6 μ7 H locs hw hI => ?_)
      refine W.eq (g2 := F0 m 131 ls [.int v6]) rfl ?_
      refine lv_iload hx hb dL_sets_131 (lv_at hl 0 rfl) ?_
      refine lv_icmp_ne (tgt := 140) hx hb dL_sets_133 (by decide) (fun hc => ?_) (fun hc => ?_)
      · have hw := hw.1 hc
        refine lv_iconst (v := (0)) hx hb dL_sets_140 (by decide) ?_
        exact j_zretz hx hb hr rfl hlocks hI hw (by omega) (by omega) dL_sets_141
      · have hw := hw.2 hc
        refine lv_iconst (v := (1)) hx hb dL_sets_136 (by decide) ?_
        refine lv_goto (tgt := 141) hx hb dL_sets_137 (by decide) ?_
        exact j_zretz hx hb hr rfl hlocks hI hw (by omega) (by omega) dL_sets_141
    · have hw := hw.2 hc
      exact kL_sets_46 hX  hw hI (lv_sub hl [1, 2, 3, 0] rfl) (by omega) (by omega)
set_option maxHeartbeats 4000000 in
set_option maxRecDepth 100000 in
theorem kL_sets_0 (hX : jX2 D z A p l s m args meth c yL_sets cL_sets 7 wsL_sets (some .boolean)) {Q : Int32 → jM → Prop}  {x0 : Option Nat} {x1 : Option Nat} {x2 : Int32} {x3 : Int32} {x4 : Int32} {μ : jM} {H : Heap} {locs : List Loc} {ls : Array Slot} {cells slots : Nat} (hw : wL_sets_0 z Q x0 x1 x2 x3 x4 μ) (hI : jIz D z A s.heap μ H locs) (hl : lv_has ls 7 [(0, va_rf x0), (1, va_rf x1), (2, .int x2), (3, .int x3), (4, .int x4)]) (hcn : cells + 0 ≤ 0) (hsn : slots + 0 ≤ 0) : W p l e rmL_sets s m args below meth c H locs cells slots (MQ below (jRz jfI Q D z A) args s 0 0 A) (F0 m 0 ls []) := by
  unfold wL_sets_0 at hw
  obtain ⟨hx, hb, hml, hown, hts, hr, hlocks, hnm, hK, hG, hfl⟩ := id hX
  have hown : s.vm.findClass RL = some m.cls := hown
  refine lv_iload_n hx hb dL_sets_0 rfl (lv_at hl 3 rfl) ?_
  refine lv_iconst (v := (3)) hx hb dL_sets_1 (by decide) ?_
  refine lv_irem hx hb dL_sets_2 (by decide) ?_
  refine lv_if_ne (tgt := 18) hx hb dL_sets_3 (by decide) (fun hc => ?_) (fun hc => ?_)
  · have hw := hw.1 hc
    refine lv_iload_n hx hb dL_sets_18 rfl (lv_at hl 3 rfl) ?_
    refine lv_iconst (v := (3)) hx hb dL_sets_19 (by decide) ?_
    refine lv_idiv hx hb dL_sets_20 (by decide) ?_
    refine lv_sipush (v := (2001)) hx hb dL_sets_21 (by decide) ?_
    refine lv_irem hx hb dL_sets_24 (by decide) ?_
    refine lv_sipush (v := (1000)) hx hb dL_sets_25 (by decide) ?_
    refine lv_isub hx hb dL_sets_28 ?_
    exact kL_sets_29 hX  hw hI (lv_sub hl [0, 1, 2, 4] rfl) (by omega) (by omega)
  · have hw := hw.2 hc
    refine lv_iload_n hx hb dL_sets_6 rfl (lv_at hl 3 rfl) ?_
    refine lv_iconst (v := (3)) hx hb dL_sets_7 (by decide) ?_
    refine lv_idiv hx hb dL_sets_8 (by decide) ?_
    refine lv_ldc (v := (2000001)) hx hb hown (hts (.constant RL 104 (2000001)) (List.mem_of_getElem? (i := 1) (by decide +kernel))) dL_sets_9 ?_
    refine lv_irem hx hb dL_sets_11 (by decide) ?_
    refine lv_ldc (v := (1000000)) hx hb hown (hts (.constant RL 86 (1000000)) (List.mem_of_getElem? (i := 2) (by decide +kernel))) dL_sets_12 ?_
    refine lv_isub hx hb dL_sets_14 ?_
    refine lv_goto (tgt := 29) hx hb dL_sets_15 (by decide) ?_
    exact kL_sets_29 hX  hw hI (lv_sub hl [0, 1, 2, 4] rfl) (by omega) (by omega)
set_option maxHeartbeats 4000000 in
set_option maxRecDepth 100000 in
theorem kL_sets (l : Launch) (hfl : l.stackTraces = false) (D : jD) (z : Nat × Nat) (x0 : Option Nat) (x1 : Option Nat) (x2 : Int32) (x3 : Int32) (x4 : Int32) (μ : jM) (sz : Nat) (Q : Int32 → jM → Prop) : Met l yL_sets wsL_sets rmL_sets (jPre2z D z μ sz [va_rf x0, va_rf x1, .int x2, .int x3, .int x4] (wL_sets z x0 x1 x2 x3 x4 μ Q)) (jRz jfI Q D z (jA z μ sz)) 0 0 (jA z μ sz) := by
  refine Met.ofW (cc := cL_sets) (maxL := 7) (ret := (some .boolean)) (by decide) rfl ?_
  intro p e s m args below meth c s₁ B hml hv
  obtain ⟨rfl, hsz, hH, hz0, hK, hG, hw⟩ := hv
  subst hsz
  have hX : jX2 D z (jA z μ s.heap.size) p l s m _ meth c yL_sets cL_sets 7 wsL_sets (some .boolean) := ⟨B.exec, B.bytes, hml, findClass_of_methodNamed B.named, atoms_spec (ws := wsL_sets) B.pre, B.returns, B.notSynchronized, (name_of_methodNamed B.named B.method).1, hK, hG, hfl⟩
  obtain ⟨ls, hg, hl⟩ : ∃ ls : Array Slot, entryFrame m ([va_rf x0, va_rf x1, .int x2, .int x3, .int x4] : List Value).toArray 7 = F0 m 0 ls [] ∧ lv_has ls 7 [(0, va_rf x0), (1, va_rf x1), (2, .int x2), (3, .int x3), (4, .int x4)] := by
    cases x0 <;> cases x1 <;> exact ⟨_, lg_entry_eq .., lv_entry _ (n := 7) (Nat.le_of_ble_eq_true rfl)⟩
  rw [hg]
  exact kL_sets_0 hX hw (jIz.start hH hz0) (lv_sub hl [0, 1, 2, 3, 4] rfl) (by decide) (by decide)
set_option maxHeartbeats 4000000 in
set_option maxRecDepth 100000 in
theorem kL_top_2 (hX : jX2 D z A p l s m args meth c yL_top cL_top 3 wsL_top (some .int)) {Q : Int32 → jM → Prop}  (n : Nat) : ∀ {x0 : Option Nat} {x2 : Int32} {μ : jM} {H : Heap} {locs : List Loc} {ls : Array Slot} {cells slots : Nat}, wL_top_2 z Q n x0 x2 μ → jIz D z A s.heap μ H locs → lv_has ls 3 [(0, va_rf x0), (2, .int x2)] → cells + 0 ≤ 0 → slots + 0 ≤ 0 → W p l e rmL_top s m args below meth c H locs cells slots (MQ below (jRz jfI Q D z A) args s 0 0 A) (F0 m 2 ls []) := by
  induction n with
  | zero =>
    intros
    rename_i hw _ _ _ _
    exact (show False from hw).elim
  | succ n ih =>
    intro x0 x2 μ H locs ls cells slots hw hI hl hcn hsn
    have hw : wL_top_2_b z Q (wL_top_2 z Q n) x0 x2 μ := hw
    unfold wL_top_2_b at hw
    obtain ⟨hx, hb, hml, hown, hts, hr, hlocks, hnm, hK, hG, hfl⟩ := id hX
    have hown : s.vm.findClass RL = some m.cls := hown
    refine j_aload_n (r := x0) hx hb dL_top_2 rfl (lv_at hl 0 rfl) ?_
    refine lv_iload_n hx hb dL_top_3 rfl (lv_at hl 1 rfl) ?_
    refine j_goz hI (va_runS (As := [va_rf x0, .int x2]) (rest := []) ⟨hx, hb, hml, hown, hts⟩ (kL_parent l hfl D z x0 x2 μ H.size _) (va_cwS 2 hts gL_top_L_parent rfl rfl rfl (by decide +kernel) ⟨Nat.le_of_ble_eq_true rfl, Nat.le_of_ble_eq_true rfl⟩) (j_prS2z hK hG hI hw) rfl rfl hl.1 rfl (lv_room (Nat.le_of_ble_eq_true rfl)) dL_top_4 ⟨by show _ ≤ 0; omega, by show _ ≤ 0; omega⟩) (fun v1 μ2 H locs hw hI => ?_)
    refine W.eq (g2 := F0 m 7 ls [.int v1]) rfl ?_
    refine lv_if_lt (tgt := 19) hx hb dL_top_7 (by decide) (fun hc => ?_) (fun hc => ?_)
    · have hw := hw.1 hc
      refine lv_iload_n hx hb dL_top_19 rfl (lv_at hl 1 rfl) ?_
      exact j_iretz hx hb hr hlocks hI hw (by omega) (by omega) dL_top_20
    · have hw := hw.2 hc
      refine j_aload_n (r := x0) hx hb dL_top_10 rfl (lv_at hl 0 rfl) ?_
      refine lv_iload_n hx hb dL_top_11 rfl (lv_at hl 1 rfl) ?_
      refine j_goz hI (va_runS (As := [va_rf x0, .int x2]) (rest := []) ⟨hx, hb, hml, hown, hts⟩ (kL_parent l hfl D z x0 x2 μ2 H.size _) (va_cwS 2 hts gL_top_L_parent rfl rfl rfl (by decide +kernel) ⟨Nat.le_of_ble_eq_true rfl, Nat.le_of_ble_eq_true rfl⟩) (j_prS2z hK hG hI hw) rfl rfl hl.1 rfl (lv_room (Nat.le_of_ble_eq_true rfl)) dL_top_12 ⟨by show _ ≤ 0; omega, by show _ ≤ 0; omega⟩) (fun v3 μ4 H locs hw hI => ?_)
      refine W.eq (g2 := F0 m 15 ls [.int v3]) rfl ?_
      refine lv_istore_n (lv' := [(2, .int v3), (0, va_rf x0)]) hx hb dL_top_15 rfl hl (by decide) rfl (fun ls hl => ?_)
      refine lv_goto (tgt := 2) hx hb dL_top_16 (by decide) ?_
      exact ih hw hI (lv_sub hl [1, 0] rfl) (by omega) (by omega)
set_option maxHeartbeats 4000000 in
set_option maxRecDepth 100000 in
theorem kL_top_0 (hX : jX2 D z A p l s m args meth c yL_top cL_top 3 wsL_top (some .int)) {Q : Int32 → jM → Prop}  {x0 : Option Nat} {x1 : Int32} {μ : jM} {H : Heap} {locs : List Loc} {ls : Array Slot} {cells slots : Nat} (hw : wL_top_0 z Q x0 x1 μ) (hI : jIz D z A s.heap μ H locs) (hl : lv_has ls 3 [(0, va_rf x0), (1, .int x1)]) (hcn : cells + 0 ≤ 0) (hsn : slots + 0 ≤ 0) : W p l e rmL_top s m args below meth c H locs cells slots (MQ below (jRz jfI Q D z A) args s 0 0 A) (F0 m 0 ls []) := by
  unfold wL_top_0 at hw
  obtain ⟨hx, hb, hml, hown, hts, hr, hlocks, hnm, hK, hG, hfl⟩ := id hX
  have hown : s.vm.findClass RL = some m.cls := hown
  refine lv_iload_n hx hb dL_top_0 rfl (lv_at hl 1 rfl) ?_
  refine lv_istore_n (lv' := [(2, .int x1), (0, va_rf x0), (1, .int x1)]) hx hb dL_top_1 rfl hl (by decide) rfl (fun ls hl => ?_)
  obtain ⟨n1, hw⟩ := hw
  exact kL_top_2 hX  n1 hw hI (lv_sub hl [1, 0] rfl) (by omega) (by omega)
set_option maxHeartbeats 4000000 in
set_option maxRecDepth 100000 in
theorem kL_top (l : Launch) (hfl : l.stackTraces = false) (D : jD) (z : Nat × Nat) (x0 : Option Nat) (x1 : Int32) (μ : jM) (sz : Nat) (Q : Int32 → jM → Prop) : Met l yL_top wsL_top rmL_top (jPre2z D z μ sz [va_rf x0, .int x1] (wL_top z x0 x1 μ Q)) (jRz jfI Q D z (jA z μ sz)) 0 0 (jA z μ sz) := by
  refine Met.ofW (cc := cL_top) (maxL := 3) (ret := (some .int)) (by decide) rfl ?_
  intro p e s m args below meth c s₁ B hml hv
  obtain ⟨rfl, hsz, hH, hz0, hK, hG, hw⟩ := hv
  subst hsz
  have hX : jX2 D z (jA z μ s.heap.size) p l s m _ meth c yL_top cL_top 3 wsL_top (some .int) := ⟨B.exec, B.bytes, hml, findClass_of_methodNamed B.named, atoms_spec (ws := wsL_top) B.pre, B.returns, B.notSynchronized, (name_of_methodNamed B.named B.method).1, hK, hG, hfl⟩
  obtain ⟨ls, hg, hl⟩ : ∃ ls : Array Slot, entryFrame m ([va_rf x0, .int x1] : List Value).toArray 3 = F0 m 0 ls [] ∧ lv_has ls 3 [(0, va_rf x0), (1, .int x1)] := by
    cases x0 <;> exact ⟨_, lg_entry_eq .., lv_entry _ (n := 3) (Nat.le_of_ble_eq_true rfl)⟩
  rw [hg]
  exact kL_top_0 hX hw (jIz.start hH hz0) (lv_sub hl [0, 1] rfl) (by decide) (by decide)
set_option maxHeartbeats 4000000 in
set_option maxRecDepth 100000 in
theorem kX9_requireTop_0 (hX : jX2 D z A p l s m args meth c yX9_requireTop cX9_requireTop 1 wsX9_requireTop none) {Q : Unit → jM → Prop}  {x0 : Option Nat} {μ : jM} {H : Heap} {locs : List Loc} {ls : Array Slot} {cells slots : Nat} (hw : wX9_requireTop_0 z Q jN x0 μ) (hI : jIz D z A s.heap μ H locs) (hl : lv_has ls 1 [(0, va_rf x0)]) (hcn : cells + 0 ≤ 0) (hsn : slots + 0 ≤ 0) : W p l e rmX9_requireTop s m args below meth c H locs cells slots (MQ below (jRz jfV Q D z A) args s 0 0 A) (F0 m 0 ls []) := by
  unfold wX9_requireTop_0 at hw
  obtain ⟨hx, hb, hml, hown, hts, hr, hlocks, hnm, hK, hG, hfl⟩ := id hX
  have hown : s.vm.findClass RX9 = some m.cls := hown
  have hfX0 : ∀ w ∈ wsX00, w.before args s = true := fun w h => hts w (List.mem_cons_of_mem _ (List.mem_append_left _ (List.mem_append_right _ h)))
  refine j_aload_n (r := x0) hx hb dX9_requireTop_0 rfl (lv_at hl 0 rfl) ?_
  obtain ⟨v1, hv1, hw⟩ := hw
  refine j_getz (C := RX0) (T := TX0) (N := 12) (ci := 3) (r := x0) (v := va_rf v1) hx hb hfX0 hown hK hI rfl 1 (by decide) (hts (.fieldLink RX9 41 "CashPools$Account" "parent" "LCashPools$Account;") (List.mem_of_getElem? (i := 3) (by decide +kernel))) (fun _ h => h) hv1 dX9_requireTop_1 ?_
  refine j_ifnull (r := v1) (tgt := 17) hx hb dX9_requireTop_4 (by decide) (fun hc => ?_) (fun hc => ?_)
  · have hw := hw.1 hc
    exact j_vretz hx hb hr hlocks hI hw (by omega) (by omega) dX9_requireTop_17
  · have hw := hw.2 hc
    exact (show False from hw).elim
set_option maxHeartbeats 4000000 in
set_option maxRecDepth 100000 in
theorem kX9_requireTop (l : Launch) (hfl : l.stackTraces = false) (D : jD) (z : Nat × Nat) (x0 : Option Nat) (μ : jM) (sz : Nat) (Q : Unit → jM → Prop) : Met l yX9_requireTop wsX9_requireTop rmX9_requireTop (jPre2z D z μ sz [va_rf x0] (wX9_requireTop z x0 μ Q jN)) (jRz jfV Q D z (jA z μ sz)) 0 0 (jA z μ sz) := by
  refine Met.ofW (cc := cX9_requireTop) (maxL := 1) (ret := none) (by decide) rfl ?_
  intro p e s m args below meth c s₁ B hml hv
  obtain ⟨rfl, hsz, hH, hz0, hK, hG, hw⟩ := hv
  subst hsz
  have hX : jX2 D z (jA z μ s.heap.size) p l s m _ meth c yX9_requireTop cX9_requireTop 1 wsX9_requireTop none := ⟨B.exec, B.bytes, hml, findClass_of_methodNamed B.named, atoms_spec (ws := wsX9_requireTop) B.pre, B.returns, B.notSynchronized, (name_of_methodNamed B.named B.method).1, hK, hG, hfl⟩
  obtain ⟨ls, hg, hl⟩ : ∃ ls : Array Slot, entryFrame m ([va_rf x0] : List Value).toArray 1 = F0 m 0 ls [] ∧ lv_has ls 1 [(0, va_rf x0)] := by
    cases x0 <;> exact ⟨_, lg_entry_eq .., lv_entry _ (n := 1) (Nat.le_of_ble_eq_true rfl)⟩
  rw [hg]
  exact kX9_requireTop_0 hX hw (jIz.start hH hz0) (lv_sub hl [0] rfl) (by decide) (by decide)
set_option maxHeartbeats 4000000 in
set_option maxRecDepth 100000 in
theorem kX5_init_0 {b : Nat} (hX : jX2 D z A p l s m args meth c yX5_init cX5_init 4 wsX5_init none) {Q : Unit → jM → Prop}  {x1 : Option Nat} {x2 : Int32} {x3 : Int32} {μ : jM} {H : Heap} {locs : List Loc} {ls : Array Slot} {cells slots : Nat} (hw : wX5_init_0 z b Q x1 x2 x3 μ) (hI : jIz D z A s.heap μ H locs) (hl : lv_has ls 4 [(0, va_rf (some b)), (1, va_rf x1), (2, .int x2), (3, .int x3)]) (hcn : cells + 0 ≤ 0) (hsn : slots + 0 ≤ 0) : W p l e rmX5_init s m args below meth c H locs cells slots (MQ below (jRz jfV Q D z A) args s 0 0 A) (F0 m 0 ls []) := by
  unfold wX5_init_0 at hw
  obtain ⟨hx, hb, hml, hown, hts, hr, hlocks, hnm, hK, hG, hfl⟩ := id hX
  have hown : s.vm.findClass RX5 = some m.cls := hown
  have hfX5 : ∀ w ∈ wsX50, w.before args s = true := fun w h => hts w (List.mem_cons_of_mem _ (List.mem_append_right _ h))
  refine j_aload_n (r := (some b)) hx hb dX5_init_0 rfl (lv_at hl 0 rfl) ?_
  refine W.objInit hx hb hown (hts (.methodLink RX5 3 objectInit) (List.mem_of_getElem? (i := 1) (by decide +kernel))) (hts (.instanceMethod objectInit) (List.mem_of_getElem? (i := 2) (by decide +kernel))) (hts (.code objectInit ⟨#[0xb1]⟩ 1 none) (List.mem_of_getElem? (i := 3) (by decide +kernel))) rfl (by rw [hml]; exact hl.1) rfl dX5_init_1 (Nat.le_of_ble_eq_true rfl) (Nat.le_of_ble_eq_true rfl) ?_
  refine W.eq (g2 := F0 m 4 ls []) rfl ?_
  refine j_aload_n (r := (some b)) hx hb dX5_init_4 rfl (lv_at hl 0 rfl) ?_
  refine j_aload_n (r := x1) hx hb dX5_init_5 rfl (lv_at hl 1 rfl) ?_
  obtain ⟨μ1, hμ1, hw⟩ := hw
  refine j_putFz (C := RX5) (T := TX5) (N := 9) (ci := 8) (r := (some b)) (v := va_rf x1) hx hb hfX5 tyX5 tyX5_ok nmX5 hown hK hI rfl 0 (by decide) (hts (.fieldLink RX5 9 "CashPools$Line" "top" "LCashPools$Account;") (List.mem_of_getElem? (i := 4) (by decide +kernel))) (fun _ h => h) rfl hnm rfl (tyX5_ok 0 (by decide)) (jnr _ x1) (jfr _ x1) hμ1 dX5_init_6 (fun H locs hI => ?_)
  refine j_aload_n (r := (some b)) hx hb dX5_init_9 rfl (lv_at hl 0 rfl) ?_
  refine lv_iload_n hx hb dX5_init_10 rfl (lv_at hl 2 rfl) ?_
  obtain ⟨μ2, hμ2, hw⟩ := hw
  refine j_putFz (C := RX5) (T := TX5) (N := 9) (ci := 8) (r := (some b)) (v := .int x2) hx hb hfX5 tyX5 tyX5_ok nmX5 hown hK hI rfl 1 (by decide) (hts (.fieldLink RX5 15 "CashPools$Line" "limit" "I") (List.mem_of_getElem? (i := 5) (by decide +kernel))) (fun _ h => h) rfl hnm rfl (tyX5_ok 1 (by decide)) rfl rfl hμ2 dX5_init_11 (fun H locs hI => ?_)
  refine j_aload_n (r := (some b)) hx hb dX5_init_14 rfl (lv_at hl 0 rfl) ?_
  refine lv_iload_n hx hb dX5_init_15 rfl (lv_at hl 3 rfl) ?_
  obtain ⟨μ3, hμ3, hw⟩ := hw
  refine j_putFz (C := RX5) (T := TX5) (N := 9) (ci := 8) (r := (some b)) (v := .int x3) hx hb hfX5 tyX5 tyX5_ok nmX5 hown hK hI rfl 2 (by decide) (hts (.fieldLink RX5 19 "CashPools$Line" "rate" "I") (List.mem_of_getElem? (i := 6) (by decide +kernel))) (fun _ h => h) rfl hnm rfl (tyX5_ok 2 (by decide)) rfl rfl hμ3 dX5_init_16 (fun H locs hI => ?_)
  exact j_vretz hx hb hr hlocks hI hw (by omega) (by omega) dX5_init_19
set_option maxHeartbeats 4000000 in
set_option maxRecDepth 100000 in
theorem kX5_init (l : Launch) (hfl : l.stackTraces = false) (D : jD) (z : Nat × Nat) (b : Nat) (x1 : Option Nat) (x2 : Int32) (x3 : Int32) (μ : jM) (sz : Nat) (Q : Unit → jM → Prop) : Met l yX5_init wsX5_init rmX5_init (jPre2z D z μ sz [.ref b, va_rf x1, .int x2, .int x3] (wX5_init z b x1 x2 x3 μ Q)) (jRz jfV Q D z (jA z μ sz)) 0 0 (jA z μ sz) := by
  refine Met.ofW (cc := cX5_init) (maxL := 4) (ret := none) (by decide) rfl ?_
  intro p e s m args below meth c s₁ B hml hv
  obtain ⟨rfl, hsz, hH, hz0, hK, hG, hw⟩ := hv
  subst hsz
  have hX : jX2 D z (jA z μ s.heap.size) p l s m _ meth c yX5_init cX5_init 4 wsX5_init none := ⟨B.exec, B.bytes, hml, findClass_of_methodNamed B.named, atoms_spec (ws := wsX5_init) B.pre, B.returns, B.notSynchronized, (name_of_methodNamed B.named B.method).1, hK, hG, hfl⟩
  obtain ⟨ls, hg, hl⟩ : ∃ ls : Array Slot, entryFrame m ([.ref b, va_rf x1, .int x2, .int x3] : List Value).toArray 4 = F0 m 0 ls [] ∧ lv_has ls 4 [(0, va_rf (some b)), (1, va_rf x1), (2, .int x2), (3, .int x3)] := by
    cases x1 <;> exact ⟨_, lg_entry_eq .., lv_entry _ (n := 4) (Nat.le_of_ble_eq_true rfl)⟩
  rw [hg]
  exact kX5_init_0 hX hw (jIz.start hH hz0) (lv_sub hl [0, 1, 2, 3] rfl) (by decide) (by decide)
set_option maxHeartbeats 4000000 in
set_option maxRecDepth 100000 in
theorem kJx4a65c_rangeCheckForAdd_d00df_0 {b : Nat} (hX : jX2 D z A p l s m args meth c yJx4a65c_rangeCheckForAdd_d00df cJx4a65c_rangeCheckForAdd_d00df 2 wsJx4a65c_rangeCheckForAdd_d00df none) {Q : Unit → jM → Prop}  {x1 : Int32} {μ : jM} {H : Heap} {locs : List Loc} {ls : Array Slot} {cells slots : Nat} (hw : wJx4a65c_rangeCheckForAdd_d00df_0 z b Q x1 μ) (hI : jIz D z A s.heap μ H locs) (hl : lv_has ls 2 [(0, va_rf (some b)), (1, .int x1)]) (hcn : cells + 0 ≤ 0) (hsn : slots + 0 ≤ 0) : W p l e rmJx4a65c_rangeCheckForAdd_d00df s m args below meth c H locs cells slots (MQ below (jRz jfV Q D z A) args s 0 0 A) (F0 m 0 ls []) := by
  unfold wJx4a65c_rangeCheckForAdd_d00df_0 at hw
  obtain ⟨hx, hb, hml, hown, hts, hr, hlocks, hnm, hK, hG, hfl⟩ := id hX
  have hown : s.vm.findClass RJx4a65c = some m.cls := hown
  have hfJx4a65c : ∀ w ∈ wsJx4a65c0, w.before args s = true := fun w h => hts w (List.mem_cons_of_mem _ (List.mem_append_right _ h))
  refine lv_iload_n hx hb dJx4a65c_rangeCheckForAdd_d00df_0 rfl (lv_at hl 1 rfl) ?_
  refine j_aload_n (r := (some b)) hx hb dJx4a65c_rangeCheckForAdd_d00df_1 rfl (lv_at hl 0 rfl) ?_
  obtain ⟨v1, hv1, hw⟩ := hw
  refine j_getz (C := RJx4a65c) (T := TJx4a65c) (N := 3) (ci := 2) (r := (some b)) (v := .int v1) hx hb hfJx4a65c hown hK hI rfl 2 (by decide) (hts (.fieldLink RJx4a65c 48 "java/util/ArrayList" "size" "I") (List.mem_of_getElem? (i := 1) (by decide +kernel))) (fun _ h => h) hv1 dJx4a65c_rangeCheckForAdd_d00df_2 ?_
  refine lv_icmp_gt (tgt := 12) hx hb dJx4a65c_rangeCheckForAdd_d00df_5 (by decide) (fun hc => ?_) (fun hc => ?_)
  · have hw := hw.1 hc
    exact (show False from hw).elim
  · have hw := hw.2 hc
    refine lv_iload_n hx hb dJx4a65c_rangeCheckForAdd_d00df_8 rfl (lv_at hl 1 rfl) ?_
    refine lv_if_ge (tgt := 25) hx hb dJx4a65c_rangeCheckForAdd_d00df_9 (by decide) (fun hc => ?_) (fun hc => ?_)
    · have hw := hw.1 hc
      exact j_vretz hx hb hr hlocks hI hw (by omega) (by omega) dJx4a65c_rangeCheckForAdd_d00df_25
    · have hw := hw.2 hc
      exact (show False from hw).elim
set_option maxHeartbeats 4000000 in
set_option maxRecDepth 100000 in
theorem kJx4a65c_rangeCheckForAdd_d00df (l : Launch) (hfl : l.stackTraces = false) (D : jD) (z : Nat × Nat) (b : Nat) (x1 : Int32) (μ : jM) (sz : Nat) (Q : Unit → jM → Prop) : Met l yJx4a65c_rangeCheckForAdd_d00df wsJx4a65c_rangeCheckForAdd_d00df rmJx4a65c_rangeCheckForAdd_d00df (jPre2z D z μ sz [.ref b, .int x1] (wJx4a65c_rangeCheckForAdd_d00df z b x1 μ Q)) (jRz jfV Q D z (jA z μ sz)) 0 0 (jA z μ sz) := by
  refine Met.ofW (cc := cJx4a65c_rangeCheckForAdd_d00df) (maxL := 2) (ret := none) (by decide) rfl ?_
  intro p e s m args below meth c s₁ B hml hv
  obtain ⟨rfl, hsz, hH, hz0, hK, hG, hw⟩ := hv
  subst hsz
  have hX : jX2 D z (jA z μ s.heap.size) p l s m _ meth c yJx4a65c_rangeCheckForAdd_d00df cJx4a65c_rangeCheckForAdd_d00df 2 wsJx4a65c_rangeCheckForAdd_d00df none := ⟨B.exec, B.bytes, hml, findClass_of_methodNamed B.named, atoms_spec (ws := wsJx4a65c_rangeCheckForAdd_d00df) B.pre, B.returns, B.notSynchronized, (name_of_methodNamed B.named B.method).1, hK, hG, hfl⟩
  obtain ⟨ls, hg, hl⟩ : ∃ ls : Array Slot, entryFrame m ([.ref b, .int x1] : List Value).toArray 2 = F0 m 0 ls [] ∧ lv_has ls 2 [(0, va_rf (some b)), (1, .int x1)] := by
    exact ⟨_, lg_entry_eq .., lv_entry _ (n := 2) (Nat.le_of_ble_eq_true rfl)⟩
  rw [hg]
  exact kJx4a65c_rangeCheckForAdd_d00df_0 hX hw (jIz.start hH hz0) (lv_sub hl [0, 1] rfl) (by decide) (by decide)
set_option maxHeartbeats 4000000 in
set_option maxRecDepth 100000 in
theorem kJx4a65c_add_7a177_38 {b : Nat} (hX : jX2 D z A p l s m args meth c yJx4a65c_add_7a177 cJx4a65c_add_7a177 5 wsJx4a65c_add_7a177 none) {Q : Unit → jM → Prop}  {x1 : Int32} {x2 : Option Nat} {x3 : Int32} {x4 : Option Nat} {μ : jM} {H : Heap} {locs : List Loc} {ls : Array Slot} {cells slots : Nat} (hw : wJx4a65c_add_7a177_38 z b Q x1 x2 x3 x4 μ) (hI : jIz D z A s.heap μ H locs) (hl : lv_has ls 5 [(0, va_rf (some b)), (1, .int x1), (2, va_rf x2), (3, .int x3), (4, va_rf x4)]) (hcn : cells + 0 ≤ 1) (hsn : slots + 0 ≤ 32) : W p l e rmJx4a65c_add_7a177 s m args below meth c H locs cells slots (MQ below (jRz jfV Q D z A) args s 1 32 A) (F0 m 38 ls []) := by
  unfold wJx4a65c_add_7a177_38 at hw
  obtain ⟨hx, hb, hml, hown, hts, hr, hlocks, hnm, hK, hG, hfl⟩ := id hX
  have hown : s.vm.findClass RJx4a65c = some m.cls := hown
  have hfJx4a65c : ∀ w ∈ wsJx4a65c0, w.before args s = true := fun w h => hts w (List.mem_cons_of_mem _ (List.mem_append_right _ h))
  refine j_aload (r := x4) hx hb dJx4a65c_add_7a177_38 (lv_at hl 4 rfl) ?_
  refine lv_iload_n hx hb dJx4a65c_add_7a177_40 rfl (lv_at hl 1 rfl) ?_
  refine j_aload (r := x4) hx hb dJx4a65c_add_7a177_41 (lv_at hl 4 rfl) ?_
  refine lv_iload_n hx hb dJx4a65c_add_7a177_43 rfl (lv_at hl 1 rfl) ?_
  refine lv_iconst (v := (1)) hx hb dJx4a65c_add_7a177_44 (by decide) ?_
  refine lv_iadd hx hb dJx4a65c_add_7a177_45 ?_
  refine lv_iload_n hx hb dJx4a65c_add_7a177_46 rfl (lv_at hl 3 rfl) ?_
  refine lv_iload_n hx hb dJx4a65c_add_7a177_47 rfl (lv_at hl 1 rfl) ?_
  refine lv_isub hx hb dJx4a65c_add_7a177_48 ?_
  obtain ⟨μ1, hμ1, hw⟩ := hw
  refine j_copyqz (r0 := x4) (r1 := x4) hx hb (by rw [hml]; exact hl.1.symm) hown (hts (.methodLink RJx4a65c 112 arraycopyName) (List.mem_of_getElem? (i := 5) (by decide +kernel))) (hts (.native arraycopyName) (List.mem_of_getElem? (i := 6) (by decide +kernel))) (hts (.static arraycopyName) (List.mem_of_getElem? (i := 7) (by decide +kernel))) (hts (.initialized "java/lang/System") (List.mem_of_getElem? (i := 8) (by decide +kernel))) hG.2.2.2.2.2.2.1 hK hI hμ1 (Nat.le_of_ble_eq_true rfl) (by simp only [List.map, List.sum_cons, List.sum_nil, jrc, jci, jcl, jcr, jcn]; exact Nat.le_of_ble_eq_true rfl) dJx4a65c_add_7a177_49 (fun H locs hI => ?_)
  refine j_aload (r := x4) hx hb dJx4a65c_add_7a177_52 (lv_at hl 4 rfl) ?_
  refine lv_iload_n hx hb dJx4a65c_add_7a177_54 rfl (lv_at hl 1 rfl) ?_
  refine j_aload_n (r := x2) hx hb dJx4a65c_add_7a177_55 rfl (lv_at hl 2 rfl) ?_
  obtain ⟨hμ2o, μ2, hμ2, hw⟩ := hw
  refine j_aastz (r := x4) (x := x2) hx hb hK hI hG.2.2.2.2.2.2.1 hμ2 hμ2o dJx4a65c_add_7a177_56 (fun H locs hI => ?_)
  refine j_aload_n (r := (some b)) hx hb dJx4a65c_add_7a177_57 rfl (lv_at hl 0 rfl) ?_
  refine lv_iload_n hx hb dJx4a65c_add_7a177_58 rfl (lv_at hl 3 rfl) ?_
  refine lv_iconst (v := (1)) hx hb dJx4a65c_add_7a177_59 (by decide) ?_
  refine lv_iadd hx hb dJx4a65c_add_7a177_60 ?_
  obtain ⟨μ3, hμ3, hw⟩ := hw
  refine j_putz (C := RJx4a65c) (T := TJx4a65c) (N := 3) (ci := 2) (r := (some b)) (v := .int (x3 + (1 : Int32))) hx hb hfJx4a65c tyJx4a65c tyJx4a65c_ok nmJx4a65c hown hK hI rfl 2 (by decide) (hts (.fieldLink RJx4a65c 48 "java/util/ArrayList" "size" "I") (List.mem_of_getElem? (i := 3) (by decide +kernel))) (fun _ h => h) rfl (tyJx4a65c_ok 2 (by decide)) rfl rfl hμ3 dJx4a65c_add_7a177_61 (fun H locs hI => ?_)
  exact j_vretz hx hb hr hlocks hI hw (by omega) (by omega) dJx4a65c_add_7a177_64
set_option maxHeartbeats 4000000 in
set_option maxRecDepth 100000 in
theorem kJx4a65c_add_7a177_0 {b : Nat} (hX : jX2 D z A p l s m args meth c yJx4a65c_add_7a177 cJx4a65c_add_7a177 5 wsJx4a65c_add_7a177 none) {Q : Unit → jM → Prop}  {x1 : Int32} {x2 : Option Nat} {μ : jM} {H : Heap} {locs : List Loc} {ls : Array Slot} {cells slots : Nat} (hw : wJx4a65c_add_7a177_0 z b Q x1 x2 μ) (hI : jIz D z A s.heap μ H locs) (hl : lv_has ls 5 [(0, va_rf (some b)), (1, .int x1), (2, va_rf x2)]) (hcn : cells + 1 ≤ 1) (hsn : slots + 32 ≤ 32) : W p l e rmJx4a65c_add_7a177 s m args below meth c H locs cells slots (MQ below (jRz jfV Q D z A) args s 1 32 A) (F0 m 0 ls []) := by
  unfold wJx4a65c_add_7a177_0 at hw
  obtain ⟨hx, hb, hml, hown, hts, hr, hlocks, hnm, hK, hG, hfl⟩ := id hX
  have hown : s.vm.findClass RJx4a65c = some m.cls := hown
  have hfJx4a65c : ∀ w ∈ wsJx4a65c0, w.before args s = true := fun w h => hts w (List.mem_cons_of_mem _ (List.mem_append_right _ h))
  refine j_aload_n (r := (some b)) hx hb dJx4a65c_add_7a177_0 rfl (lv_at hl 0 rfl) ?_
  refine lv_iload_n hx hb dJx4a65c_add_7a177_1 rfl (lv_at hl 1 rfl) ?_
  obtain ⟨hfs, hw⟩ := hw
  refine j_goz hI (va_runV (As := [.int x1]) (rest := []) ⟨hx, hb, hml, hown, hts⟩ (kJx4a65c_rangeCheckForAdd_d00df l hfl D z b x1 μ H.size _) (cwV 1 hts gJx4a65c_add_7a177_Jx4a65c_rangeCheckForAdd_d00df rfl rfl rfl (by decide +kernel) ⟨Nat.le_of_ble_eq_true rfl, Nat.le_of_ble_eq_true rfl⟩) (j_prV2z hK hG hI hw (ci := 2) rfl hfs) rfl rfl hl.1 rfl (lv_room (Nat.le_of_ble_eq_true rfl)) dJx4a65c_add_7a177_2 ⟨by show _ ≤ 1; omega, by show _ ≤ 32; omega⟩) (fun u1 μ2 H locs hw hI => ?_)
  refine W.eq (g2 := F0 m 5 ls []) rfl ?_
  refine j_aload_n (r := (some b)) hx hb dJx4a65c_add_7a177_5 rfl (lv_at hl 0 rfl) ?_
  refine lv_dup hx hb dJx4a65c_add_7a177_6 rfl ?_
  obtain ⟨v3, hv3, hw⟩ := hw
  refine j_getz (C := RJx4a65c) (T := TJx4a65c) (N := 3) (ci := 2) (r := (some b)) (v := .int v3) hx hb hfJx4a65c hown hK hI rfl 0 (by decide) (hts (.fieldLink RJx4a65c 63 "java/util/ArrayList" "modCount" "I") (List.mem_of_getElem? (i := 1) (by decide +kernel))) (fun x h => u_same (hts (.sameField "java/util/ArrayList" "java/util/AbstractList" "modCount" "I") (List.mem_of_getElem? (i := 2) (by decide +kernel))) x h) hv3 dJx4a65c_add_7a177_7 ?_
  refine lv_iconst (v := (1)) hx hb dJx4a65c_add_7a177_10 (by decide) ?_
  refine lv_iadd hx hb dJx4a65c_add_7a177_11 ?_
  obtain ⟨μ4, hμ4, hw⟩ := hw
  refine j_putz (C := RJx4a65c) (T := TJx4a65c) (N := 3) (ci := 2) (r := (some b)) (v := .int (v3 + (1 : Int32))) hx hb hfJx4a65c tyJx4a65c tyJx4a65c_ok nmJx4a65c hown hK hI rfl 0 (by decide) (hts (.fieldLink RJx4a65c 63 "java/util/ArrayList" "modCount" "I") (List.mem_of_getElem? (i := 1) (by decide +kernel))) (fun x h => u_same (hts (.sameField "java/util/ArrayList" "java/util/AbstractList" "modCount" "I") (List.mem_of_getElem? (i := 2) (by decide +kernel))) x h) rfl (tyJx4a65c_ok 0 (by decide)) rfl rfl hμ4 dJx4a65c_add_7a177_12 (fun H locs hI => ?_)
  refine j_aload_n (r := (some b)) hx hb dJx4a65c_add_7a177_15 rfl (lv_at hl 0 rfl) ?_
  obtain ⟨v5, hv5, hw⟩ := hw
  refine j_getz (C := RJx4a65c) (T := TJx4a65c) (N := 3) (ci := 2) (r := (some b)) (v := .int v5) hx hb hfJx4a65c hown hK hI rfl 2 (by decide) (hts (.fieldLink RJx4a65c 48 "java/util/ArrayList" "size" "I") (List.mem_of_getElem? (i := 3) (by decide +kernel))) (fun _ h => h) hv5 dJx4a65c_add_7a177_16 ?_
  refine lv_dup hx hb dJx4a65c_add_7a177_19 rfl ?_
  refine j_istore_nA (r := x2) (F := fun w => [(0, va_rf (some b)), (1, .int x1), (2, w)]) (F2 := fun w => [(3, .int v5), (0, va_rf (some b)), (1, .int x1), (2, w)]) hx hb dJx4a65c_add_7a177_20 rfl hl (by decide) (fun w hw => by rcases hw with rfl | ⟨_, rfl⟩ <;> rfl) (fun ls hl => ?_)
  refine j_aload_n (r := (some b)) hx hb dJx4a65c_add_7a177_21 rfl (lv_at hl 1 rfl) ?_
  obtain ⟨v6, hv6, hw⟩ := hw
  refine j_getz (C := RJx4a65c) (T := TJx4a65c) (N := 3) (ci := 2) (r := (some b)) (v := va_rf v6) hx hb hfJx4a65c hown hK hI rfl 1 (by decide) (hts (.fieldLink RJx4a65c 9 "java/util/ArrayList" "elementData" "[Ljava/lang/Object;") (List.mem_of_getElem? (i := 4) (by decide +kernel))) (fun _ h => h) hv6 dJx4a65c_add_7a177_22 ?_
  refine lv_dup hx hb dJx4a65c_add_7a177_25 (jrc v6) ?_
  refine j_astore (r := v6) (lv' := [(4, va_rf v6), (3, .int v5), (0, va_rf (some b)), (1, .int x1), (2, va_rf x2)]) hx hb dJx4a65c_add_7a177_26 hl (by decide) rfl (fun ls hl => ?_)
  obtain ⟨v7, hv7, hw⟩ := hw
  refine j_alenz (r := v6) hx hb hK hI hv7 dJx4a65c_add_7a177_28 ?_
  refine lv_icmp_ne (tgt := 38) hx hb dJx4a65c_add_7a177_29 (by decide) (fun hc => ?_) (fun hc => ?_)
  · have hw := hw.1 hc
    exact kJx4a65c_add_7a177_38 hX  hw hI (lv_sub hl [2, 3, 4, 1, 0] rfl) (by omega) (by omega)
  · have hw := hw.2 hc
    refine j_aload_n (r := (some b)) hx hb dJx4a65c_add_7a177_32 rfl (lv_at hl 2 rfl) ?_
    obtain ⟨hfs, hw⟩ := hw
    refine j_goz hI (va_runV (As := []) (rest := []) ⟨hx, hb, hml, hown, hts⟩ (kJx4a65c_grow_d5877 l hfl D z b  μ4 H.size _) (cwV 0 hts gJx4a65c_add_7a177_Jx4a65c_grow_d5877 rfl rfl rfl (by decide +kernel) ⟨Nat.le_of_ble_eq_true rfl, Nat.le_of_ble_eq_true rfl⟩) (j_prV2z hK hG hI hw (ci := 2) rfl hfs) rfl rfl hl.1 rfl (lv_room (Nat.le_of_ble_eq_true rfl)) dJx4a65c_add_7a177_33 ⟨by show _ ≤ 1; omega, by show _ ≤ 32; omega⟩) (fun v8 μ9 H locs hw hI => ?_)
    refine W.eq (g2 := F0 m 36 ls [va_rf v8]) rfl ?_
    refine j_astore (r := v8) (lv' := [(4, va_rf v8), (3, .int v5), (0, va_rf (some b)), (1, .int x1), (2, va_rf x2)]) hx hb dJx4a65c_add_7a177_36 hl (by decide) rfl (fun ls hl => ?_)
    exact kJx4a65c_add_7a177_38 hX  hw hI (lv_sub hl [2, 3, 4, 1, 0] rfl) (by omega) (by omega)
set_option maxHeartbeats 4000000 in
set_option maxRecDepth 100000 in
theorem kJx4a65c_add_7a177 (l : Launch) (hfl : l.stackTraces = false) (D : jD) (z : Nat × Nat) (b : Nat) (x1 : Int32) (x2 : Option Nat) (μ : jM) (sz : Nat) (Q : Unit → jM → Prop) : Met l yJx4a65c_add_7a177 wsJx4a65c_add_7a177 rmJx4a65c_add_7a177 (jPre2z D z μ sz [.ref b, .int x1, va_rf x2] (wJx4a65c_add_7a177 z b x1 x2 μ Q)) (jRz jfV Q D z (jA z μ sz)) 1 32 (jA z μ sz) := by
  refine Met.ofW (cc := cJx4a65c_add_7a177) (maxL := 5) (ret := none) (by decide) rfl ?_
  intro p e s m args below meth c s₁ B hml hv
  obtain ⟨rfl, hsz, hH, hz0, hK, hG, hw⟩ := hv
  subst hsz
  have hX : jX2 D z (jA z μ s.heap.size) p l s m _ meth c yJx4a65c_add_7a177 cJx4a65c_add_7a177 5 wsJx4a65c_add_7a177 none := ⟨B.exec, B.bytes, hml, findClass_of_methodNamed B.named, atoms_spec (ws := wsJx4a65c_add_7a177) B.pre, B.returns, B.notSynchronized, (name_of_methodNamed B.named B.method).1, hK, hG, hfl⟩
  obtain ⟨ls, hg, hl⟩ : ∃ ls : Array Slot, entryFrame m ([.ref b, .int x1, va_rf x2] : List Value).toArray 5 = F0 m 0 ls [] ∧ lv_has ls 5 [(0, va_rf (some b)), (1, .int x1), (2, va_rf x2)] := by
    cases x2 <;> exact ⟨_, lg_entry_eq .., lv_entry _ (n := 5) (Nat.le_of_ble_eq_true rfl)⟩
  rw [hg]
  exact kJx4a65c_add_7a177_0 hX hw (jIz.start hH hz0) (lv_sub hl [0, 1, 2] rfl) (by decide) (by decide)
set_option maxHeartbeats 4000000 in
set_option maxRecDepth 100000 in
theorem kX6_rank_40 {b : Nat} (hX : jX2 D z A p l s m args meth c yX6_rank cX6_rank 3 wsX6_rank none) {Q : Unit → jM → Prop}  {x1 : Option Nat} {x2 : Int32} {μ : jM} {H : Heap} {locs : List Loc} {ls : Array Slot} {cells slots : Nat} (hw : wX6_rank_40 z b Q x1 x2 μ) (hI : jIz D z A s.heap μ H locs) (hl : lv_has ls 3 [(0, va_rf (some b)), (1, va_rf x1), (2, .int x2)]) (hcn : cells + 1 ≤ 1) (hsn : slots + 32 ≤ 32) : W p l e rmX6_rank s m args below meth c H locs cells slots (MQ below (jRz jfV Q D z A) args s 1 32 A) (F0 m 40 ls []) := by
  unfold wX6_rank_40 at hw
  obtain ⟨hx, hb, hml, hown, hts, hr, hlocks, hnm, hK, hG, hfl⟩ := id hX
  have hown : s.vm.findClass RX6 = some m.cls := hown
  have hfX6 : ∀ w ∈ wsX60, w.before args s = true := fun w h => hts w (List.mem_cons_of_mem _ (List.mem_append_left _ (List.mem_append_left _ (List.mem_append_right _ h))))
  refine j_aload_n (r := (some b)) hx hb dX6_rank_40 rfl (lv_at hl 0 rfl) ?_
  obtain ⟨v1, hv1, hw⟩ := hw
  refine j_getz (C := RX6) (T := TX6) (N := 5) (ci := 9) (r := (some b)) (v := va_rf v1) hx hb hfX6 hown hK hI rfl 4 (by decide) (hts (.fieldLink RX6 16 "CashPools$Pool" "ranked" "Ljava/util/ArrayList;") (List.mem_of_getElem? (i := 1) (by decide +kernel))) (fun _ h => h) hv1 dX6_rank_41 ?_
  refine lv_iload_n hx hb dX6_rank_44 rfl (lv_at hl 2 rfl) ?_
  refine j_aload_n (r := x1) hx hb dX6_rank_45 rfl (lv_at hl 1 rfl) ?_
  obtain ⟨b4, ⟨hrb4, hfs⟩, hw⟩ := hw
  refine j_goz hI (va_runV (As := [.int x2, va_rf x1]) (rest := []) ⟨hx, hb, hml, hown, hts⟩ (kJx4a65c_add_7a177 l hfl D z b4 x2 x1 μ H.size _) (cwV 2 hts gX6_rank_Jx4a65c_add_7a177 rfl rfl rfl (by decide +kernel) ⟨Nat.le_of_ble_eq_true rfl, Nat.le_of_ble_eq_true rfl⟩) (j_prV2z hK hG hI hw (ci := 2) rfl hfs) rfl rfl hl.1 (by rw [hrb4]; rfl) (lv_room (Nat.le_of_ble_eq_true rfl)) dX6_rank_46 ⟨by show _ ≤ 1; omega, by show _ ≤ 32; omega⟩) (fun u2 μ3 H locs hw hI => ?_)
  refine W.eq (g2 := F0 m 49 ls []) rfl ?_
  exact j_vretz hx hb hr hlocks hI hw (by omega) (by omega) dX6_rank_49
set_option maxHeartbeats 4000000 in
set_option maxRecDepth 100000 in
theorem kX6_rank_2 {b : Nat} (hX : jX2 D z A p l s m args meth c yX6_rank cX6_rank 3 wsX6_rank none) {Q : Unit → jM → Prop}  (n : Nat) : ∀ {x1 : Option Nat} {x2 : Int32} {μ : jM} {H : Heap} {locs : List Loc} {ls : Array Slot} {cells slots : Nat}, wX6_rank_2 z b Q n x1 x2 μ → jIz D z A s.heap μ H locs → lv_has ls 3 [(0, va_rf (some b)), (1, va_rf x1), (2, .int x2)] → cells + 1 ≤ 1 → slots + 32 ≤ 32 → W p l e rmX6_rank s m args below meth c H locs cells slots (MQ below (jRz jfV Q D z A) args s 1 32 A) (F0 m 2 ls []) := by
  induction n with
  | zero =>
    intros
    rename_i hw _ _ _ _
    exact (show False from hw).elim
  | succ n ih =>
    intro x1 x2 μ H locs ls cells slots hw hI hl hcn hsn
    have hw : wX6_rank_2_b z b Q (wX6_rank_2 z b Q n) x1 x2 μ := hw
    unfold wX6_rank_2_b at hw
    obtain ⟨hx, hb, hml, hown, hts, hr, hlocks, hnm, hK, hG, hfl⟩ := id hX
    have hown : s.vm.findClass RX6 = some m.cls := hown
    have hfX5 : ∀ w ∈ wsX50, w.before args s = true := fun w h => hts w (List.mem_cons_of_mem _ (List.mem_append_left _ (List.mem_append_right _ h)))
    have hfX6 : ∀ w ∈ wsX60, w.before args s = true := fun w h => hts w (List.mem_cons_of_mem _ (List.mem_append_left _ (List.mem_append_left _ (List.mem_append_right _ h))))
    refine lv_iload_n hx hb dX6_rank_2 rfl (lv_at hl 2 rfl) ?_
    refine j_aload_n (r := (some b)) hx hb dX6_rank_3 rfl (lv_at hl 0 rfl) ?_
    obtain ⟨v1, hv1, hw⟩ := hw
    refine j_getz (C := RX6) (T := TX6) (N := 5) (ci := 9) (r := (some b)) (v := va_rf v1) hx hb hfX6 hown hK hI rfl 4 (by decide) (hts (.fieldLink RX6 16 "CashPools$Pool" "ranked" "Ljava/util/ArrayList;") (List.mem_of_getElem? (i := 1) (by decide +kernel))) (fun _ h => h) hv1 dX6_rank_4 ?_
    obtain ⟨b4, ⟨hrb4, hfs⟩, hw⟩ := hw
    refine j_goz hI (va_runV (As := []) (rest := [.int x2]) ⟨hx, hb, hml, hown, hts⟩ (kJx4a65c_size_8abf5 l hfl D z b4  μ H.size _) (cwV 0 hts gX6_rank_Jx4a65c_size_8abf5 rfl rfl rfl (by decide +kernel) ⟨Nat.le_of_ble_eq_true rfl, Nat.le_of_ble_eq_true rfl⟩) (j_prV2z hK hG hI hw (ci := 2) rfl hfs) rfl rfl hl.1 (by rw [hrb4]; rfl) (lv_room (Nat.le_of_ble_eq_true rfl)) dX6_rank_7 ⟨by show _ ≤ 1; omega, by show _ ≤ 32; omega⟩) (fun v2 μ3 H locs hw hI => ?_)
    refine W.eq (g2 := F0 m 10 ls [.int v2, .int x2]) rfl ?_
    refine lv_icmp_ge (tgt := 40) hx hb dX6_rank_10 (by decide) (fun hc => ?_) (fun hc => ?_)
    · have hw := hw.1 hc
      exact kX6_rank_40 hX  hw hI (lv_sub hl [0, 1, 2] rfl) (by omega) (by omega)
    · have hw := hw.2 hc
      refine j_aload_n (r := (some b)) hx hb dX6_rank_13 rfl (lv_at hl 0 rfl) ?_
      obtain ⟨v5, hv5, hw⟩ := hw
      refine j_getz (C := RX6) (T := TX6) (N := 5) (ci := 9) (r := (some b)) (v := va_rf v5) hx hb hfX6 hown hK hI rfl 4 (by decide) (hts (.fieldLink RX6 16 "CashPools$Pool" "ranked" "Ljava/util/ArrayList;") (List.mem_of_getElem? (i := 1) (by decide +kernel))) (fun _ h => h) hv5 dX6_rank_14 ?_
      refine lv_iload_n hx hb dX6_rank_17 rfl (lv_at hl 2 rfl) ?_
      obtain ⟨b8, ⟨hrb8, hfs⟩, hw⟩ := hw
      refine j_goz hI (va_runV (As := [.int x2]) (rest := []) ⟨hx, hb, hml, hown, hts⟩ (kJx4a65c_get_915e3 l hfl D z b8 x2 μ3 H.size _) (cwV 1 hts gX6_rank_Jx4a65c_get_915e3 rfl rfl rfl (by decide +kernel) ⟨Nat.le_of_ble_eq_true rfl, Nat.le_of_ble_eq_true rfl⟩) (j_prV2z hK hG hI hw (ci := 2) rfl hfs) rfl rfl hl.1 (by rw [hrb8]; rfl) (lv_room (Nat.le_of_ble_eq_true rfl)) dX6_rank_18 ⟨by show _ ≤ 1; omega, by show _ ≤ 32; omega⟩) (fun v6 μ7 H locs hw hI => ?_)
      refine W.eq (g2 := F0 m 21 ls [va_rf v6]) rfl ?_
      obtain ⟨h9, hw⟩ := hw
      refine j_castz (C := RX5) (T := TX5) (N := 9) (ci := 8) (r := v6) hx hb hown (hts (.classLink RX6 43 "CashPools$Line") (List.mem_of_getElem? (i := 2) (by decide +kernel))) hK hI rfl h9 dX6_rank_21 ?_
      obtain ⟨v10, hv10, hw⟩ := hw
      refine j_getz (C := RX5) (T := TX5) (N := 9) (ci := 8) (r := v6) (v := .int v10) hx hb hfX5 hown hK hI rfl 2 (by decide) (hts (.fieldLink RX6 45 "CashPools$Line" "rate" "I") (List.mem_of_getElem? (i := 3) (by decide +kernel))) (fun _ h => h) hv10 dX6_rank_24 ?_
      refine j_aload_n (r := x1) hx hb dX6_rank_27 rfl (lv_at hl 1 rfl) ?_
      obtain ⟨v11, hv11, hw⟩ := hw
      refine j_getz (C := RX5) (T := TX5) (N := 9) (ci := 8) (r := x1) (v := .int v11) hx hb hfX5 hown hK hI rfl 2 (by decide) (hts (.fieldLink RX6 45 "CashPools$Line" "rate" "I") (List.mem_of_getElem? (i := 3) (by decide +kernel))) (fun _ h => h) hv11 dX6_rank_28 ?_
      refine lv_icmp_gt (tgt := 40) hx hb dX6_rank_31 (by decide) (fun hc => ?_) (fun hc => ?_)
      · have hw := hw.1 hc
        exact kX6_rank_40 hX  hw hI (lv_sub hl [0, 1, 2] rfl) (by omega) (by omega)
      · have hw := hw.2 hc
        obtain ⟨v12, ev12⟩ : ∃ y : Int32, y = x2 + (1 : Int32) := ⟨_, rfl⟩
        have hw := hw v12 ev12
        refine j_iincA (r := x1) (F := fun w => [(0, va_rf (some b)), (1, w), (2, .int x2)]) (F2 := fun w => [(2, .int v12), (0, va_rf (some b)), (1, w)]) (v := v12) hx hb dX6_rank_34 hl (k := 2) (fun _ => rfl) (by rw [ev12]; rfl) (by decide) (fun w hw => by rcases hw with rfl | ⟨_, rfl⟩ <;> rfl) (fun ls hl => ?_)
        refine lv_goto (tgt := 2) hx hb dX6_rank_37 (by decide) ?_
        exact ih hw hI (lv_sub hl [1, 2, 0] rfl) (by omega) (by omega)
set_option maxHeartbeats 4000000 in
set_option maxRecDepth 100000 in
theorem kX6_rank_0 {b : Nat} (hX : jX2 D z A p l s m args meth c yX6_rank cX6_rank 3 wsX6_rank none) {Q : Unit → jM → Prop}  {x1 : Option Nat} {μ : jM} {H : Heap} {locs : List Loc} {ls : Array Slot} {cells slots : Nat} (hw : wX6_rank_0 z b Q x1 μ) (hI : jIz D z A s.heap μ H locs) (hl : lv_has ls 3 [(0, va_rf (some b)), (1, va_rf x1)]) (hcn : cells + 1 ≤ 1) (hsn : slots + 32 ≤ 32) : W p l e rmX6_rank s m args below meth c H locs cells slots (MQ below (jRz jfV Q D z A) args s 1 32 A) (F0 m 0 ls []) := by
  unfold wX6_rank_0 at hw
  obtain ⟨hx, hb, hml, hown, hts, hr, hlocks, hnm, hK, hG, hfl⟩ := id hX
  have hown : s.vm.findClass RX6 = some m.cls := hown
  refine lv_iconst (v := (0)) hx hb dX6_rank_0 (by decide) ?_
  refine lv_topi (fun v1 ev1 => ?_)
  have hw := hw v1 ev1
  refine j_istore_nA (r := x1) (F := fun w => [(0, va_rf (some b)), (1, w)]) (F2 := fun w => [(2, .int v1), (0, va_rf (some b)), (1, w)]) hx hb dX6_rank_1 rfl hl (by decide) (fun w hw => by rcases hw with rfl | ⟨_, rfl⟩ <;> rfl) (fun ls hl => ?_)
  obtain ⟨n2, hw⟩ := hw
  exact kX6_rank_2 hX  n2 hw hI (lv_sub hl [1, 2, 0] rfl) (by omega) (by omega)
set_option maxHeartbeats 4000000 in
set_option maxRecDepth 100000 in
theorem kX6_rank (l : Launch) (hfl : l.stackTraces = false) (D : jD) (z : Nat × Nat) (b : Nat) (x1 : Option Nat) (μ : jM) (sz : Nat) (Q : Unit → jM → Prop) : Met l yX6_rank wsX6_rank rmX6_rank (jPre2z D z μ sz [.ref b, va_rf x1] (wX6_rank z b x1 μ Q)) (jRz jfV Q D z (jA z μ sz)) 1 32 (jA z μ sz) := by
  refine Met.ofW (cc := cX6_rank) (maxL := 3) (ret := none) (by decide) rfl ?_
  intro p e s m args below meth c s₁ B hml hv
  obtain ⟨rfl, hsz, hH, hz0, hK, hG, hw⟩ := hv
  subst hsz
  have hX : jX2 D z (jA z μ s.heap.size) p l s m _ meth c yX6_rank cX6_rank 3 wsX6_rank none := ⟨B.exec, B.bytes, hml, findClass_of_methodNamed B.named, atoms_spec (ws := wsX6_rank) B.pre, B.returns, B.notSynchronized, (name_of_methodNamed B.named B.method).1, hK, hG, hfl⟩
  obtain ⟨ls, hg, hl⟩ : ∃ ls : Array Slot, entryFrame m ([.ref b, va_rf x1] : List Value).toArray 3 = F0 m 0 ls [] ∧ lv_has ls 3 [(0, va_rf (some b)), (1, va_rf x1)] := by
    cases x1 <;> exact ⟨_, lg_entry_eq .., lv_entry _ (n := 3) (Nat.le_of_ble_eq_true rfl)⟩
  rw [hg]
  exact kX6_rank_0 hX hw (jIz.start hH hz0) (lv_sub hl [0, 1] rfl) (by decide) (by decide)
set_option maxHeartbeats 4000000 in
set_option maxRecDepth 100000 in
theorem kX3_openLine_0 {b : Nat} (hX : jX2 D z A p l s m args meth c yX3_openLine cX3_openLine 5 wsX3_openLine (some .int)) {Q : Int32 → jM → Prop}  {x1 : Option Nat} {x2 : Int32} {x3 : Int32} {μ : jM} {H : Heap} {locs : List Loc} {ls : Array Slot} {cells slots : Nat} (hw : wX3_openLine_0 z b Q x1 x2 x3 μ) (hI : jIz D z A s.heap μ H locs) (hl : lv_has ls 5 [(0, va_rf (some b)), (1, va_rf x1), (2, .int x2), (3, .int x3)]) (hcn : cells + 3 ≤ 3) (hsn : slots + 73 ≤ 73) : W p l e rmX3_openLine s m args below meth c H locs cells slots (MQ below (jRz jfI Q D z A) args s 3 73 A) (F0 m 0 ls []) := by
  unfold wX3_openLine_0 at hw
  obtain ⟨hx, hb, hml, hown, hts, hr, hlocks, hnm, hK, hG, hfl⟩ := id hX
  have hown : s.vm.findClass RX3 = some m.cls := hown
  have hfX0 : ∀ w ∈ wsX00, w.before args s = true := fun w h => hts w (List.mem_cons_of_mem _ (List.mem_append_left _ (List.mem_append_left _ (List.mem_append_right _ h))))
  have hfX3 : ∀ w ∈ wsX30, w.before args s = true := fun w h => hts w (List.mem_cons_of_mem _ (List.mem_append_left _ (List.mem_append_left _ (List.mem_append_left _ (List.mem_append_right _ h)))))
  have hfX5 : ∀ w ∈ wsX50, w.before args s = true := fun w h => hts w (List.mem_cons_of_mem _ (List.mem_append_left _ (List.mem_append_left _ (List.mem_append_left _ (List.mem_append_left _ (List.mem_append_right _ h))))))
  refine j_newz (C := RX5) (T := TX5) (N := 9) (ci := 8) (fs := jfX5) hx hb hfX5 tyX5 tyX5_ok hown (hts (.classLink RX3 74 RX5) (List.mem_of_getElem? (i := 1) (by decide +kernel))) (hts (.instantiable RX5 9) (List.mem_of_getElem? (i := 2) (by decide +kernel))) (hts (.initialized RX5) (List.mem_of_getElem? (i := 3) (by decide +kernel))) hK hI rfl jdX5 (by show _ ≤ 3; omega) (by show _ ≤ 73; omega) dX3_openLine_0 (fun q1 H hq1 hI => ?_)
  have hw := hw q1 hq1
  refine lv_dup hx hb dX3_openLine_3 rfl ?_
  refine j_aload_n (r := x1) hx hb dX3_openLine_4 rfl (lv_at hl 1 rfl) ?_
  refine lv_iload_n hx hb dX3_openLine_5 rfl (lv_at hl 2 rfl) ?_
  refine lv_iload_n hx hb dX3_openLine_6 rfl (lv_at hl 3 rfl) ?_
  refine j_goz hI (va_runI (As := [va_rf x1, .int x2, .int x3]) (rest := [va_rf (some q1)]) ⟨hx, hb, hml, hown, hts⟩ (kX5_init l hfl D z q1 x1 x2 x3 (va_up μ q1 (some (.inr (8, jfX5)))) H.size _) (cwI 3 hts gX3_openLine_X5_init rfl rfl rfl (hts (.initialized RX5) (List.mem_of_getElem? (i := 3) (by decide +kernel))) (hts (.methodLink RX3 76 yX5_init) (List.mem_of_getElem? (i := 6) (by decide +kernel))) (hts (.instanceMethod yX5_init) (List.mem_of_getElem? (i := 7) (by decide +kernel))) rfl (by decide +kernel) ⟨Nat.le_of_ble_eq_true rfl, Nat.le_of_ble_eq_true rfl⟩) (j_prS2z hK hG hI hw) rfl rfl hl.1 rfl (lv_room (Nat.le_of_ble_eq_true rfl)) dX3_openLine_7 ⟨by show _ ≤ 3; omega, by show _ ≤ 73; omega⟩) (fun u2 μ3 H locs hw hI => ?_)
  refine W.eq (g2 := F0 m 10 ls [va_rf (some q1)]) rfl ?_
  refine j_astore (r := (some q1)) (lv' := [(4, va_rf (some q1)), (0, va_rf (some b)), (1, va_rf x1), (2, .int x2), (3, .int x3)]) hx hb dX3_openLine_10 hl (by decide) rfl (fun ls hl => ?_)
  refine j_aload_n (r := (some b)) hx hb dX3_openLine_12 rfl (lv_at hl 1 rfl) ?_
  obtain ⟨v4, hv4, hw⟩ := hw
  refine j_getz (C := RX3) (T := TX3) (N := 8) (ci := 6) (r := (some b)) (v := va_rf v4) hx hb hfX3 hown hK hI rfl 2 (by decide) (hts (.fieldLink RX3 21 "CashPools$Desk" "everyLine" "Ljava/util/ArrayList;") (List.mem_of_getElem? (i := 4) (by decide +kernel))) (fun _ h => h) hv4 dX3_openLine_13 ?_
  refine j_aload (r := (some q1)) hx hb dX3_openLine_16 (lv_at hl 0 rfl) ?_
  obtain ⟨b7, ⟨hrb7, hfs⟩, hw⟩ := hw
  refine j_goz hI (va_runV (As := [va_rf (some q1)]) (rest := []) ⟨hx, hb, hml, hown, hts⟩ (kJx4a65c_add_9ea2d l hfl D z b7 (some q1) μ3 H.size _) (cwV 1 hts gX3_openLine_Jx4a65c_add_9ea2d rfl rfl rfl (by decide +kernel) ⟨Nat.le_of_ble_eq_true rfl, Nat.le_of_ble_eq_true rfl⟩) (j_prV2z hK hG hI hw (ci := 2) rfl hfs) rfl rfl hl.1 (by rw [hrb7]; rfl) (lv_room (Nat.le_of_ble_eq_true rfl)) dX3_openLine_18 ⟨by show _ ≤ 3; omega, by show _ ≤ 73; omega⟩) (fun v5 μ6 H locs hw hI => ?_)
  refine W.eq (g2 := F0 m 21 ls [.int v5]) rfl ?_
  refine lv_pop hx hb dX3_openLine_21 rfl ?_
  refine j_aload_n (r := x1) hx hb dX3_openLine_22 rfl (lv_at hl 2 rfl) ?_
  obtain ⟨v8, hv8, hw⟩ := hw
  refine j_getz (C := RX0) (T := TX0) (N := 12) (ci := 3) (r := x1) (v := va_rf v8) hx hb hfX0 hown hK hI rfl 2 (by decide) (hts (.fieldLink RX3 64 "CashPools$Account" "pool" "LCashPools$Pool;") (List.mem_of_getElem? (i := 5) (by decide +kernel))) (fun _ h => h) hv8 dX3_openLine_23 ?_
  refine j_aload (r := (some q1)) hx hb dX3_openLine_26 (lv_at hl 0 rfl) ?_
  obtain ⟨b11, ⟨hrb11, hfs⟩, hw⟩ := hw
  refine j_goz hI (va_runV (As := [va_rf (some q1)]) (rest := []) ⟨hx, hb, hml, hown, hts⟩ (kX6_rank l hfl D z b11 (some q1) μ6 H.size _) (cwV 1 hts gX3_openLine_X6_rank rfl rfl rfl (by decide +kernel) ⟨Nat.le_of_ble_eq_true rfl, Nat.le_of_ble_eq_true rfl⟩) (j_prV2z hK hG hI hw (ci := 9) rfl hfs) rfl rfl hl.1 (by rw [hrb11]; rfl) (lv_room (Nat.le_of_ble_eq_true rfl)) dX3_openLine_28 ⟨by show _ ≤ 3; omega, by show _ ≤ 73; omega⟩) (fun u9 μ10 H locs hw hI => ?_)
  refine W.eq (g2 := F0 m 31 ls []) rfl ?_
  refine j_aload_n (r := (some b)) hx hb dX3_openLine_31 rfl (lv_at hl 1 rfl) ?_
  obtain ⟨v12, hv12, hw⟩ := hw
  refine j_getz (C := RX3) (T := TX3) (N := 8) (ci := 6) (r := (some b)) (v := va_rf v12) hx hb hfX3 hown hK hI rfl 2 (by decide) (hts (.fieldLink RX3 21 "CashPools$Desk" "everyLine" "Ljava/util/ArrayList;") (List.mem_of_getElem? (i := 4) (by decide +kernel))) (fun _ h => h) hv12 dX3_openLine_32 ?_
  obtain ⟨b15, ⟨hrb15, hfs⟩, hw⟩ := hw
  refine j_goz hI (va_runV (As := []) (rest := []) ⟨hx, hb, hml, hown, hts⟩ (kJx4a65c_size_8abf5 l hfl D z b15  μ10 H.size _) (cwV 0 hts gX3_openLine_Jx4a65c_size_8abf5 rfl rfl rfl (by decide +kernel) ⟨Nat.le_of_ble_eq_true rfl, Nat.le_of_ble_eq_true rfl⟩) (j_prV2z hK hG hI hw (ci := 2) rfl hfs) rfl rfl hl.1 (by rw [hrb15]; rfl) (lv_room (Nat.le_of_ble_eq_true rfl)) dX3_openLine_35 ⟨by show _ ≤ 3; omega, by show _ ≤ 73; omega⟩) (fun v13 μ14 H locs hw hI => ?_)
  refine W.eq (g2 := F0 m 38 ls [.int v13]) rfl ?_
  refine lv_iconst (v := (1)) hx hb dX3_openLine_38 (by decide) ?_
  refine lv_isub hx hb dX3_openLine_39 ?_
  exact j_iretz hx hb hr hlocks hI hw (by omega) (by omega) dX3_openLine_40
set_option maxHeartbeats 4000000 in
set_option maxRecDepth 100000 in
theorem kX3_openLine (l : Launch) (hfl : l.stackTraces = false) (D : jD) (z : Nat × Nat) (b : Nat) (x1 : Option Nat) (x2 : Int32) (x3 : Int32) (μ : jM) (sz : Nat) (Q : Int32 → jM → Prop) : Met l yX3_openLine wsX3_openLine rmX3_openLine (jPre2z D z μ sz [.ref b, va_rf x1, .int x2, .int x3] (wX3_openLine z b x1 x2 x3 μ Q)) (jRz jfI Q D z (jA z μ sz)) 3 73 (jA z μ sz) := by
  refine Met.ofW (cc := cX3_openLine) (maxL := 5) (ret := (some .int)) (by decide) rfl ?_
  intro p e s m args below meth c s₁ B hml hv
  obtain ⟨rfl, hsz, hH, hz0, hK, hG, hw⟩ := hv
  subst hsz
  have hX : jX2 D z (jA z μ s.heap.size) p l s m _ meth c yX3_openLine cX3_openLine 5 wsX3_openLine (some .int) := ⟨B.exec, B.bytes, hml, findClass_of_methodNamed B.named, atoms_spec (ws := wsX3_openLine) B.pre, B.returns, B.notSynchronized, (name_of_methodNamed B.named B.method).1, hK, hG, hfl⟩
  obtain ⟨ls, hg, hl⟩ : ∃ ls : Array Slot, entryFrame m ([.ref b, va_rf x1, .int x2, .int x3] : List Value).toArray 5 = F0 m 0 ls [] ∧ lv_has ls 5 [(0, va_rf (some b)), (1, va_rf x1), (2, .int x2), (3, .int x3)] := by
    cases x1 <;> exact ⟨_, lg_entry_eq .., lv_entry _ (n := 5) (Nat.le_of_ble_eq_true rfl)⟩
  rw [hg]
  exact kX3_openLine_0 hX hw (jIz.start hH hz0) (lv_sub hl [0, 1, 2, 3] rfl) (by decide) (by decide)
set_option maxHeartbeats 4000000 in
set_option maxRecDepth 100000 in
theorem kX9_addLine_0 {b : Nat} (hX : jX2 D z A p l s m args meth c yX9_addLine cX9_addLine 5 wsX9_addLine (some .int)) {Q : Int32 → jM → Prop}  {x1 : Int32} {x2 : Int32} {x3 : Int32} {μ : jM} {H : Heap} {locs : List Loc} {ls : Array Slot} {cells slots : Nat} (hw : wX9_addLine_0 z b Q jN x1 x2 x3 μ) (hI : jIz D z A s.heap μ H locs) (hl : lv_has ls 5 [(0, va_rf (some b)), (1, .int x1), (2, .int x2), (3, .int x3)]) (hcn : cells + 3 ≤ 3) (hsn : slots + 73 ≤ 73) : W p l e rmX9_addLine s m args below meth c H locs cells slots (MQ below (jRz jfI Q D z A) args s 3 73 A) (F0 m 0 ls []) := by
  unfold wX9_addLine_0 at hw
  obtain ⟨hx, hb, hml, hown, hts, hr, hlocks, hnm, hK, hG, hfl⟩ := id hX
  have hown : s.vm.findClass RX9 = some m.cls := hown
  have hfX3 : ∀ w ∈ wsX30, w.before args s = true := fun w h => hts w (List.mem_cons_of_mem _ (List.mem_append_left _ (List.mem_append_left _ (List.mem_append_left _ (List.mem_append_left _ (List.mem_append_left _ (List.mem_append_left _ (List.mem_append_left _ (List.mem_append_right _ h)))))))))
  have hfX9 : ∀ w ∈ wsX90, w.before args s = true := fun w h => hts w (List.mem_cons_of_mem _ (List.mem_append_left _ (List.mem_append_left _ (List.mem_append_left _ (List.mem_append_left _ (List.mem_append_left _ (List.mem_append_left _ (List.mem_append_left _ (List.mem_append_left _ (List.mem_append_right _ h))))))))))
  refine j_aload_n (r := (some b)) hx hb dX9_addLine_0 rfl (lv_at hl 0 rfl) ?_
  refine lv_iload_n hx hb dX9_addLine_1 rfl (lv_at hl 1 rfl) ?_
  obtain ⟨hfs, hw⟩ := hw
  refine j_goz hI (va_runV (As := [.int x1]) (rest := []) ⟨hx, hb, hml, hown, hts⟩ (kX9_accountAt l hfl D z b x1 μ H.size _) (cwV 1 hts gX9_addLine_X9_accountAt rfl rfl rfl (by decide +kernel) ⟨Nat.le_of_ble_eq_true rfl, Nat.le_of_ble_eq_true rfl⟩) (j_prV2z hK hG hI hw (ci := 11) rfl hfs) rfl rfl hl.1 rfl (lv_room (Nat.le_of_ble_eq_true rfl)) dX9_addLine_2 ⟨by show _ ≤ 3; omega, by show _ ≤ 73; omega⟩) (fun v1 μ2 H locs hw hI => ?_)
  refine W.eq (g2 := F0 m 5 ls [va_rf v1]) rfl ?_
  refine j_astore (r := v1) (lv' := [(4, va_rf v1), (0, va_rf (some b)), (1, .int x1), (2, .int x2), (3, .int x3)]) hx hb dX9_addLine_5 hl (by decide) rfl (fun ls hl => ?_)
  refine lv_iload_n hx hb dX9_addLine_7 rfl (lv_at hl 3 rfl) ?_
  refine lv_iconst (v := (1)) hx hb dX9_addLine_8 (by decide) ?_
  refine lv_ldc (v := (10000000)) hx hb hown (hts (.constant RX9 64 (10000000)) (List.mem_of_getElem? (i := 3) (by decide +kernel))) dX9_addLine_9 ?_
  refine j_goz hI (va_runS (As := [.int x2, .int (1 : Int32), .int (10000000 : Int32)]) (rest := []) ⟨hx, hb, hml, hown, hts⟩ (kX9_requireWithin l hfl D z x2 (1 : Int32) (10000000 : Int32) μ2 H.size _) (va_cwS 3 hts gX9_addLine_X9_requireWithin rfl rfl rfl (by decide +kernel) ⟨Nat.le_of_ble_eq_true rfl, Nat.le_of_ble_eq_true rfl⟩) (j_prS2z hK hG hI hw) rfl rfl hl.1 rfl (lv_room (Nat.le_of_ble_eq_true rfl)) dX9_addLine_11 ⟨by show _ ≤ 3; omega, by show _ ≤ 73; omega⟩) (fun u3 μ4 H locs hw hI => ?_)
  refine W.eq (g2 := F0 m 14 ls []) rfl ?_
  refine lv_iload_n hx hb dX9_addLine_14 rfl (lv_at hl 4 rfl) ?_
  refine lv_iconst (v := (0)) hx hb dX9_addLine_15 (by decide) ?_
  refine lv_sipush (v := (1000)) hx hb dX9_addLine_16 (by decide) ?_
  refine j_goz hI (va_runS (As := [.int x3, .int (0 : Int32), .int (1000 : Int32)]) (rest := []) ⟨hx, hb, hml, hown, hts⟩ (kX9_requireWithin l hfl D z x3 (0 : Int32) (1000 : Int32) μ4 H.size _) (va_cwS 3 hts gX9_addLine_X9_requireWithin rfl rfl rfl (by decide +kernel) ⟨Nat.le_of_ble_eq_true rfl, Nat.le_of_ble_eq_true rfl⟩) (j_prS2z hK hG hI hw) rfl rfl hl.1 rfl (lv_room (Nat.le_of_ble_eq_true rfl)) dX9_addLine_19 ⟨by show _ ≤ 3; omega, by show _ ≤ 73; omega⟩) (fun u5 μ6 H locs hw hI => ?_)
  refine W.eq (g2 := F0 m 22 ls []) rfl ?_
  refine j_aload (r := v1) hx hb dX9_addLine_22 (lv_at hl 0 rfl) ?_
  refine j_goz hI (va_runS (As := [va_rf v1]) (rest := []) ⟨hx, hb, hml, hown, hts⟩ (kX9_requireTop l hfl D z v1 μ6 H.size _) (va_cwS 1 hts gX9_addLine_X9_requireTop rfl rfl rfl (by decide +kernel) ⟨Nat.le_of_ble_eq_true rfl, Nat.le_of_ble_eq_true rfl⟩) (j_prS2z hK hG hI hw) rfl rfl hl.1 rfl (lv_room (Nat.le_of_ble_eq_true rfl)) dX9_addLine_24 ⟨by show _ ≤ 3; omega, by show _ ≤ 73; omega⟩) (fun u7 μ8 H locs hw hI => ?_)
  refine W.eq (g2 := F0 m 27 ls []) rfl ?_
  refine j_aload_n (r := (some b)) hx hb dX9_addLine_27 rfl (lv_at hl 1 rfl) ?_
  obtain ⟨v9, hv9, hw⟩ := hw
  refine j_getz (C := RX9) (T := TX9) (N := 1) (ci := 11) (r := (some b)) (v := va_rf v9) hx hb hfX9 hown hK hI rfl 0 (by decide) (hts (.fieldLink RX9 10 "CashPools" "desk" "LCashPools$Desk;") (List.mem_of_getElem? (i := 4) (by decide +kernel))) (fun _ h => h) hv9 dX9_addLine_28 ?_
  obtain ⟨v10, hv10, hw⟩ := hw
  refine j_getz (C := RX3) (T := TX3) (N := 8) (ci := 6) (r := v9) (v := va_rf v10) hx hb hfX3 hown hK hI rfl 2 (by decide) (hts (.fieldLink RX9 69 "CashPools$Desk" "everyLine" "Ljava/util/ArrayList;") (List.mem_of_getElem? (i := 5) (by decide +kernel))) (fun _ h => h) hv10 dX9_addLine_31 ?_
  obtain ⟨b13, ⟨hrb13, hfs⟩, hw⟩ := hw
  refine j_goz hI (va_runV (As := []) (rest := []) ⟨hx, hb, hml, hown, hts⟩ (kJx4a65c_size_8abf5 l hfl D z b13  μ8 H.size _) (cwV 0 hts gX9_addLine_Jx4a65c_size_8abf5 rfl rfl rfl (by decide +kernel) ⟨Nat.le_of_ble_eq_true rfl, Nat.le_of_ble_eq_true rfl⟩) (j_prV2z hK hG hI hw (ci := 2) rfl hfs) rfl rfl hl.1 (by rw [hrb13]; rfl) (lv_room (Nat.le_of_ble_eq_true rfl)) dX9_addLine_34 ⟨by show _ ≤ 3; omega, by show _ ≤ 73; omega⟩) (fun v11 μ12 H locs hw hI => ?_)
  refine W.eq (g2 := F0 m 37 ls [.int v11]) rfl ?_
  refine lv_bipush (v := (6)) hx hb dX9_addLine_37 (by decide) ?_
  refine lv_icmp_lt (tgt := 52) hx hb dX9_addLine_39 (by decide) (fun hc => ?_) (fun hc => ?_)
  · have hw := hw.1 hc
    refine j_aload_n (r := (some b)) hx hb dX9_addLine_52 rfl (lv_at hl 1 rfl) ?_
    obtain ⟨v14, hv14, hw⟩ := hw
    refine j_getz (C := RX9) (T := TX9) (N := 1) (ci := 11) (r := (some b)) (v := va_rf v14) hx hb hfX9 hown hK hI rfl 0 (by decide) (hts (.fieldLink RX9 10 "CashPools" "desk" "LCashPools$Desk;") (List.mem_of_getElem? (i := 4) (by decide +kernel))) (fun _ h => h) hv14 dX9_addLine_53 ?_
    refine j_aload (r := v1) hx hb dX9_addLine_56 (lv_at hl 0 rfl) ?_
    refine lv_iload_n hx hb dX9_addLine_58 rfl (lv_at hl 3 rfl) ?_
    refine lv_iload_n hx hb dX9_addLine_59 rfl (lv_at hl 4 rfl) ?_
    obtain ⟨b17, ⟨hrb17, hfs⟩, hw⟩ := hw
    refine j_goz hI (va_runV (As := [va_rf v1, .int x2, .int x3]) (rest := []) ⟨hx, hb, hml, hown, hts⟩ (kX3_openLine l hfl D z b17 v1 x2 x3 μ12 H.size _) (cwV 3 hts gX9_addLine_X3_openLine rfl rfl rfl (by decide +kernel) ⟨Nat.le_of_ble_eq_true rfl, Nat.le_of_ble_eq_true rfl⟩) (j_prV2z hK hG hI hw (ci := 6) rfl hfs) rfl rfl hl.1 (by rw [hrb17]; rfl) (lv_room (Nat.le_of_ble_eq_true rfl)) dX9_addLine_60 ⟨by show _ ≤ 3; omega, by show _ ≤ 73; omega⟩) (fun v15 μ16 H locs hw hI => ?_)
    refine W.eq (g2 := F0 m 63 ls [.int v15]) rfl ?_
    exact j_iretz hx hb hr hlocks hI hw (by omega) (by omega) dX9_addLine_63
  · have hw := hw.2 hc
    exact (show False from hw).elim
set_option maxHeartbeats 4000000 in
set_option maxRecDepth 100000 in
theorem kX9_addLine (l : Launch) (hfl : l.stackTraces = false) (D : jD) (z : Nat × Nat) (b : Nat) (x1 : Int32) (x2 : Int32) (x3 : Int32) (μ : jM) (sz : Nat) (Q : Int32 → jM → Prop) : Met l yX9_addLine wsX9_addLine rmX9_addLine (jPre2z D z μ sz [.ref b, .int x1, .int x2, .int x3] (wX9_addLine z b x1 x2 x3 μ Q jN)) (jRz jfI Q D z (jA z μ sz)) 3 73 (jA z μ sz) := by
  refine Met.ofW (cc := cX9_addLine) (maxL := 5) (ret := (some .int)) (by decide) rfl ?_
  intro p e s m args below meth c s₁ B hml hv
  obtain ⟨rfl, hsz, hH, hz0, hK, hG, hw⟩ := hv
  subst hsz
  have hX : jX2 D z (jA z μ s.heap.size) p l s m _ meth c yX9_addLine cX9_addLine 5 wsX9_addLine (some .int) := ⟨B.exec, B.bytes, hml, findClass_of_methodNamed B.named, atoms_spec (ws := wsX9_addLine) B.pre, B.returns, B.notSynchronized, (name_of_methodNamed B.named B.method).1, hK, hG, hfl⟩
  obtain ⟨ls, hg, hl⟩ : ∃ ls : Array Slot, entryFrame m ([.ref b, .int x1, .int x2, .int x3] : List Value).toArray 5 = F0 m 0 ls [] ∧ lv_has ls 5 [(0, va_rf (some b)), (1, .int x1), (2, .int x2), (3, .int x3)] := by
    exact ⟨_, lg_entry_eq .., lv_entry _ (n := 5) (Nat.le_of_ble_eq_true rfl)⟩
  rw [hg]
  exact kX9_addLine_0 hX hw (jIz.start hH hz0) (lv_sub hl [0, 1, 2, 3] rfl) (by decide) (by decide)
set_option maxHeartbeats 4000000 in
set_option maxRecDepth 100000 in
theorem kL_borrows_62 (hX : jX2 D z A p l s m args meth c yL_borrows cL_borrows 6 wsL_borrows (some .boolean)) {Q : Int32 → jM → Prop}  {x0 : Option Nat} {x1 : Option Nat} {x2 : Int32} {x4 : Int32} {x5 : Int32} {t0 : Option Nat} {t1 : Int32} {t2 : Int32} {t3 : Int32} {μ : jM} {H : Heap} {locs : List Loc} {ls : Array Slot} {cells slots : Nat} (hw : wL_borrows_62 z Q x0 x1 x2 x4 x5 t0 t1 t2 t3 μ) (hI : jIz D z A s.heap μ H locs) (hl : lv_has ls 6 [(0, va_rf x0), (1, va_rf x1), (2, .int x2), (4, .int x4), (5, .int x5)]) (hcn : cells + 3 ≤ 3) (hsn : slots + 73 ≤ 73) : W p l e rmL_borrows s m args below meth c H locs cells slots (MQ below (jRz jfI Q D z A) args s 3 73 A) (F0 m 62 ls [.int t3, .int t2, .int t1, va_rf t0]) := by
  unfold wL_borrows_62 at hw
  obtain ⟨hx, hb, hml, hown, hts, hr, hlocks, hnm, hK, hG, hfl⟩ := id hX
  have hown : s.vm.findClass RL = some m.cls := hown
  refine lv_iadd hx hb dL_borrows_62 ?_
  obtain ⟨μ1, hμ1, hw⟩ := hw
  refine j_iastz (r := t0) hx hb hK hI hμ1 dL_borrows_63 (fun H locs hI => ?_)
  refine j_aload_n (r := x0) hx hb dL_borrows_64 rfl (lv_at hl 0 rfl) ?_
  refine j_aload_n (r := x1) hx hb dL_borrows_65 rfl (lv_at hl 1 rfl) ?_
  refine lv_iload_n hx hb dL_borrows_66 rfl (lv_at hl 2 rfl) ?_
  refine j_goz hI (va_runS (As := [va_rf x1, .int x2]) (rest := [va_rf x0]) ⟨hx, hb, hml, hown, hts⟩ (kL_top l hfl D z x1 x2 μ1 H.size _) (va_cwS 2 hts gL_borrows_L_top rfl rfl rfl (by decide +kernel) ⟨Nat.le_of_ble_eq_true rfl, Nat.le_of_ble_eq_true rfl⟩) (j_prS2z hK hG hI hw) rfl rfl hl.1 rfl (lv_room (by simp only [List.map, List.sum_cons, List.sum_nil, jrc, jci, jcl, jcr, jcn]; exact Nat.le_of_ble_eq_true rfl)) dL_borrows_67 ⟨by show _ ≤ 3; omega, by show _ ≤ 73; omega⟩) (fun v2 μ3 H locs hw hI => ?_)
  refine W.eq (g2 := F0 m 70 ls [.int v2, va_rf x0]) rfl ?_
  refine j_aload_n (r := x1) hx hb dL_borrows_70 rfl (lv_at hl 1 rfl) ?_
  refine lv_iconst (v := (2)) hx hb dL_borrows_71 (by decide) ?_
  refine lv_iload hx hb dL_borrows_72 (lv_at hl 4 rfl) ?_
  refine lv_imul hx hb dL_borrows_74 ?_
  refine lv_bipush (v := (23)) hx hb dL_borrows_75 (by decide) ?_
  refine lv_iadd hx hb dL_borrows_77 ?_
  obtain ⟨v4, hv4, hw⟩ := hw
  refine j_ialdz (r := x1) hx hb hK hI hv4 dL_borrows_78 ?_
  refine lv_iload hx hb dL_borrows_79 (lv_at hl 3 rfl) ?_
  refine lv_iconst (v := (2)) hx hb dL_borrows_81 (by decide) ?_
  refine lv_idiv hx hb dL_borrows_82 (by decide) ?_
  refine lv_sipush (v := (1001)) hx hb dL_borrows_83 (by decide) ?_
  refine lv_irem hx hb dL_borrows_86 (by decide) ?_
  obtain ⟨b7, ⟨hrb7, hfs⟩, hw⟩ := hw
  refine j_goz hI (va_runV (As := [.int v2, .int v4, .int ((x4 / (2 : Int32)) - (x4 / (2 : Int32)) / (1001 : Int32) * (1001 : Int32))]) (rest := []) ⟨hx, hb, hml, hown, hts⟩ (kX9_addLine l hfl D z b7 v2 v4 ((x4 / (2 : Int32)) - (x4 / (2 : Int32)) / (1001 : Int32) * (1001 : Int32)) μ3 H.size _) (cwV 3 hts gL_borrows_X9_addLine rfl rfl rfl (by decide +kernel) ⟨Nat.le_of_ble_eq_true rfl, Nat.le_of_ble_eq_true rfl⟩) (j_prV2z hK hG hI hw (ci := 11) rfl hfs) rfl rfl hl.1 (by rw [hrb7]; rfl) (lv_room (Nat.le_of_ble_eq_true rfl)) dL_borrows_87 ⟨by show _ ≤ 3; omega, by show _ ≤ 73; omega⟩) (fun v5 μ6 H locs hw hI => ?_)
  refine W.eq (g2 := F0 m 90 ls [.int v5]) rfl ?_
  refine lv_iload hx hb dL_borrows_90 (lv_at hl 4 rfl) ?_
  refine lv_icmp_ne (tgt := 99) hx hb dL_borrows_92 (by decide) (fun hc => ?_) (fun hc => ?_)
  · have hw := hw.1 hc
    refine lv_iconst (v := (0)) hx hb dL_borrows_99 (by decide) ?_
    exact j_zretz hx hb hr rfl hlocks hI hw (by omega) (by omega) dL_borrows_100
  · have hw := hw.2 hc
    refine lv_iconst (v := (1)) hx hb dL_borrows_95 (by decide) ?_
    refine lv_goto (tgt := 100) hx hb dL_borrows_96 (by decide) ?_
    exact j_zretz hx hb hr rfl hlocks hI hw (by omega) (by omega) dL_borrows_100
set_option maxHeartbeats 4000000 in
set_option maxRecDepth 100000 in
theorem kL_borrows_0 (hX : jX2 D z A p l s m args meth c yL_borrows cL_borrows 6 wsL_borrows (some .boolean)) {Q : Int32 → jM → Prop}  {x0 : Option Nat} {x1 : Option Nat} {x2 : Int32} {x3 : Int32} {x4 : Int32} {μ : jM} {H : Heap} {locs : List Loc} {ls : Array Slot} {cells slots : Nat} (hw : wL_borrows_0 z Q x0 x1 x2 x3 x4 μ) (hI : jIz D z A s.heap μ H locs) (hl : lv_has ls 6 [(0, va_rf x0), (1, va_rf x1), (2, .int x2), (3, .int x3), (4, .int x4)]) (hcn : cells + 3 ≤ 3) (hsn : slots + 73 ≤ 73) : W p l e rmL_borrows s m args below meth c H locs cells slots (MQ below (jRz jfI Q D z A) args s 3 73 A) (F0 m 0 ls []) := by
  unfold wL_borrows_0 at hw
  obtain ⟨hx, hb, hml, hown, hts, hr, hlocks, hnm, hK, hG, hfl⟩ := id hX
  have hown : s.vm.findClass RL = some m.cls := hown
  refine j_aload_n (r := x1) hx hb dL_borrows_0 rfl (lv_at hl 1 rfl) ?_
  refine lv_iconst (v := (1)) hx hb dL_borrows_1 (by decide) ?_
  obtain ⟨v1, hv1, hw⟩ := hw
  refine j_ialdz (r := x1) hx hb hK hI hv1 dL_borrows_2 ?_
  refine lv_istore (lv' := [(5, .int v1), (0, va_rf x0), (1, va_rf x1), (2, .int x2), (3, .int x3), (4, .int x4)]) hx hb dL_borrows_3 hl (by decide) rfl (fun ls hl => ?_)
  refine lv_iload hx hb dL_borrows_5 (lv_at hl 0 rfl) ?_
  refine lv_bipush (v := (6)) hx hb dL_borrows_7 (by decide) ?_
  refine lv_icmp_ne (tgt := 14) hx hb dL_borrows_9 (by decide) (fun hc => ?_) (fun hc => ?_)
  · have hw := hw.1 hc
    refine j_aload_n (r := x1) hx hb dL_borrows_14 rfl (lv_at hl 2 rfl) ?_
    refine lv_iconst (v := (1)) hx hb dL_borrows_15 (by decide) ?_
    refine lv_iload hx hb dL_borrows_16 (lv_at hl 0 rfl) ?_
    refine lv_iconst (v := (1)) hx hb dL_borrows_18 (by decide) ?_
    refine lv_iadd hx hb dL_borrows_19 ?_
    obtain ⟨μ2, hμ2, hw⟩ := hw
    refine j_iastz (r := x1) hx hb hK hI hμ2 dL_borrows_20 (fun H locs hI => ?_)
    refine j_aload_n (r := x1) hx hb dL_borrows_21 rfl (lv_at hl 2 rfl) ?_
    refine lv_iconst (v := (2)) hx hb dL_borrows_22 (by decide) ?_
    refine lv_iload hx hb dL_borrows_23 (lv_at hl 0 rfl) ?_
    refine lv_imul hx hb dL_borrows_25 ?_
    refine lv_bipush (v := (22)) hx hb dL_borrows_26 (by decide) ?_
    refine lv_iadd hx hb dL_borrows_28 ?_
    refine j_aload_n (r := x1) hx hb dL_borrows_29 rfl (lv_at hl 2 rfl) ?_
    refine lv_iload_n hx hb dL_borrows_30 rfl (lv_at hl 3 rfl) ?_
    refine j_goz hI (va_runS (As := [va_rf x1, .int x2]) (rest := [.int (((2 : Int32) * v1) + (22 : Int32)), va_rf x1]) ⟨hx, hb, hml, hown, hts⟩ (kL_top l hfl D z x1 x2 μ2 H.size _) (va_cwS 2 hts gL_borrows_L_top rfl rfl rfl (by decide +kernel) ⟨Nat.le_of_ble_eq_true rfl, Nat.le_of_ble_eq_true rfl⟩) (j_prS2z hK hG hI hw) rfl rfl hl.1 rfl (lv_room (by simp only [List.map, List.sum_cons, List.sum_nil, jrc, jci, jcl, jcr, jcn]; exact Nat.le_of_ble_eq_true rfl)) dL_borrows_31 ⟨by show _ ≤ 3; omega, by show _ ≤ 73; omega⟩) (fun v3 μ4 H locs hw hI => ?_)
    refine W.eq (g2 := F0 m 34 ls [.int v3, .int (((2 : Int32) * v1) + (22 : Int32)), va_rf x1]) rfl ?_
    obtain ⟨μ5, hμ5, hw⟩ := hw
    refine j_iastz (r := x1) hx hb hK hI hμ5 dL_borrows_34 (fun H locs hI => ?_)
    refine j_aload_n (r := x1) hx hb dL_borrows_35 rfl (lv_at hl 2 rfl) ?_
    refine lv_iconst (v := (2)) hx hb dL_borrows_36 (by decide) ?_
    refine lv_iload hx hb dL_borrows_37 (lv_at hl 0 rfl) ?_
    refine lv_imul hx hb dL_borrows_39 ?_
    refine lv_bipush (v := (23)) hx hb dL_borrows_40 (by decide) ?_
    refine lv_iadd hx hb dL_borrows_42 ?_
    refine lv_iconst (v := (1)) hx hb dL_borrows_43 (by decide) ?_
    refine lv_iload hx hb dL_borrows_44 (lv_at hl 5 rfl) ?_
    refine lv_iconst (v := (2)) hx hb dL_borrows_46 (by decide) ?_
    refine lv_irem hx hb dL_borrows_47 (by decide) ?_
    refine lv_if_ne (tgt := 58) hx hb dL_borrows_48 (by decide) (fun hc => ?_) (fun hc => ?_)
    · have hw := hw.1 hc
      refine lv_iload_n hx hb dL_borrows_58 rfl (lv_at hl 4 rfl) ?_
      refine lv_ldc (v := (500000)) hx hb hown (hts (.constant RL 112 (500000)) (List.mem_of_getElem? (i := 2) (by decide +kernel))) dL_borrows_59 ?_
      refine lv_irem hx hb dL_borrows_61 (by decide) ?_
      exact kL_borrows_62 hX  hw hI (lv_sub hl [1, 2, 3, 5, 0] rfl) (by omega) (by omega)
    · have hw := hw.2 hc
      refine lv_iload_n hx hb dL_borrows_51 rfl (lv_at hl 4 rfl) ?_
      refine lv_ldc (v := (10000000)) hx hb hown (hts (.constant RL 111 (10000000)) (List.mem_of_getElem? (i := 1) (by decide +kernel))) dL_borrows_52 ?_
      refine lv_irem hx hb dL_borrows_54 (by decide) ?_
      refine lv_goto (tgt := 62) hx hb dL_borrows_55 (by decide) ?_
      exact kL_borrows_62 hX  hw hI (lv_sub hl [1, 2, 3, 5, 0] rfl) (by omega) (by omega)
  · have hw := hw.2 hc
    refine lv_iconst (v := (1)) hx hb dL_borrows_12 (by decide) ?_
    exact j_zretz hx hb hr rfl hlocks hI hw (by omega) (by omega) dL_borrows_13
set_option maxHeartbeats 4000000 in
set_option maxRecDepth 100000 in
theorem kL_borrows (l : Launch) (hfl : l.stackTraces = false) (D : jD) (z : Nat × Nat) (x0 : Option Nat) (x1 : Option Nat) (x2 : Int32) (x3 : Int32) (x4 : Int32) (μ : jM) (sz : Nat) (Q : Int32 → jM → Prop) : Met l yL_borrows wsL_borrows rmL_borrows (jPre2z D z μ sz [va_rf x0, va_rf x1, .int x2, .int x3, .int x4] (wL_borrows z x0 x1 x2 x3 x4 μ Q)) (jRz jfI Q D z (jA z μ sz)) 3 73 (jA z μ sz) := by
  refine Met.ofW (cc := cL_borrows) (maxL := 6) (ret := (some .boolean)) (by decide) rfl ?_
  intro p e s m args below meth c s₁ B hml hv
  obtain ⟨rfl, hsz, hH, hz0, hK, hG, hw⟩ := hv
  subst hsz
  have hX : jX2 D z (jA z μ s.heap.size) p l s m _ meth c yL_borrows cL_borrows 6 wsL_borrows (some .boolean) := ⟨B.exec, B.bytes, hml, findClass_of_methodNamed B.named, atoms_spec (ws := wsL_borrows) B.pre, B.returns, B.notSynchronized, (name_of_methodNamed B.named B.method).1, hK, hG, hfl⟩
  obtain ⟨ls, hg, hl⟩ : ∃ ls : Array Slot, entryFrame m ([va_rf x0, va_rf x1, .int x2, .int x3, .int x4] : List Value).toArray 6 = F0 m 0 ls [] ∧ lv_has ls 6 [(0, va_rf x0), (1, va_rf x1), (2, .int x2), (3, .int x3), (4, .int x4)] := by
    cases x0 <;> cases x1 <;> exact ⟨_, lg_entry_eq .., lv_entry _ (n := 6) (Nat.le_of_ble_eq_true rfl)⟩
  rw [hg]
  exact kL_borrows_0 hX hw (jIz.start hH hz0) (lv_sub hl [0, 1, 2, 3, 4] rfl) (by decide) (by decide)
set_option maxHeartbeats 4000000 in
set_option maxRecDepth 100000 in
theorem kX9_setBankLimit_0 {b : Nat} (hX : jX2 D z A p l s m args meth c yX9_setBankLimit cX9_setBankLimit 5 wsX9_setBankLimit (some .int)) {Q : Int32 → jM → Prop}  {x1 : Int32} {x2 : Int32} {μ : jM} {H : Heap} {locs : List Loc} {ls : Array Slot} {cells slots : Nat} (hw : wX9_setBankLimit_0 z b Q jN x1 x2 μ) (hI : jIz D z A s.heap μ H locs) (hl : lv_has ls 5 [(0, va_rf (some b)), (1, .int x1), (2, .int x2)]) (hcn : cells + 0 ≤ 0) (hsn : slots + 0 ≤ 0) : W p l e rmX9_setBankLimit s m args below meth c H locs cells slots (MQ below (jRz jfI Q D z A) args s 0 0 A) (F0 m 0 ls []) := by
  unfold wX9_setBankLimit_0 at hw
  obtain ⟨hx, hb, hml, hown, hts, hr, hlocks, hnm, hK, hG, hfl⟩ := id hX
  have hown : s.vm.findClass RX9 = some m.cls := hown
  have hfX1 : ∀ w ∈ wsX10, w.before args s = true := fun w h => hts w (List.mem_cons_of_mem _ (List.mem_append_left _ (List.mem_append_left _ (List.mem_append_left _ (List.mem_append_left _ (List.mem_append_right _ h))))))
  refine j_aload_n (r := (some b)) hx hb dX9_setBankLimit_0 rfl (lv_at hl 0 rfl) ?_
  refine lv_iload_n hx hb dX9_setBankLimit_1 rfl (lv_at hl 1 rfl) ?_
  obtain ⟨hfs, hw⟩ := hw
  refine j_goz hI (va_runV (As := [.int x1]) (rest := []) ⟨hx, hb, hml, hown, hts⟩ (kX9_bankAt l hfl D z b x1 μ H.size _) (cwV 1 hts gX9_setBankLimit_X9_bankAt rfl rfl rfl (by decide +kernel) ⟨Nat.le_of_ble_eq_true rfl, Nat.le_of_ble_eq_true rfl⟩) (j_prV2z hK hG hI hw (ci := 11) rfl hfs) rfl rfl hl.1 rfl (lv_room (Nat.le_of_ble_eq_true rfl)) dX9_setBankLimit_2 ⟨by show _ ≤ 0; omega, by show _ ≤ 0; omega⟩) (fun v1 μ2 H locs hw hI => ?_)
  refine W.eq (g2 := F0 m 5 ls [va_rf v1]) rfl ?_
  refine j_astore_n (r := v1) (lv' := [(3, va_rf v1), (0, va_rf (some b)), (1, .int x1), (2, .int x2)]) hx hb dX9_setBankLimit_5 rfl hl (by decide) rfl (fun ls hl => ?_)
  refine lv_iload_n hx hb dX9_setBankLimit_6 rfl (lv_at hl 3 rfl) ?_
  refine lv_iconst (v := (-1)) hx hb dX9_setBankLimit_7 (by decide) ?_
  refine lv_ldc (v := (1000000000)) hx hb hown (hts (.constant RX9 85 (1000000000)) (List.mem_of_getElem? (i := 1) (by decide +kernel))) dX9_setBankLimit_8 ?_
  refine j_goz hI (va_runS (As := [.int x2, .int (-1 : Int32), .int (1000000000 : Int32)]) (rest := []) ⟨hx, hb, hml, hown, hts⟩ (kX9_requireWithin l hfl D z x2 (-1 : Int32) (1000000000 : Int32) μ2 H.size _) (va_cwS 3 hts gX9_setBankLimit_X9_requireWithin rfl rfl rfl (by decide +kernel) ⟨Nat.le_of_ble_eq_true rfl, Nat.le_of_ble_eq_true rfl⟩) (j_prS2z hK hG hI hw) rfl rfl hl.1 rfl (lv_room (Nat.le_of_ble_eq_true rfl)) dX9_setBankLimit_10 ⟨by show _ ≤ 0; omega, by show _ ≤ 0; omega⟩) (fun u3 μ4 H locs hw hI => ?_)
  refine W.eq (g2 := F0 m 13 ls []) rfl ?_
  refine j_aload_n (r := v1) hx hb dX9_setBankLimit_13 rfl (lv_at hl 0 rfl) ?_
  obtain ⟨v5, hv5, hw⟩ := hw
  refine j_getz (C := RX1) (T := TX1) (N := 3) (ci := 4) (r := v1) (v := .int v5) hx hb hfX1 hown hK hI rfl 1 (by decide) (hts (.fieldLink RX9 86 "CashPools$Bank" "limit" "I") (List.mem_of_getElem? (i := 2) (by decide +kernel))) (fun _ h => h) hv5 dX9_setBankLimit_14 ?_
  refine j_istoreA (r := v1) (F := fun w => [(3, w), (0, va_rf (some b)), (1, .int x1), (2, .int x2)]) (F2 := fun w => [(4, .int v5), (3, w), (0, va_rf (some b)), (1, .int x1), (2, .int x2)]) hx hb dX9_setBankLimit_17 hl (by decide) (fun w hw => by rcases hw with rfl | ⟨_, rfl⟩ <;> rfl) (fun ls hl => ?_)
  refine j_aload_n (r := v1) hx hb dX9_setBankLimit_19 rfl (lv_at hl 1 rfl) ?_
  refine lv_iload_n hx hb dX9_setBankLimit_20 rfl (lv_at hl 4 rfl) ?_
  obtain ⟨μ6, hμ6, hw⟩ := hw
  refine j_putz (C := RX1) (T := TX1) (N := 3) (ci := 4) (r := v1) (v := .int x2) hx hb hfX1 tyX1 tyX1_ok nmX1 hown hK hI rfl 1 (by decide) (hts (.fieldLink RX9 86 "CashPools$Bank" "limit" "I") (List.mem_of_getElem? (i := 2) (by decide +kernel))) (fun _ h => h) rfl (tyX1_ok 1 (by decide)) rfl rfl hμ6 dX9_setBankLimit_21 (fun H locs hI => ?_)
  refine lv_iload hx hb dX9_setBankLimit_24 (lv_at hl 0 rfl) ?_
  exact j_iretz hx hb hr hlocks hI hw (by omega) (by omega) dX9_setBankLimit_26
set_option maxHeartbeats 4000000 in
set_option maxRecDepth 100000 in
theorem kX9_setBankLimit (l : Launch) (hfl : l.stackTraces = false) (D : jD) (z : Nat × Nat) (b : Nat) (x1 : Int32) (x2 : Int32) (μ : jM) (sz : Nat) (Q : Int32 → jM → Prop) : Met l yX9_setBankLimit wsX9_setBankLimit rmX9_setBankLimit (jPre2z D z μ sz [.ref b, .int x1, .int x2] (wX9_setBankLimit z b x1 x2 μ Q jN)) (jRz jfI Q D z (jA z μ sz)) 0 0 (jA z μ sz) := by
  refine Met.ofW (cc := cX9_setBankLimit) (maxL := 5) (ret := (some .int)) (by decide) rfl ?_
  intro p e s m args below meth c s₁ B hml hv
  obtain ⟨rfl, hsz, hH, hz0, hK, hG, hw⟩ := hv
  subst hsz
  have hX : jX2 D z (jA z μ s.heap.size) p l s m _ meth c yX9_setBankLimit cX9_setBankLimit 5 wsX9_setBankLimit (some .int) := ⟨B.exec, B.bytes, hml, findClass_of_methodNamed B.named, atoms_spec (ws := wsX9_setBankLimit) B.pre, B.returns, B.notSynchronized, (name_of_methodNamed B.named B.method).1, hK, hG, hfl⟩
  obtain ⟨ls, hg, hl⟩ : ∃ ls : Array Slot, entryFrame m ([.ref b, .int x1, .int x2] : List Value).toArray 5 = F0 m 0 ls [] ∧ lv_has ls 5 [(0, va_rf (some b)), (1, .int x1), (2, .int x2)] := by
    exact ⟨_, lg_entry_eq .., lv_entry _ (n := 5) (Nat.le_of_ble_eq_true rfl)⟩
  rw [hg]
  exact kX9_setBankLimit_0 hX hw (jIz.start hH hz0) (lv_sub hl [0, 1, 2] rfl) (by decide) (by decide)
set_option maxHeartbeats 4000000 in
set_option maxRecDepth 100000 in
theorem kX2_markHoliday_0 {b : Nat} (hX : jX2 D z A p l s m args meth c yX2_markHoliday cX2_markHoliday 2 wsX2_markHoliday none) {Q : Unit → jM → Prop}  {x1 : Int32} {μ : jM} {H : Heap} {locs : List Loc} {ls : Array Slot} {cells slots : Nat} (hw : wX2_markHoliday_0 z b Q x1 μ) (hI : jIz D z A s.heap μ H locs) (hl : lv_has ls 2 [(0, va_rf (some b)), (1, .int x1)]) (hcn : cells + 0 ≤ 0) (hsn : slots + 0 ≤ 0) : W p l e rmX2_markHoliday s m args below meth c H locs cells slots (MQ below (jRz jfV Q D z A) args s 0 0 A) (F0 m 0 ls []) := by
  unfold wX2_markHoliday_0 at hw
  obtain ⟨hx, hb, hml, hown, hts, hr, hlocks, hnm, hK, hG, hfl⟩ := id hX
  have hown : s.vm.findClass RX2 = some m.cls := hown
  have hfX2 : ∀ w ∈ wsX20, w.before args s = true := fun w h => hts w (List.mem_cons_of_mem _ (List.mem_append_right _ h))
  refine lv_iload_n hx hb dX2_markHoliday_0 rfl (lv_at hl 1 rfl) ?_
  refine lv_if_lt (tgt := 20) hx hb dX2_markHoliday_1 (by decide) (fun hc => ?_) (fun hc => ?_)
  · have hw := hw.1 hc
    exact j_vretz hx hb hr hlocks hI hw (by omega) (by omega) dX2_markHoliday_20
  · have hw := hw.2 hc
    refine lv_iload_n hx hb dX2_markHoliday_4 rfl (lv_at hl 1 rfl) ?_
    refine j_aload_n (r := (some b)) hx hb dX2_markHoliday_5 rfl (lv_at hl 0 rfl) ?_
    obtain ⟨v1, hv1, hw⟩ := hw
    refine j_getz (C := RX2) (T := TX2) (N := 1) (ci := 5) (r := (some b)) (v := va_rf v1) hx hb hfX2 hown hK hI rfl 0 (by decide) (hts (.fieldLink RX2 9 "CashPools$Calendar" "holiday" "[Z") (List.mem_of_getElem? (i := 1) (by decide +kernel))) (fun _ h => h) hv1 dX2_markHoliday_6 ?_
    obtain ⟨v2, hv2, hw⟩ := hw
    refine j_alenz (r := v1) hx hb hK hI hv2 dX2_markHoliday_9 ?_
    refine lv_icmp_ge (tgt := 20) hx hb dX2_markHoliday_10 (by decide) (fun hc => ?_) (fun hc => ?_)
    · have hw := hw.1 hc
      exact j_vretz hx hb hr hlocks hI hw (by omega) (by omega) dX2_markHoliday_20
    · have hw := hw.2 hc
      refine j_aload_n (r := (some b)) hx hb dX2_markHoliday_13 rfl (lv_at hl 0 rfl) ?_
      obtain ⟨v3, hv3, hw⟩ := hw
      refine j_getz (C := RX2) (T := TX2) (N := 1) (ci := 5) (r := (some b)) (v := va_rf v3) hx hb hfX2 hown hK hI rfl 0 (by decide) (hts (.fieldLink RX2 9 "CashPools$Calendar" "holiday" "[Z") (List.mem_of_getElem? (i := 1) (by decide +kernel))) (fun _ h => h) hv3 dX2_markHoliday_14 ?_
      refine lv_iload_n hx hb dX2_markHoliday_17 rfl (lv_at hl 1 rfl) ?_
      refine lv_iconst (v := (1)) hx hb dX2_markHoliday_18 (by decide) ?_
      obtain ⟨μ4, hμ4, hw⟩ := hw
      refine j_zastz (r := v3) hx hb hK hI hμ4 dX2_markHoliday_19 (fun H locs hI => ?_)
      exact j_vretz hx hb hr hlocks hI hw (by omega) (by omega) dX2_markHoliday_20
set_option maxHeartbeats 4000000 in
set_option maxRecDepth 100000 in
theorem kX2_markHoliday (l : Launch) (hfl : l.stackTraces = false) (D : jD) (z : Nat × Nat) (b : Nat) (x1 : Int32) (μ : jM) (sz : Nat) (Q : Unit → jM → Prop) : Met l yX2_markHoliday wsX2_markHoliday rmX2_markHoliday (jPre2z D z μ sz [.ref b, .int x1] (wX2_markHoliday z b x1 μ Q)) (jRz jfV Q D z (jA z μ sz)) 0 0 (jA z μ sz) := by
  refine Met.ofW (cc := cX2_markHoliday) (maxL := 2) (ret := none) (by decide) rfl ?_
  intro p e s m args below meth c s₁ B hml hv
  obtain ⟨rfl, hsz, hH, hz0, hK, hG, hw⟩ := hv
  subst hsz
  have hX : jX2 D z (jA z μ s.heap.size) p l s m _ meth c yX2_markHoliday cX2_markHoliday 2 wsX2_markHoliday none := ⟨B.exec, B.bytes, hml, findClass_of_methodNamed B.named, atoms_spec (ws := wsX2_markHoliday) B.pre, B.returns, B.notSynchronized, (name_of_methodNamed B.named B.method).1, hK, hG, hfl⟩
  obtain ⟨ls, hg, hl⟩ : ∃ ls : Array Slot, entryFrame m ([.ref b, .int x1] : List Value).toArray 2 = F0 m 0 ls [] ∧ lv_has ls 2 [(0, va_rf (some b)), (1, .int x1)] := by
    exact ⟨_, lg_entry_eq .., lv_entry _ (n := 2) (Nat.le_of_ble_eq_true rfl)⟩
  rw [hg]
  exact kX2_markHoliday_0 hX hw (jIz.start hH hz0) (lv_sub hl [0, 1] rfl) (by decide) (by decide)
set_option maxHeartbeats 4000000 in
set_option maxRecDepth 100000 in
theorem kX2_settles_27 {b : Nat} (hX : jX2 D z A p l s m args meth c yX2_settles cX2_settles 3 wsX2_settles (some .boolean)) {Q : Int32 → jM → Prop}  {x1 : Int32} {t0 : Int32} {μ : jM} {H : Heap} {locs : List Loc} {ls : Array Slot} {cells slots : Nat} (hw : wX2_settles_27 z b Q x1 t0 μ) (hI : jIz D z A s.heap μ H locs) (hl : lv_has ls 3 [(0, va_rf (some b)), (1, .int x1)]) (hcn : cells + 0 ≤ 0) (hsn : slots + 0 ≤ 0) : W p l e rmX2_settles s m args below meth c H locs cells slots (MQ below (jRz jfI Q D z A) args s 0 0 A) (F0 m 27 ls [.int t0]) := by
  unfold wX2_settles_27 at hw
  obtain ⟨hx, hb, hml, hown, hts, hr, hlocks, hnm, hK, hG, hfl⟩ := id hX
  have hown : s.vm.findClass RX2 = some m.cls := hown
  refine lv_istore_n (lv' := [(2, .int t0), (0, va_rf (some b)), (1, .int x1)]) hx hb dX2_settles_27 rfl hl (by decide) rfl (fun ls hl => ?_)
  refine lv_iload_n hx hb dX2_settles_28 rfl (lv_at hl 2 rfl) ?_
  refine lv_bipush (v := (7)) hx hb dX2_settles_29 (by decide) ?_
  refine lv_irem hx hb dX2_settles_31 (by decide) ?_
  refine lv_iconst (v := (5)) hx hb dX2_settles_32 (by decide) ?_
  refine lv_icmp_ge (tgt := 44) hx hb dX2_settles_33 (by decide) (fun hc => ?_) (fun hc => ?_)
  · have hw := hw.1 hc
    refine lv_iconst (v := (0)) hx hb dX2_settles_44 (by decide) ?_
    exact j_zretz hx hb hr rfl hlocks hI hw (by omega) (by omega) dX2_settles_45
  · have hw := hw.2 hc
    refine lv_iload_n hx hb dX2_settles_36 rfl (lv_at hl 0 rfl) ?_
    refine lv_if_ne (tgt := 44) hx hb dX2_settles_37 (by decide) (fun hc => ?_) (fun hc => ?_)
    · have hw := hw.1 hc
      refine lv_iconst (v := (0)) hx hb dX2_settles_44 (by decide) ?_
      exact j_zretz hx hb hr rfl hlocks hI hw (by omega) (by omega) dX2_settles_45
    · have hw := hw.2 hc
      refine lv_iconst (v := (1)) hx hb dX2_settles_40 (by decide) ?_
      refine lv_goto (tgt := 45) hx hb dX2_settles_41 (by decide) ?_
      exact j_zretz hx hb hr rfl hlocks hI hw (by omega) (by omega) dX2_settles_45
set_option maxHeartbeats 4000000 in
set_option maxRecDepth 100000 in
theorem kX2_settles_26 {b : Nat} (hX : jX2 D z A p l s m args meth c yX2_settles cX2_settles 3 wsX2_settles (some .boolean)) {Q : Int32 → jM → Prop}  {x1 : Int32} {μ : jM} {H : Heap} {locs : List Loc} {ls : Array Slot} {cells slots : Nat} (hw : wX2_settles_26 z b Q x1 μ) (hI : jIz D z A s.heap μ H locs) (hl : lv_has ls 3 [(0, va_rf (some b)), (1, .int x1)]) (hcn : cells + 0 ≤ 0) (hsn : slots + 0 ≤ 0) : W p l e rmX2_settles s m args below meth c H locs cells slots (MQ below (jRz jfI Q D z A) args s 0 0 A) (F0 m 26 ls []) := by
  unfold wX2_settles_26 at hw
  obtain ⟨hx, hb, hml, hown, hts, hr, hlocks, hnm, hK, hG, hfl⟩ := id hX
  have hown : s.vm.findClass RX2 = some m.cls := hown
  refine lv_iconst (v := (0)) hx hb dX2_settles_26 (by decide) ?_
  exact kX2_settles_27 hX  hw hI (lv_sub hl [0, 1] rfl) (by omega) (by omega)
set_option maxHeartbeats 4000000 in
set_option maxRecDepth 100000 in
theorem kX2_settles_0 {b : Nat} (hX : jX2 D z A p l s m args meth c yX2_settles cX2_settles 3 wsX2_settles (some .boolean)) {Q : Int32 → jM → Prop}  {x1 : Int32} {μ : jM} {H : Heap} {locs : List Loc} {ls : Array Slot} {cells slots : Nat} (hw : wX2_settles_0 z b Q x1 μ) (hI : jIz D z A s.heap μ H locs) (hl : lv_has ls 3 [(0, va_rf (some b)), (1, .int x1)]) (hcn : cells + 0 ≤ 0) (hsn : slots + 0 ≤ 0) : W p l e rmX2_settles s m args below meth c H locs cells slots (MQ below (jRz jfI Q D z A) args s 0 0 A) (F0 m 0 ls []) := by
  unfold wX2_settles_0 at hw
  obtain ⟨hx, hb, hml, hown, hts, hr, hlocks, hnm, hK, hG, hfl⟩ := id hX
  have hown : s.vm.findClass RX2 = some m.cls := hown
  have hfX2 : ∀ w ∈ wsX20, w.before args s = true := fun w h => hts w (List.mem_cons_of_mem _ (List.mem_append_right _ h))
  refine lv_iload_n hx hb dX2_settles_0 rfl (lv_at hl 1 rfl) ?_
  refine lv_if_lt (tgt := 26) hx hb dX2_settles_1 (by decide) (fun hc => ?_) (fun hc => ?_)
  · have hw := hw.1 hc
    exact kX2_settles_26 hX  hw hI (lv_sub hl [0, 1] rfl) (by omega) (by omega)
  · have hw := hw.2 hc
    refine lv_iload_n hx hb dX2_settles_4 rfl (lv_at hl 1 rfl) ?_
    refine j_aload_n (r := (some b)) hx hb dX2_settles_5 rfl (lv_at hl 0 rfl) ?_
    obtain ⟨v1, hv1, hw⟩ := hw
    refine j_getz (C := RX2) (T := TX2) (N := 1) (ci := 5) (r := (some b)) (v := va_rf v1) hx hb hfX2 hown hK hI rfl 0 (by decide) (hts (.fieldLink RX2 9 "CashPools$Calendar" "holiday" "[Z") (List.mem_of_getElem? (i := 1) (by decide +kernel))) (fun _ h => h) hv1 dX2_settles_6 ?_
    obtain ⟨v2, hv2, hw⟩ := hw
    refine j_alenz (r := v1) hx hb hK hI hv2 dX2_settles_9 ?_
    refine lv_icmp_ge (tgt := 26) hx hb dX2_settles_10 (by decide) (fun hc => ?_) (fun hc => ?_)
    · have hw := hw.1 hc
      exact kX2_settles_26 hX  hw hI (lv_sub hl [0, 1] rfl) (by omega) (by omega)
    · have hw := hw.2 hc
      refine j_aload_n (r := (some b)) hx hb dX2_settles_13 rfl (lv_at hl 0 rfl) ?_
      obtain ⟨v3, hv3, hw⟩ := hw
      refine j_getz (C := RX2) (T := TX2) (N := 1) (ci := 5) (r := (some b)) (v := va_rf v3) hx hb hfX2 hown hK hI rfl 0 (by decide) (hts (.fieldLink RX2 9 "CashPools$Calendar" "holiday" "[Z") (List.mem_of_getElem? (i := 1) (by decide +kernel))) (fun _ h => h) hv3 dX2_settles_14 ?_
      refine lv_iload_n hx hb dX2_settles_17 rfl (lv_at hl 1 rfl) ?_
      obtain ⟨v4, hv4, hw⟩ := hw
      refine j_zaldz (r := v3) hx hb hK hI hv4 dX2_settles_18 ?_
      refine lv_if_eq (tgt := 26) hx hb dX2_settles_19 (by decide) (fun hc => ?_) (fun hc => ?_)
      · have hw := hw.1 hc
        exact kX2_settles_26 hX  hw hI (lv_sub hl [0, 1] rfl) (by omega) (by omega)
      · have hw := hw.2 hc
        refine lv_iconst (v := (1)) hx hb dX2_settles_22 (by decide) ?_
        refine lv_goto (tgt := 27) hx hb dX2_settles_23 (by decide) ?_
        exact kX2_settles_27 hX  hw hI (lv_sub hl [0, 1] rfl) (by omega) (by omega)
set_option maxHeartbeats 4000000 in
set_option maxRecDepth 100000 in
theorem kX2_settles (l : Launch) (hfl : l.stackTraces = false) (D : jD) (z : Nat × Nat) (b : Nat) (x1 : Int32) (μ : jM) (sz : Nat) (Q : Int32 → jM → Prop) : Met l yX2_settles wsX2_settles rmX2_settles (jPre2z D z μ sz [.ref b, .int x1] (wX2_settles z b x1 μ Q)) (jRz jfI Q D z (jA z μ sz)) 0 0 (jA z μ sz) := by
  refine Met.ofW (cc := cX2_settles) (maxL := 3) (ret := (some .boolean)) (by decide) rfl ?_
  intro p e s m args below meth c s₁ B hml hv
  obtain ⟨rfl, hsz, hH, hz0, hK, hG, hw⟩ := hv
  subst hsz
  have hX : jX2 D z (jA z μ s.heap.size) p l s m _ meth c yX2_settles cX2_settles 3 wsX2_settles (some .boolean) := ⟨B.exec, B.bytes, hml, findClass_of_methodNamed B.named, atoms_spec (ws := wsX2_settles) B.pre, B.returns, B.notSynchronized, (name_of_methodNamed B.named B.method).1, hK, hG, hfl⟩
  obtain ⟨ls, hg, hl⟩ : ∃ ls : Array Slot, entryFrame m ([.ref b, .int x1] : List Value).toArray 3 = F0 m 0 ls [] ∧ lv_has ls 3 [(0, va_rf (some b)), (1, .int x1)] := by
    exact ⟨_, lg_entry_eq .., lv_entry _ (n := 3) (Nat.le_of_ble_eq_true rfl)⟩
  rw [hg]
  exact kX2_settles_0 hX hw (jIz.start hH hz0) (lv_sub hl [0, 1] rfl) (by decide) (by decide)
end
