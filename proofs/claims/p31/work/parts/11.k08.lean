section
variable {p : Program} {l : Launch} {e : Env} {s : State} {m : MethodId} {args : Array Value} {below : List Frame} {meth : Method} {c : Code} {D : jD} {z : Nat × Nat} {A : Nat → Prop}
set_option maxHeartbeats 4000000 in
set_option maxRecDepth 100000 in
theorem kL_foretells_207 (hX : jX2 D z A p l s m args meth c yL_foretells cL_foretells 9 wsL_foretells (some .boolean)) {Q : Int32 → jM → Prop}  (n : Nat) : ∀ {x0 : Option Nat} {x1 : Option Nat} {x6 : Int32} {x7 : Option Nat} {x8 : Int32} {μ : jM} {H : Heap} {locs : List Loc} {ls : Array Slot} {cells slots : Nat}, wL_foretells_207 z Q n x0 x1 x6 x7 x8 μ → jIz D z A s.heap μ H locs → lv_has ls 9 [(0, va_rf x0), (1, va_rf x1), (6, .int x6), (7, va_rf x7), (8, .int x8)] → cells + 0 ≤ 1 → slots + 0 ≤ 10 → W p l e rmL_foretells s m args below meth c H locs cells slots (MQ below (jRz jfI Q D z A) args s 1 10 A) (F0 m 207 ls []) := by
  induction n with
  | zero =>
    intros
    rename_i hw _ _ _ _
    exact (show False from hw).elim
  | succ n ih =>
    intro x0 x1 x6 x7 x8 μ H locs ls cells slots hw hI hl hcn hsn
    have hw : wL_foretells_207_b z Q (wL_foretells_207 z Q n) x0 x1 x6 x7 x8 μ := hw
    unfold wL_foretells_207_b at hw
    obtain ⟨hx, hb, hml, hown, hts, hr, hlocks, hnm, hK, hG, hfl⟩ := id hX
    have hown : s.vm.findClass RL = some m.cls := hown
    refine lv_iload hx hb dL_foretells_207 (lv_at hl 4 rfl) ?_
    refine j_aload_n (r := x1) hx hb dL_foretells_209 rfl (lv_at hl 1 rfl) ?_
    refine lv_iconst (v := (0)) hx hb dL_foretells_210 (by decide) ?_
    obtain ⟨v1, hv1, hw⟩ := hw
    refine j_ialdz (r := x1) hx hb hK hI hv1 dL_foretells_211 ?_
    refine lv_icmp_ge (tgt := 248) hx hb dL_foretells_212 (by decide) (fun hc => ?_) (fun hc => ?_)
    · have hw := hw.1 hc
      refine lv_iload hx hb dL_foretells_248 (lv_at hl 2 rfl) ?_
      obtain ⟨hz, hw⟩ := hw
      exact j_zretz hx hb hr hz hlocks hI hw (by omega) (by omega) dL_foretells_250
    · have hw := hw.2 hc
      refine lv_iload hx hb dL_foretells_215 (lv_at hl 2 rfl) ?_
      refine lv_if_eq (tgt := 239) hx hb dL_foretells_217 (by decide) (fun hc => ?_) (fun hc => ?_)
      · have hw := hw.1 hc
        refine lv_iconst (v := (0)) hx hb dL_foretells_239 (by decide) ?_
        refine lv_topi (fun v2 ev2 => ?_)
        have hw := hw v2 ev2
        refine lv_istore (lv' := [(6, .int v2), (0, va_rf x0), (1, va_rf x1), (7, va_rf x7), (8, .int x8)]) hx hb dL_foretells_240 hl (by decide) rfl (fun ls hl => ?_)
        obtain ⟨v3, ev3⟩ : ∃ y : Int32, y = x8 + (1 : Int32) := ⟨_, rfl⟩
        have hw := hw v3 ev3
        refine j_iincA (r := x7) (F := fun w => [(6, .int v2), (0, va_rf x0), (1, va_rf x1), (7, w), (8, .int x8)]) (F2 := fun w => [(8, .int v3), (6, .int v2), (0, va_rf x0), (1, va_rf x1), (7, w)]) (v := v3) hx hb dL_foretells_242 hl (k := 4) (fun _ => rfl) (by rw [ev3]; rfl) (by decide) (fun w hw => by rcases hw with rfl | ⟨_, rfl⟩ <;> rfl) (fun ls hl => ?_)
        refine lv_goto (tgt := 207) hx hb dL_foretells_245 (by decide) ?_
        exact ih hw hI (lv_sub hl [2, 3, 1, 4, 0] rfl) (by omega) (by omega)
      · have hw := hw.2 hc
        refine j_aload_n (r := x0) hx hb dL_foretells_220 rfl (lv_at hl 0 rfl) ?_
        refine lv_iload hx hb dL_foretells_221 (lv_at hl 4 rfl) ?_
        obtain ⟨b6, ⟨hrb6, hfs⟩, hw⟩ := hw
        refine j_goz hI (va_runV (As := [.int x8]) (rest := []) ⟨hx, hb, hml, hown, hts⟩ (kX9_balance l hfl D z b6 x8 μ H.size _) (cwV 1 hts gL_foretells_X9_balance rfl rfl rfl (by decide +kernel) ⟨Nat.le_of_ble_eq_true rfl, Nat.le_of_ble_eq_true rfl⟩) (j_prV2z hK hG hI hw (ci := 11) rfl hfs) rfl rfl hl.1 (by rw [hrb6]; rfl) (lv_room (Nat.le_of_ble_eq_true rfl)) dL_foretells_223 ⟨by show _ ≤ 1; omega, by show _ ≤ 10; omega⟩) (fun v4 μ5 H locs hw hI => ?_)
        refine W.eq (g2 := F0 m 226 ls [.long v4]) rfl ?_
        refine j_aload (r := x7) hx hb dL_foretells_226 (lv_at hl 3 rfl) ?_
        refine lv_iload hx hb dL_foretells_228 (lv_at hl 4 rfl) ?_
        obtain ⟨v7, hv7, hw⟩ := hw
        refine j_laldz (r := x7) hx hb hK hI hv7 dL_foretells_230 ?_
        refine j_lcmp_ne (tgt := 239) hx hb dL_foretells_231 dL_foretells_232 (by decide) (fun hc => ?_) (fun hc => ?_)
        · have hw := hw.1 hc
          refine lv_iconst (v := (0)) hx hb dL_foretells_239 (by decide) ?_
          refine lv_topi (fun v8 ev8 => ?_)
          have hw := hw v8 ev8
          refine lv_istore (lv' := [(6, .int v8), (0, va_rf x0), (1, va_rf x1), (7, va_rf x7), (8, .int x8)]) hx hb dL_foretells_240 hl (by decide) rfl (fun ls hl => ?_)
          obtain ⟨v9, ev9⟩ : ∃ y : Int32, y = x8 + (1 : Int32) := ⟨_, rfl⟩
          have hw := hw v9 ev9
          refine j_iincA (r := x7) (F := fun w => [(6, .int v8), (0, va_rf x0), (1, va_rf x1), (7, w), (8, .int x8)]) (F2 := fun w => [(8, .int v9), (6, .int v8), (0, va_rf x0), (1, va_rf x1), (7, w)]) (v := v9) hx hb dL_foretells_242 hl (k := 4) (fun _ => rfl) (by rw [ev9]; rfl) (by decide) (fun w hw => by rcases hw with rfl | ⟨_, rfl⟩ <;> rfl) (fun ls hl => ?_)
          refine lv_goto (tgt := 207) hx hb dL_foretells_245 (by decide) ?_
          exact ih hw hI (lv_sub hl [2, 3, 1, 4, 0] rfl) (by omega) (by omega)
        · have hw := hw.2 hc
          refine lv_iconst (v := (1)) hx hb dL_foretells_235 (by decide) ?_
          refine lv_goto (tgt := 240) hx hb dL_foretells_236 (by decide) ?_
          refine lv_topi (fun v10 ev10 => ?_)
          have hw := hw v10 ev10
          refine lv_istore (lv' := [(6, .int v10), (0, va_rf x0), (1, va_rf x1), (7, va_rf x7), (8, .int x8)]) hx hb dL_foretells_240 hl (by decide) rfl (fun ls hl => ?_)
          obtain ⟨v11, ev11⟩ : ∃ y : Int32, y = x8 + (1 : Int32) := ⟨_, rfl⟩
          have hw := hw v11 ev11
          refine j_iincA (r := x7) (F := fun w => [(6, .int v10), (0, va_rf x0), (1, va_rf x1), (7, w), (8, .int x8)]) (F2 := fun w => [(8, .int v11), (6, .int v10), (0, va_rf x0), (1, va_rf x1), (7, w)]) (v := v11) hx hb dL_foretells_242 hl (k := 4) (fun _ => rfl) (by rw [ev11]; rfl) (by decide) (fun w hw => by rcases hw with rfl | ⟨_, rfl⟩ <;> rfl) (fun ls hl => ?_)
          refine lv_goto (tgt := 207) hx hb dL_foretells_245 (by decide) ?_
          exact ih hw hI (lv_sub hl [2, 3, 1, 4, 0] rfl) (by omega) (by omega)
set_option maxHeartbeats 4000000 in
set_option maxRecDepth 100000 in
theorem kL_foretells_152 (hX : jX2 D z A p l s m args meth c yL_foretells cL_foretells 9 wsL_foretells (some .boolean)) {Q : Int32 → jM → Prop}  (n : Nat) : ∀ {x0 : Option Nat} {x1 : Option Nat} {x4 : Int32} {x6 : Int32} {x7 : Option Nat} {x8 : Int32} {μ : jM} {H : Heap} {locs : List Loc} {ls : Array Slot} {cells slots : Nat}, wL_foretells_152 z Q n x0 x1 x4 x6 x7 x8 μ → jIz D z A s.heap μ H locs → lv_has ls 9 [(0, va_rf x0), (1, va_rf x1), (4, .int x4), (6, .int x6), (7, va_rf x7), (8, .int x8)] → cells + 0 ≤ 1 → slots + 0 ≤ 10 → W p l e rmL_foretells s m args below meth c H locs cells slots (MQ below (jRz jfI Q D z A) args s 1 10 A) (F0 m 152 ls []) := by
  induction n with
  | zero =>
    intros
    rename_i hw _ _ _ _
    exact (show False from hw).elim
  | succ n ih =>
    intro x0 x1 x4 x6 x7 x8 μ H locs ls cells slots hw hI hl hcn hsn
    have hw : wL_foretells_152_b z Q (wL_foretells_152 z Q n) x0 x1 x4 x6 x7 x8 μ := hw
    unfold wL_foretells_152_b at hw
    obtain ⟨hx, hb, hml, hown, hts, hr, hlocks, hnm, hK, hG, hfl⟩ := id hX
    have hown : s.vm.findClass RL = some m.cls := hown
    refine lv_iload hx hb dL_foretells_152 (lv_at hl 5 rfl) ?_
    refine j_aload_n (r := x1) hx hb dL_foretells_154 rfl (lv_at hl 1 rfl) ?_
    refine lv_iconst (v := (0)) hx hb dL_foretells_155 (by decide) ?_
    obtain ⟨v1, hv1, hw⟩ := hw
    refine j_ialdz (r := x1) hx hb hK hI hv1 dL_foretells_156 ?_
    refine lv_icmp_ge (tgt := 179) hx hb dL_foretells_157 (by decide) (fun hc => ?_) (fun hc => ?_)
    · have hw := hw.1 hc
      refine lv_iload hx hb dL_foretells_179 (lv_at hl 3 rfl) ?_
      refine lv_if_eq (tgt := 201) hx hb dL_foretells_181 (by decide) (fun hc => ?_) (fun hc => ?_)
      · have hw := hw.1 hc
        refine lv_iconst (v := (0)) hx hb dL_foretells_201 (by decide) ?_
        refine lv_topi (fun v2 ev2 => ?_)
        have hw := hw v2 ev2
        refine lv_istore (lv' := [(6, .int v2), (0, va_rf x0), (1, va_rf x1), (4, .int x4), (7, va_rf x7), (8, .int x8)]) hx hb dL_foretells_202 hl (by decide) rfl (fun ls hl => ?_)
        refine lv_iconst (v := (0)) hx hb dL_foretells_204 (by decide) ?_
        refine lv_topi (fun v3 ev3 => ?_)
        have hw := hw v3 ev3
        refine j_istoreA (r := x7) (F := fun w => [(6, .int v2), (0, va_rf x0), (1, va_rf x1), (4, .int x4), (7, w), (8, .int x8)]) (F2 := fun w => [(8, .int v3), (6, .int v2), (0, va_rf x0), (1, va_rf x1), (4, .int x4), (7, w)]) hx hb dL_foretells_205 hl (by decide) (fun w hw => by rcases hw with rfl | ⟨_, rfl⟩ <;> rfl) (fun ls hl => ?_)
        obtain ⟨n4, hw⟩ := hw
        exact kL_foretells_207 hX  n4 hw hI (lv_sub hl [2, 3, 1, 5, 0] rfl) (by omega) (by omega)
      · have hw := hw.2 hc
        refine j_aload_n (r := x0) hx hb dL_foretells_184 rfl (lv_at hl 0 rfl) ?_
        refine lv_iload hx hb dL_foretells_185 (lv_at hl 2 rfl) ?_
        obtain ⟨b7, ⟨hrb7, hfs⟩, hw⟩ := hw
        refine j_goz hI (va_runV (As := [.int x4]) (rest := []) ⟨hx, hb, hml, hown, hts⟩ (kX9_passDays l hfl D z b7 x4 μ H.size _) (cwV 1 hts gL_foretells_X9_passDays rfl rfl rfl (by decide +kernel) ⟨Nat.le_of_ble_eq_true rfl, Nat.le_of_ble_eq_true rfl⟩) (j_prV2z hK hG hI hw (ci := 11) rfl hfs) rfl rfl hl.1 (by rw [hrb7]; rfl) (lv_room (Nat.le_of_ble_eq_true rfl)) dL_foretells_187 ⟨by show _ ≤ 1; omega, by show _ ≤ 10; omega⟩) (fun v5 μ6 H locs hw hI => ?_)
        refine W.eq (g2 := F0 m 190 ls [.int v5]) rfl ?_
        refine j_aload_n (r := x0) hx hb dL_foretells_190 rfl (lv_at hl 0 rfl) ?_
        obtain ⟨b10, ⟨hrb10, hfs⟩, hw⟩ := hw
        refine j_goz hI (va_runV (As := []) (rest := [.int v5]) ⟨hx, hb, hml, hown, hts⟩ (kX9_today l hfl D z b10  μ6 H.size _) (cwV 0 hts gL_foretells_X9_today rfl rfl rfl (by decide +kernel) ⟨Nat.le_of_ble_eq_true rfl, Nat.le_of_ble_eq_true rfl⟩) (j_prV2z hK hG hI hw (ci := 11) rfl hfs) rfl rfl hl.1 (by rw [hrb10]; rfl) (lv_room (Nat.le_of_ble_eq_true rfl)) dL_foretells_191 ⟨by show _ ≤ 1; omega, by show _ ≤ 10; omega⟩) (fun v8 μ9 H locs hw hI => ?_)
        refine W.eq (g2 := F0 m 194 ls [.int v8, .int v5]) rfl ?_
        refine lv_icmp_ne (tgt := 201) hx hb dL_foretells_194 (by decide) (fun hc => ?_) (fun hc => ?_)
        · have hw := hw.1 hc
          refine lv_iconst (v := (0)) hx hb dL_foretells_201 (by decide) ?_
          refine lv_topi (fun v11 ev11 => ?_)
          have hw := hw v11 ev11
          refine lv_istore (lv' := [(6, .int v11), (0, va_rf x0), (1, va_rf x1), (4, .int x4), (7, va_rf x7), (8, .int x8)]) hx hb dL_foretells_202 hl (by decide) rfl (fun ls hl => ?_)
          refine lv_iconst (v := (0)) hx hb dL_foretells_204 (by decide) ?_
          refine lv_topi (fun v12 ev12 => ?_)
          have hw := hw v12 ev12
          refine j_istoreA (r := x7) (F := fun w => [(6, .int v11), (0, va_rf x0), (1, va_rf x1), (4, .int x4), (7, w), (8, .int x8)]) (F2 := fun w => [(8, .int v12), (6, .int v11), (0, va_rf x0), (1, va_rf x1), (4, .int x4), (7, w)]) hx hb dL_foretells_205 hl (by decide) (fun w hw => by rcases hw with rfl | ⟨_, rfl⟩ <;> rfl) (fun ls hl => ?_)
          obtain ⟨n13, hw⟩ := hw
          exact kL_foretells_207 hX  n13 hw hI (lv_sub hl [2, 3, 1, 5, 0] rfl) (by omega) (by omega)
        · have hw := hw.2 hc
          refine lv_iconst (v := (1)) hx hb dL_foretells_197 (by decide) ?_
          refine lv_goto (tgt := 202) hx hb dL_foretells_198 (by decide) ?_
          refine lv_topi (fun v14 ev14 => ?_)
          have hw := hw v14 ev14
          refine lv_istore (lv' := [(6, .int v14), (0, va_rf x0), (1, va_rf x1), (4, .int x4), (7, va_rf x7), (8, .int x8)]) hx hb dL_foretells_202 hl (by decide) rfl (fun ls hl => ?_)
          refine lv_iconst (v := (0)) hx hb dL_foretells_204 (by decide) ?_
          refine lv_topi (fun v15 ev15 => ?_)
          have hw := hw v15 ev15
          refine j_istoreA (r := x7) (F := fun w => [(6, .int v14), (0, va_rf x0), (1, va_rf x1), (4, .int x4), (7, w), (8, .int x8)]) (F2 := fun w => [(8, .int v15), (6, .int v14), (0, va_rf x0), (1, va_rf x1), (4, .int x4), (7, w)]) hx hb dL_foretells_205 hl (by decide) (fun w hw => by rcases hw with rfl | ⟨_, rfl⟩ <;> rfl) (fun ls hl => ?_)
          obtain ⟨n16, hw⟩ := hw
          exact kL_foretells_207 hX  n16 hw hI (lv_sub hl [2, 3, 1, 5, 0] rfl) (by omega) (by omega)
    · have hw := hw.2 hc
      refine j_aload (r := x7) hx hb dL_foretells_160 (lv_at hl 4 rfl) ?_
      refine lv_iload hx hb dL_foretells_162 (lv_at hl 5 rfl) ?_
      refine j_aload_n (r := x0) hx hb dL_foretells_164 rfl (lv_at hl 0 rfl) ?_
      refine lv_iload hx hb dL_foretells_165 (lv_at hl 5 rfl) ?_
      refine lv_iload hx hb dL_foretells_167 (lv_at hl 2 rfl) ?_
      obtain ⟨b19, ⟨hrb19, hfs⟩, hw⟩ := hw
      refine j_goz hI (va_runV (As := [.int x8, .int x4]) (rest := [.int x8, va_rf x7]) ⟨hx, hb, hml, hown, hts⟩ (kX9_forecast l hfl D z b19 x8 x4 μ H.size _) (cwV 2 hts gL_foretells_X9_forecast rfl rfl rfl (by decide +kernel) ⟨Nat.le_of_ble_eq_true rfl, Nat.le_of_ble_eq_true rfl⟩) (j_prV2z hK hG hI hw (ci := 11) rfl hfs) rfl rfl hl.1 (by rw [hrb19]; rfl) (lv_room (by simp only [List.map, List.sum_cons, List.sum_nil, jrc, jci, jcl, jcr, jcn]; exact Nat.le_of_ble_eq_true rfl)) dL_foretells_169 ⟨by show _ ≤ 1; omega, by show _ ≤ 10; omega⟩) (fun v17 μ18 H locs hw hI => ?_)
      refine W.eq (g2 := F0 m 172 ls [.long v17, .int x8, va_rf x7]) rfl ?_
      obtain ⟨μ20, hμ20, hw⟩ := hw
      refine j_lastz (r := x7) hx hb hK hI hμ20 dL_foretells_172 (fun H locs hI => ?_)
      obtain ⟨v21, ev21⟩ : ∃ y : Int32, y = x8 + (1 : Int32) := ⟨_, rfl⟩
      have hw := hw v21 ev21
      refine j_iincA (r := x7) (F := fun w => [(0, va_rf x0), (1, va_rf x1), (4, .int x4), (6, .int x6), (7, w), (8, .int x8)]) (F2 := fun w => [(8, .int v21), (0, va_rf x0), (1, va_rf x1), (4, .int x4), (6, .int x6), (7, w)]) (v := v21) hx hb dL_foretells_173 hl (k := 5) (fun _ => rfl) (by rw [ev21]; rfl) (by decide) (fun w hw => by rcases hw with rfl | ⟨_, rfl⟩ <;> rfl) (fun ls hl => ?_)
      refine lv_goto (tgt := 152) hx hb dL_foretells_176 (by decide) ?_
      exact ih hw hI (lv_sub hl [1, 2, 3, 4, 5, 0] rfl) (by omega) (by omega)
set_option maxHeartbeats 4000000 in
set_option maxRecDepth 100000 in
theorem kL_foretells_132 (hX : jX2 D z A p l s m args meth c yL_foretells cL_foretells 9 wsL_foretells (some .boolean)) {Q : Int32 → jM → Prop}  {x0 : Option Nat} {x1 : Option Nat} {x4 : Int32} {t0 : Int32} {μ : jM} {H : Heap} {locs : List Loc} {ls : Array Slot} {cells slots : Nat} (hw : wL_foretells_132 z Q x0 x1 x4 t0 μ) (hI : jIz D z A s.heap μ H locs) (hl : lv_has ls 9 [(0, va_rf x0), (1, va_rf x1), (4, .int x4)]) (hcn : cells + 1 ≤ 1) (hsn : slots + 10 ≤ 10) : W p l e rmL_foretells s m args below meth c H locs cells slots (MQ below (jRz jfI Q D z A) args s 1 10 A) (F0 m 132 ls [.int t0]) := by
  unfold wL_foretells_132 at hw
  obtain ⟨hx, hb, hml, hown, hts, hr, hlocks, hnm, hK, hG, hfl⟩ := id hX
  have hown : s.vm.findClass RL = some m.cls := hown
  refine lv_istore (lv' := [(6, .int t0), (0, va_rf x0), (1, va_rf x1), (4, .int x4)]) hx hb dL_foretells_132 hl (by decide) rfl (fun ls hl => ?_)
  refine lv_iload hx hb dL_foretells_134 (lv_at hl 3 rfl) ?_
  refine lv_iconst (v := (1)) hx hb dL_foretells_136 (by decide) ?_
  refine lv_icmp_ge (tgt := 143) hx hb dL_foretells_137 (by decide) (fun hc => ?_) (fun hc => ?_)
  · have hw := hw.1 hc
    refine lv_bipush (v := (10)) hx hb dL_foretells_143 (by decide) ?_
    refine j_newaz (atype := .long) (ty := .long) (t := 1) (N' := 10) (a0 := (10, .inr (.inl (fun _ => 0)))) hx hb (hts (.arrayClass .long) (List.mem_of_getElem? (i := 1) (by decide +kernel))) rfl hK hI (fun cA h => Option.some.inj (h.symm.trans ((hK.2 1 (D.2 1, .long) rfl).2))) (fun cA => rfl) (by decide) (by decide) (by decide) (by show _ ≤ 1; omega) (by show _ ≤ 10; omega) dL_foretells_145 (fun q1 H hq1 hI => ?_)
    have hw := hw q1 hq1
    refine j_astore (r := (some q1)) (lv' := [(7, va_rf (some q1)), (6, .int t0), (0, va_rf x0), (1, va_rf x1), (4, .int x4)]) hx hb dL_foretells_147 hl (by decide) rfl (fun ls hl => ?_)
    refine lv_iconst (v := (0)) hx hb dL_foretells_149 (by decide) ?_
    refine lv_topi (fun v2 ev2 => ?_)
    have hw := hw v2 ev2
    refine lv_istore (lv' := [(8, .int v2), (7, va_rf (some q1)), (6, .int t0), (0, va_rf x0), (1, va_rf x1), (4, .int x4)]) hx hb dL_foretells_150 hl (by decide) rfl (fun ls hl => ?_)
    obtain ⟨n3, hw⟩ := hw
    exact kL_foretells_152 hX  n3 hw hI (lv_sub hl [3, 4, 5, 2, 1, 0] rfl) (by omega) (by omega)
  · have hw := hw.2 hc
    refine lv_iload hx hb dL_foretells_140 (lv_at hl 0 rfl) ?_
    obtain ⟨hz, hw⟩ := hw
    exact j_zretz hx hb hr hz hlocks hI hw (by omega) (by omega) dL_foretells_142
set_option maxHeartbeats 4000000 in
set_option maxRecDepth 100000 in
theorem kL_foretells_127 (hX : jX2 D z A p l s m args meth c yL_foretells cL_foretells 9 wsL_foretells (some .boolean)) {Q : Int32 → jM → Prop}  {x0 : Option Nat} {x1 : Option Nat} {x4 : Int32} {μ : jM} {H : Heap} {locs : List Loc} {ls : Array Slot} {cells slots : Nat} (hw : wL_foretells_127 z Q x0 x1 x4 μ) (hI : jIz D z A s.heap μ H locs) (hl : lv_has ls 9 [(0, va_rf x0), (1, va_rf x1), (4, .int x4)]) (hcn : cells + 1 ≤ 1) (hsn : slots + 10 ≤ 10) : W p l e rmL_foretells s m args below meth c H locs cells slots (MQ below (jRz jfI Q D z A) args s 1 10 A) (F0 m 127 ls []) := by
  unfold wL_foretells_127 at hw
  obtain ⟨hx, hb, hml, hown, hts, hr, hlocks, hnm, hK, hG, hfl⟩ := id hX
  have hown : s.vm.findClass RL = some m.cls := hown
  refine lv_iconst (v := (1)) hx hb dL_foretells_127 (by decide) ?_
  refine lv_goto (tgt := 132) hx hb dL_foretells_128 (by decide) ?_
  exact kL_foretells_132 hX  hw hI (lv_sub hl [0, 1, 2] rfl) (by omega) (by omega)
set_option maxHeartbeats 4000000 in
set_option maxRecDepth 100000 in
theorem kL_foretells_131 (hX : jX2 D z A p l s m args meth c yL_foretells cL_foretells 9 wsL_foretells (some .boolean)) {Q : Int32 → jM → Prop}  {x0 : Option Nat} {x1 : Option Nat} {x4 : Int32} {μ : jM} {H : Heap} {locs : List Loc} {ls : Array Slot} {cells slots : Nat} (hw : wL_foretells_131 z Q x0 x1 x4 μ) (hI : jIz D z A s.heap μ H locs) (hl : lv_has ls 9 [(0, va_rf x0), (1, va_rf x1), (4, .int x4)]) (hcn : cells + 1 ≤ 1) (hsn : slots + 10 ≤ 10) : W p l e rmL_foretells s m args below meth c H locs cells slots (MQ below (jRz jfI Q D z A) args s 1 10 A) (F0 m 131 ls []) := by
  unfold wL_foretells_131 at hw
  obtain ⟨hx, hb, hml, hown, hts, hr, hlocks, hnm, hK, hG, hfl⟩ := id hX
  have hown : s.vm.findClass RL = some m.cls := hown
  refine lv_iconst (v := (0)) hx hb dL_foretells_131 (by decide) ?_
  exact kL_foretells_132 hX  hw hI (lv_sub hl [0, 1, 2] rfl) (by omega) (by omega)
set_option maxHeartbeats 4000000 in
set_option maxRecDepth 100000 in
theorem kL_foretells_88 (hX : jX2 D z A p l s m args meth c yL_foretells cL_foretells 9 wsL_foretells (some .boolean)) {Q : Int32 → jM → Prop}  {x0 : Option Nat} {x1 : Option Nat} {x2 : Int32} {x3 : Int32} {x4 : Int32} {x5 : Int32} {t0 : Int32} {μ : jM} {H : Heap} {locs : List Loc} {ls : Array Slot} {cells slots : Nat} (hw : wL_foretells_88 z Q x0 x1 x2 x3 x4 x5 t0 μ) (hI : jIz D z A s.heap μ H locs) (hl : lv_has ls 9 [(0, va_rf x0), (1, va_rf x1), (2, .int x2), (3, .int x3), (4, .int x4), (5, .int x5)]) (hcn : cells + 1 ≤ 1) (hsn : slots + 10 ≤ 10) : W p l e rmL_foretells s m args below meth c H locs cells slots (MQ below (jRz jfI Q D z A) args s 1 10 A) (F0 m 88 ls [.int t0]) := by
  unfold wL_foretells_88 at hw
  obtain ⟨hx, hb, hml, hown, hts, hr, hlocks, hnm, hK, hG, hfl⟩ := id hX
  have hown : s.vm.findClass RL = some m.cls := hown
  refine lv_istore (lv' := [(6, .int t0), (0, va_rf x0), (1, va_rf x1), (2, .int x2), (3, .int x3), (4, .int x4), (5, .int x5)]) hx hb dL_foretells_88 hl (by decide) rfl (fun ls hl => ?_)
  refine lv_iload hx hb dL_foretells_90 (lv_at hl 0 rfl) ?_
  refine lv_if_eq (tgt := 131) hx hb dL_foretells_92 (by decide) (fun hc => ?_) (fun hc => ?_)
  · have hw := hw.1 hc
    exact kL_foretells_131 hX  hw hI (lv_sub hl [1, 2, 5] rfl) (by omega) (by omega)
  · have hw := hw.2 hc
    refine lv_iload hx hb dL_foretells_95 (lv_at hl 6 rfl) ?_
    refine lv_iconst (v := (-1)) hx hb dL_foretells_97 (by decide) ?_
    refine lv_icmp_ne (tgt := 127) hx hb dL_foretells_98 (by decide) (fun hc => ?_) (fun hc => ?_)
    · have hw := hw.1 hc
      exact kL_foretells_127 hX  hw hI (lv_sub hl [1, 2, 5] rfl) (by omega) (by omega)
    · have hw := hw.2 hc
      refine j_aload_n (r := x0) hx hb dL_foretells_101 rfl (lv_at hl 1 rfl) ?_
      refine lv_iload_n hx hb dL_foretells_102 rfl (lv_at hl 3 rfl) ?_
      refine lv_iload_n hx hb dL_foretells_103 rfl (lv_at hl 4 rfl) ?_
      obtain ⟨b3, ⟨hrb3, hfs⟩, hw⟩ := hw
      refine j_goz hI (va_runV (As := [.int x2, .int x3]) (rest := []) ⟨hx, hb, hml, hown, hts⟩ (kX9_forecast l hfl D z b3 x2 x3 μ H.size _) (cwV 2 hts gL_foretells_X9_forecast rfl rfl rfl (by decide +kernel) ⟨Nat.le_of_ble_eq_true rfl, Nat.le_of_ble_eq_true rfl⟩) (j_prV2z hK hG hI hw (ci := 11) rfl hfs) rfl rfl hl.1 (by rw [hrb3]; rfl) (lv_room (Nat.le_of_ble_eq_true rfl)) dL_foretells_104 ⟨by show _ ≤ 1; omega, by show _ ≤ 10; omega⟩) (fun v1 μ2 H locs hw hI => ?_)
      refine W.eq (g2 := F0 m 107 ls [.long v1]) rfl ?_
      refine lv_lconst (v := (0)) hx hb dL_foretells_107 (by decide) ?_
      refine j_lcmp_lt (tgt := 131) hx hb dL_foretells_108 dL_foretells_109 (by decide) (fun hc => ?_) (fun hc => ?_)
      · have hw := hw.1 hc
        exact kL_foretells_131 hX  hw hI (lv_sub hl [1, 2, 5] rfl) (by omega) (by omega)
      · have hw := hw.2 hc
        refine j_aload_n (r := x0) hx hb dL_foretells_112 rfl (lv_at hl 1 rfl) ?_
        refine lv_iload_n hx hb dL_foretells_113 rfl (lv_at hl 3 rfl) ?_
        refine lv_iconst (v := (1)) hx hb dL_foretells_114 (by decide) ?_
        refine lv_iload_n hx hb dL_foretells_115 rfl (lv_at hl 4 rfl) ?_
        refine lv_iconst (v := (2)) hx hb dL_foretells_116 (by decide) ?_
        refine lv_idiv hx hb dL_foretells_117 (by decide) ?_
        refine lv_iadd hx hb dL_foretells_118 ?_
        obtain ⟨b6, ⟨hrb6, hfs⟩, hw⟩ := hw
        refine j_goz hI (va_runV (As := [.int x2, .int ((1 : Int32) + (x3 / (2 : Int32)))]) (rest := []) ⟨hx, hb, hml, hown, hts⟩ (kX9_forecast l hfl D z b6 x2 ((1 : Int32) + (x3 / (2 : Int32))) μ2 H.size _) (cwV 2 hts gL_foretells_X9_forecast rfl rfl rfl (by decide +kernel) ⟨Nat.le_of_ble_eq_true rfl, Nat.le_of_ble_eq_true rfl⟩) (j_prV2z hK hG hI hw (ci := 11) rfl hfs) rfl rfl hl.1 (by rw [hrb6]; rfl) (lv_room (Nat.le_of_ble_eq_true rfl)) dL_foretells_119 ⟨by show _ ≤ 1; omega, by show _ ≤ 10; omega⟩) (fun v4 μ5 H locs hw hI => ?_)
        refine W.eq (g2 := F0 m 122 ls [.long v4]) rfl ?_
        refine lv_lconst (v := (0)) hx hb dL_foretells_122 (by decide) ?_
        refine j_lcmp_lt (tgt := 131) hx hb dL_foretells_123 dL_foretells_124 (by decide) (fun hc => ?_) (fun hc => ?_)
        · have hw := hw.1 hc
          exact kL_foretells_131 hX  hw hI (lv_sub hl [1, 2, 5] rfl) (by omega) (by omega)
        · have hw := hw.2 hc
          exact kL_foretells_127 hX  hw hI (lv_sub hl [1, 2, 5] rfl) (by omega) (by omega)
set_option maxHeartbeats 4000000 in
set_option maxRecDepth 100000 in
theorem kL_foretells_83 (hX : jX2 D z A p l s m args meth c yL_foretells cL_foretells 9 wsL_foretells (some .boolean)) {Q : Int32 → jM → Prop}  {x0 : Option Nat} {x1 : Option Nat} {x2 : Int32} {x3 : Int32} {x4 : Int32} {x5 : Int32} {μ : jM} {H : Heap} {locs : List Loc} {ls : Array Slot} {cells slots : Nat} (hw : wL_foretells_83 z Q x0 x1 x2 x3 x4 x5 μ) (hI : jIz D z A s.heap μ H locs) (hl : lv_has ls 9 [(0, va_rf x0), (1, va_rf x1), (2, .int x2), (3, .int x3), (4, .int x4), (5, .int x5)]) (hcn : cells + 1 ≤ 1) (hsn : slots + 10 ≤ 10) : W p l e rmL_foretells s m args below meth c H locs cells slots (MQ below (jRz jfI Q D z A) args s 1 10 A) (F0 m 83 ls []) := by
  unfold wL_foretells_83 at hw
  obtain ⟨hx, hb, hml, hown, hts, hr, hlocks, hnm, hK, hG, hfl⟩ := id hX
  have hown : s.vm.findClass RL = some m.cls := hown
  refine lv_iconst (v := (1)) hx hb dL_foretells_83 (by decide) ?_
  refine lv_goto (tgt := 88) hx hb dL_foretells_84 (by decide) ?_
  exact kL_foretells_88 hX  hw hI (lv_sub hl [0, 1, 2, 3, 4, 5] rfl) (by omega) (by omega)
set_option maxHeartbeats 4000000 in
set_option maxRecDepth 100000 in
theorem kL_foretells_87 (hX : jX2 D z A p l s m args meth c yL_foretells cL_foretells 9 wsL_foretells (some .boolean)) {Q : Int32 → jM → Prop}  {x0 : Option Nat} {x1 : Option Nat} {x2 : Int32} {x3 : Int32} {x4 : Int32} {x5 : Int32} {μ : jM} {H : Heap} {locs : List Loc} {ls : Array Slot} {cells slots : Nat} (hw : wL_foretells_87 z Q x0 x1 x2 x3 x4 x5 μ) (hI : jIz D z A s.heap μ H locs) (hl : lv_has ls 9 [(0, va_rf x0), (1, va_rf x1), (2, .int x2), (3, .int x3), (4, .int x4), (5, .int x5)]) (hcn : cells + 1 ≤ 1) (hsn : slots + 10 ≤ 10) : W p l e rmL_foretells s m args below meth c H locs cells slots (MQ below (jRz jfI Q D z A) args s 1 10 A) (F0 m 87 ls []) := by
  unfold wL_foretells_87 at hw
  obtain ⟨hx, hb, hml, hown, hts, hr, hlocks, hnm, hK, hG, hfl⟩ := id hX
  have hown : s.vm.findClass RL = some m.cls := hown
  refine lv_iconst (v := (0)) hx hb dL_foretells_87 (by decide) ?_
  exact kL_foretells_88 hX  hw hI (lv_sub hl [0, 1, 2, 3, 4, 5] rfl) (by omega) (by omega)
set_option maxHeartbeats 4000000 in
set_option maxRecDepth 100000 in
theorem kL_foretells_24 (hX : jX2 D z A p l s m args meth c yL_foretells cL_foretells 9 wsL_foretells (some .boolean)) {Q : Int32 → jM → Prop}  {x0 : Option Nat} {x1 : Option Nat} {x2 : Int32} {x3 : Int32} {t0 : Int32} {μ : jM} {H : Heap} {locs : List Loc} {ls : Array Slot} {cells slots : Nat} (hw : wL_foretells_24 z Q x0 x1 x2 x3 t0 μ) (hI : jIz D z A s.heap μ H locs) (hl : lv_has ls 9 [(0, va_rf x0), (1, va_rf x1), (2, .int x2), (3, .int x3)]) (hcn : cells + 1 ≤ 1) (hsn : slots + 10 ≤ 10) : W p l e rmL_foretells s m args below meth c H locs cells slots (MQ below (jRz jfI Q D z A) args s 1 10 A) (F0 m 24 ls [.int t0]) := by
  unfold wL_foretells_24 at hw
  obtain ⟨hx, hb, hml, hown, hts, hr, hlocks, hnm, hK, hG, hfl⟩ := id hX
  have hown : s.vm.findClass RL = some m.cls := hown
  refine lv_istore (lv' := [(4, .int t0), (0, va_rf x0), (1, va_rf x1), (2, .int x2), (3, .int x3)]) hx hb dL_foretells_24 hl (by decide) rfl (fun ls hl => ?_)
  refine j_aload_n (r := x0) hx hb dL_foretells_26 rfl (lv_at hl 1 rfl) ?_
  refine lv_iload_n hx hb dL_foretells_27 rfl (lv_at hl 3 rfl) ?_
  refine lv_iload_n hx hb dL_foretells_28 rfl (lv_at hl 4 rfl) ?_
  obtain ⟨b3, ⟨hrb3, hfs⟩, hw⟩ := hw
  refine j_goz hI (va_runV (As := [.int x2, .int x3]) (rest := []) ⟨hx, hb, hml, hown, hts⟩ (kX9_daysToShort l hfl D z b3 x2 x3 μ H.size _) (cwV 2 hts gL_foretells_X9_daysToShort rfl rfl rfl (by decide +kernel) ⟨Nat.le_of_ble_eq_true rfl, Nat.le_of_ble_eq_true rfl⟩) (j_prV2z hK hG hI hw (ci := 11) rfl hfs) rfl rfl hl.1 (by rw [hrb3]; rfl) (lv_room (Nat.le_of_ble_eq_true rfl)) dL_foretells_29 ⟨by show _ ≤ 1; omega, by show _ ≤ 10; omega⟩) (fun v1 μ2 H locs hw hI => ?_)
  refine W.eq (g2 := F0 m 32 ls [.int v1]) rfl ?_
  refine lv_istore (lv' := [(5, .int v1), (4, .int t0), (0, va_rf x0), (1, va_rf x1), (2, .int x2), (3, .int x3)]) hx hb dL_foretells_32 hl (by decide) rfl (fun ls hl => ?_)
  refine lv_iload hx hb dL_foretells_34 (lv_at hl 0 rfl) ?_
  refine lv_iconst (v := (-1)) hx hb dL_foretells_36 (by decide) ?_
  refine lv_icmp_eq (tgt := 83) hx hb dL_foretells_37 (by decide) (fun hc => ?_) (fun hc => ?_)
  · have hw := hw.1 hc
    exact kL_foretells_83 hX  hw hI (lv_sub hl [2, 3, 4, 5, 1, 0] rfl) (by omega) (by omega)
  · have hw := hw.2 hc
    refine lv_iload hx hb dL_foretells_40 (lv_at hl 0 rfl) ?_
    refine lv_iconst (v := (1)) hx hb dL_foretells_42 (by decide) ?_
    refine lv_icmp_lt (tgt := 87) hx hb dL_foretells_43 (by decide) (fun hc => ?_) (fun hc => ?_)
    · have hw := hw.1 hc
      exact kL_foretells_87 hX  hw hI (lv_sub hl [2, 3, 4, 5, 1, 0] rfl) (by omega) (by omega)
    · have hw := hw.2 hc
      refine lv_iload hx hb dL_foretells_46 (lv_at hl 0 rfl) ?_
      refine lv_iload_n hx hb dL_foretells_48 rfl (lv_at hl 5 rfl) ?_
      refine lv_icmp_gt (tgt := 87) hx hb dL_foretells_49 (by decide) (fun hc => ?_) (fun hc => ?_)
      · have hw := hw.1 hc
        exact kL_foretells_87 hX  hw hI (lv_sub hl [2, 3, 4, 5, 1, 0] rfl) (by omega) (by omega)
      · have hw := hw.2 hc
        refine j_aload_n (r := x0) hx hb dL_foretells_52 rfl (lv_at hl 2 rfl) ?_
        refine lv_iload_n hx hb dL_foretells_53 rfl (lv_at hl 4 rfl) ?_
        refine lv_iload hx hb dL_foretells_54 (lv_at hl 0 rfl) ?_
        obtain ⟨b6, ⟨hrb6, hfs⟩, hw⟩ := hw
        refine j_goz hI (va_runV (As := [.int x2, .int v1]) (rest := []) ⟨hx, hb, hml, hown, hts⟩ (kX9_forecast l hfl D z b6 x2 v1 μ2 H.size _) (cwV 2 hts gL_foretells_X9_forecast rfl rfl rfl (by decide +kernel) ⟨Nat.le_of_ble_eq_true rfl, Nat.le_of_ble_eq_true rfl⟩) (j_prV2z hK hG hI hw (ci := 11) rfl hfs) rfl rfl hl.1 (by rw [hrb6]; rfl) (lv_room (Nat.le_of_ble_eq_true rfl)) dL_foretells_56 ⟨by show _ ≤ 1; omega, by show _ ≤ 10; omega⟩) (fun v4 μ5 H locs hw hI => ?_)
        refine W.eq (g2 := F0 m 59 ls [.long v4]) rfl ?_
        refine lv_lconst (v := (0)) hx hb dL_foretells_59 (by decide) ?_
        refine j_lcmp_ge (tgt := 87) hx hb dL_foretells_60 dL_foretells_61 (by decide) (fun hc => ?_) (fun hc => ?_)
        · have hw := hw.1 hc
          exact kL_foretells_87 hX  hw hI (lv_sub hl [2, 3, 4, 5, 1, 0] rfl) (by omega) (by omega)
        · have hw := hw.2 hc
          refine lv_iload hx hb dL_foretells_64 (lv_at hl 0 rfl) ?_
          refine lv_iconst (v := (1)) hx hb dL_foretells_66 (by decide) ?_
          refine lv_icmp_eq (tgt := 83) hx hb dL_foretells_67 (by decide) (fun hc => ?_) (fun hc => ?_)
          · have hw := hw.1 hc
            exact kL_foretells_83 hX  hw hI (lv_sub hl [2, 3, 4, 5, 1, 0] rfl) (by omega) (by omega)
          · have hw := hw.2 hc
            refine j_aload_n (r := x0) hx hb dL_foretells_70 rfl (lv_at hl 2 rfl) ?_
            refine lv_iload_n hx hb dL_foretells_71 rfl (lv_at hl 4 rfl) ?_
            refine lv_iload hx hb dL_foretells_72 (lv_at hl 0 rfl) ?_
            refine lv_iconst (v := (1)) hx hb dL_foretells_74 (by decide) ?_
            refine lv_isub hx hb dL_foretells_75 ?_
            obtain ⟨b9, ⟨hrb9, hfs⟩, hw⟩ := hw
            refine j_goz hI (va_runV (As := [.int x2, .int (v1 - (1 : Int32))]) (rest := []) ⟨hx, hb, hml, hown, hts⟩ (kX9_daysToShort l hfl D z b9 x2 (v1 - (1 : Int32)) μ5 H.size _) (cwV 2 hts gL_foretells_X9_daysToShort rfl rfl rfl (by decide +kernel) ⟨Nat.le_of_ble_eq_true rfl, Nat.le_of_ble_eq_true rfl⟩) (j_prV2z hK hG hI hw (ci := 11) rfl hfs) rfl rfl hl.1 (by rw [hrb9]; rfl) (lv_room (Nat.le_of_ble_eq_true rfl)) dL_foretells_76 ⟨by show _ ≤ 1; omega, by show _ ≤ 10; omega⟩) (fun v7 μ8 H locs hw hI => ?_)
            refine W.eq (g2 := F0 m 79 ls [.int v7]) rfl ?_
            refine lv_iconst (v := (-1)) hx hb dL_foretells_79 (by decide) ?_
            refine lv_icmp_ne (tgt := 87) hx hb dL_foretells_80 (by decide) (fun hc => ?_) (fun hc => ?_)
            · have hw := hw.1 hc
              exact kL_foretells_87 hX  hw hI (lv_sub hl [2, 3, 4, 5, 1, 0] rfl) (by omega) (by omega)
            · have hw := hw.2 hc
              exact kL_foretells_83 hX  hw hI (lv_sub hl [2, 3, 4, 5, 1, 0] rfl) (by omega) (by omega)
set_option maxHeartbeats 4000000 in
set_option maxRecDepth 100000 in
theorem kL_foretells_0 (hX : jX2 D z A p l s m args meth c yL_foretells cL_foretells 9 wsL_foretells (some .boolean)) {Q : Int32 → jM → Prop}  {x0 : Option Nat} {x1 : Option Nat} {x2 : Int32} {x3 : Int32} {μ : jM} {H : Heap} {locs : List Loc} {ls : Array Slot} {cells slots : Nat} (hw : wL_foretells_0 z Q x0 x1 x2 x3 μ) (hI : jIz D z A s.heap μ H locs) (hl : lv_has ls 9 [(0, va_rf x0), (1, va_rf x1), (2, .int x2), (3, .int x3)]) (hcn : cells + 1 ≤ 1) (hsn : slots + 10 ≤ 10) : W p l e rmL_foretells s m args below meth c H locs cells slots (MQ below (jRz jfI Q D z A) args s 1 10 A) (F0 m 0 ls []) := by
  unfold wL_foretells_0 at hw
  obtain ⟨hx, hb, hml, hown, hts, hr, hlocks, hnm, hK, hG, hfl⟩ := id hX
  have hown : s.vm.findClass RL = some m.cls := hown
  refine lv_sipush (v := (400)) hx hb dL_foretells_0 (by decide) ?_
  refine j_aload_n (r := x0) hx hb dL_foretells_3 rfl (lv_at hl 0 rfl) ?_
  obtain ⟨b3, ⟨hrb3, hfs⟩, hw⟩ := hw
  refine j_goz hI (va_runV (As := []) (rest := [.int (400 : Int32)]) ⟨hx, hb, hml, hown, hts⟩ (kX9_today l hfl D z b3  μ H.size _) (cwV 0 hts gL_foretells_X9_today rfl rfl rfl (by decide +kernel) ⟨Nat.le_of_ble_eq_true rfl, Nat.le_of_ble_eq_true rfl⟩) (j_prV2z hK hG hI hw (ci := 11) rfl hfs) rfl rfl hl.1 (by rw [hrb3]; rfl) (lv_room (Nat.le_of_ble_eq_true rfl)) dL_foretells_4 ⟨by show _ ≤ 1; omega, by show _ ≤ 10; omega⟩) (fun v1 μ2 H locs hw hI => ?_)
  refine W.eq (g2 := F0 m 7 ls [.int v1, .int (400 : Int32)]) rfl ?_
  refine lv_isub hx hb dL_foretells_7 ?_
  refine lv_iload_n hx hb dL_foretells_8 rfl (lv_at hl 3 rfl) ?_
  refine lv_icmp_ge (tgt := 23) hx hb dL_foretells_9 (by decide) (fun hc => ?_) (fun hc => ?_)
  · have hw := hw.1 hc
    refine lv_iload_n hx hb dL_foretells_23 rfl (lv_at hl 3 rfl) ?_
    exact kL_foretells_24 hX  hw hI (lv_sub hl [0, 1, 2, 3] rfl) (by omega) (by omega)
  · have hw := hw.2 hc
    refine lv_sipush (v := (400)) hx hb dL_foretells_12 (by decide) ?_
    refine j_aload_n (r := x0) hx hb dL_foretells_15 rfl (lv_at hl 0 rfl) ?_
    obtain ⟨b6, ⟨hrb6, hfs⟩, hw⟩ := hw
    refine j_goz hI (va_runV (As := []) (rest := [.int (400 : Int32)]) ⟨hx, hb, hml, hown, hts⟩ (kX9_today l hfl D z b6  μ2 H.size _) (cwV 0 hts gL_foretells_X9_today rfl rfl rfl (by decide +kernel) ⟨Nat.le_of_ble_eq_true rfl, Nat.le_of_ble_eq_true rfl⟩) (j_prV2z hK hG hI hw (ci := 11) rfl hfs) rfl rfl hl.1 (by rw [hrb6]; rfl) (lv_room (Nat.le_of_ble_eq_true rfl)) dL_foretells_16 ⟨by show _ ≤ 1; omega, by show _ ≤ 10; omega⟩) (fun v4 μ5 H locs hw hI => ?_)
    refine W.eq (g2 := F0 m 19 ls [.int v4, .int (400 : Int32)]) rfl ?_
    refine lv_isub hx hb dL_foretells_19 ?_
    refine lv_goto (tgt := 24) hx hb dL_foretells_20 (by decide) ?_
    exact kL_foretells_24 hX  hw hI (lv_sub hl [0, 1, 2, 3] rfl) (by omega) (by omega)
set_option maxHeartbeats 4000000 in
set_option maxRecDepth 100000 in
theorem kL_foretells (l : Launch) (hfl : l.stackTraces = false) (D : jD) (z : Nat × Nat) (x0 : Option Nat) (x1 : Option Nat) (x2 : Int32) (x3 : Int32) (μ : jM) (sz : Nat) (Q : Int32 → jM → Prop) : Met l yL_foretells wsL_foretells rmL_foretells (jPre2z D z μ sz [va_rf x0, va_rf x1, .int x2, .int x3] (wL_foretells z x0 x1 x2 x3 μ Q)) (jRz jfI Q D z (jA z μ sz)) 1 10 (jA z μ sz) := by
  refine Met.ofW (cc := cL_foretells) (maxL := 9) (ret := (some .boolean)) (by decide) rfl ?_
  intro p e s m args below meth c s₁ B hml hv
  obtain ⟨rfl, hsz, hH, hz0, hK, hG, hw⟩ := hv
  subst hsz
  have hX : jX2 D z (jA z μ s.heap.size) p l s m _ meth c yL_foretells cL_foretells 9 wsL_foretells (some .boolean) := ⟨B.exec, B.bytes, hml, findClass_of_methodNamed B.named, atoms_spec (ws := wsL_foretells) B.pre, B.returns, B.notSynchronized, (name_of_methodNamed B.named B.method).1, hK, hG, hfl⟩
  obtain ⟨ls, hg, hl⟩ : ∃ ls : Array Slot, entryFrame m ([va_rf x0, va_rf x1, .int x2, .int x3] : List Value).toArray 9 = F0 m 0 ls [] ∧ lv_has ls 9 [(0, va_rf x0), (1, va_rf x1), (2, .int x2), (3, .int x3)] := by
    cases x0 <;> cases x1 <;> exact ⟨_, lg_entry_eq .., lv_entry _ (n := 9) (Nat.le_of_ble_eq_true rfl)⟩
  rw [hg]
  exact kL_foretells_0 hX hw (jIz.start hH hz0) (lv_sub hl [0, 1, 2, 3] rfl) (by decide) (by decide)
set_option maxHeartbeats 4000000 in
set_option maxRecDepth 100000 in
theorem kX4_sumWithin_6 {b : Nat} (hX : jX2 D z A p l s m args meth c yX4_sumWithin cX4_sumWithin 8 wsX4_sumWithin (some .long)) {Q : Int64 → jM → Prop}  (n : Nat) : ∀ {x1 : Option Nat} {x2 : Int32} {x3 : Int32} {x4 : Int64} {x6 : Int32} {μ : jM} {H : Heap} {locs : List Loc} {ls : Array Slot} {cells slots : Nat}, wX4_sumWithin_6 z b Q n x1 x2 x3 x4 x6 μ → jIz D z A s.heap μ H locs → lv_has ls 8 [(0, va_rf (some b)), (1, va_rf x1), (2, .int x2), (3, .int x3), (4, .long x4), (6, .int x6)] → cells + 0 ≤ 0 → slots + 0 ≤ 0 → W p l e rmX4_sumWithin s m args below meth c H locs cells slots (MQ below (jRz jfJ Q D z A) args s 0 0 A) (F0 m 6 ls []) := by
  induction n with
  | zero =>
    intros
    rename_i hw _ _ _ _
    exact (show False from hw).elim
  | succ n ih =>
    intro x1 x2 x3 x4 x6 μ H locs ls cells slots hw hI hl hcn hsn
    have hw : wX4_sumWithin_6_b z b Q (wX4_sumWithin_6 z b Q n) x1 x2 x3 x4 x6 μ := hw
    unfold wX4_sumWithin_6_b at hw
    obtain ⟨hx, hb, hml, hown, hts, hr, hlocks, hnm, hK, hG, hfl⟩ := id hX
    have hown : s.vm.findClass RX4 = some m.cls := hown
    have hfX4 : ∀ w ∈ wsX40, w.before args s = true := fun w h => hts w (List.mem_cons_of_mem _ (List.mem_append_left _ (List.mem_append_right _ h)))
    refine lv_iload hx hb dX4_sumWithin_6 (lv_at hl 5 rfl) ?_
    refine j_aload_n (r := (some b)) hx hb dX4_sumWithin_8 rfl (lv_at hl 0 rfl) ?_
    obtain ⟨v1, hv1, hw⟩ := hw
    refine j_getz (C := RX4) (T := TX4) (N := 7) (ci := 7) (r := (some b)) (v := .int v1) hx hb hfX4 hown hK hI rfl 4 (by decide) (hts (.fieldLink RX4 23 "CashPools$Flow" "left" "I") (List.mem_of_getElem? (i := 1) (by decide +kernel))) (fun _ h => h) hv1 dX4_sumWithin_9 ?_
    refine lv_icmp_ge (tgt := 61) hx hb dX4_sumWithin_12 (by decide) (fun hc => ?_) (fun hc => ?_)
    · have hw := hw.1 hc
      refine lv_lload hx hb dX4_sumWithin_61 (lv_at hl 4 rfl) ?_
      exact j_lretz hx hb hr hlocks hI hw (by omega) (by omega) dX4_sumWithin_63
    · have hw := hw.2 hc
      refine j_aload_n (r := x1) hx hb dX4_sumWithin_15 rfl (lv_at hl 1 rfl) ?_
      refine j_aload_n (r := (some b)) hx hb dX4_sumWithin_16 rfl (lv_at hl 0 rfl) ?_
      obtain ⟨v2, hv2, hw⟩ := hw
      refine j_getz (C := RX4) (T := TX4) (N := 7) (ci := 7) (r := (some b)) (v := .int v2) hx hb hfX4 hown hK hI rfl 3 (by decide) (hts (.fieldLink RX4 20 "CashPools$Flow" "due" "I") (List.mem_of_getElem? (i := 2) (by decide +kernel))) (fun _ h => h) hv2 dX4_sumWithin_17 ?_
      refine lv_iload hx hb dX4_sumWithin_20 (lv_at hl 5 rfl) ?_
      refine j_aload_n (r := (some b)) hx hb dX4_sumWithin_22 rfl (lv_at hl 0 rfl) ?_
      obtain ⟨v3, hv3, hw⟩ := hw
      refine j_getz (C := RX4) (T := TX4) (N := 7) (ci := 7) (r := (some b)) (v := .int v3) hx hb hfX4 hown hK hI rfl 2 (by decide) (hts (.fieldLink RX4 17 "CashPools$Flow" "step" "I") (List.mem_of_getElem? (i := 3) (by decide +kernel))) (fun _ h => h) hv3 dX4_sumWithin_23 ?_
      refine lv_imul hx hb dX4_sumWithin_26 ?_
      refine lv_iadd hx hb dX4_sumWithin_27 ?_
      obtain ⟨b6, ⟨hrb6, hfs⟩, hw⟩ := hw
      refine j_goz hI (va_runV (As := [.int (v2 + (x6 * v3))]) (rest := []) ⟨hx, hb, hml, hown, hts⟩ (kX2_firstSettlingFrom l hfl D z b6 (v2 + (x6 * v3)) μ H.size _) (cwV 1 hts gX4_sumWithin_X2_firstSettlingFrom rfl rfl rfl (by decide +kernel) ⟨Nat.le_of_ble_eq_true rfl, Nat.le_of_ble_eq_true rfl⟩) (j_prV2z hK hG hI hw (ci := 5) rfl hfs) rfl rfl hl.1 (by rw [hrb6]; rfl) (lv_room (Nat.le_of_ble_eq_true rfl)) dX4_sumWithin_28 ⟨by show _ ≤ 0; omega, by show _ ≤ 0; omega⟩) (fun v4 μ5 H locs hw hI => ?_)
      refine W.eq (g2 := F0 m 31 ls [.int v4]) rfl ?_
      refine lv_istore (lv' := [(7, .int v4), (0, va_rf (some b)), (1, va_rf x1), (2, .int x2), (3, .int x3), (4, .long x4), (6, .int x6)]) hx hb dX4_sumWithin_31 hl (by decide) rfl (fun ls hl => ?_)
      refine lv_iload hx hb dX4_sumWithin_33 (lv_at hl 0 rfl) ?_
      refine lv_iload_n hx hb dX4_sumWithin_35 rfl (lv_at hl 3 rfl) ?_
      refine lv_icmp_lt (tgt := 55) hx hb dX4_sumWithin_36 (by decide) (fun hc => ?_) (fun hc => ?_)
      · have hw := hw.1 hc
        obtain ⟨v7, ev7⟩ : ∃ y : Int32, y = x6 + (1 : Int32) := ⟨_, rfl⟩
        have hw := hw v7 ev7
        refine lv_iinc (v := v7) (lv' := [(6, .int v7), (7, .int v4), (0, va_rf (some b)), (1, va_rf x1), (2, .int x2), (3, .int x3), (4, .long x4)]) hx hb dX4_sumWithin_55 hl (k := 6) rfl (by rw [ev7]; rfl) (by decide) rfl (fun ls hl => ?_)
        refine lv_goto (tgt := 6) hx hb dX4_sumWithin_58 (by decide) ?_
        exact ih hw hI (lv_sub hl [2, 3, 4, 5, 6, 0] rfl) (by omega) (by omega)
      · have hw := hw.2 hc
        refine lv_iload hx hb dX4_sumWithin_39 (lv_at hl 0 rfl) ?_
        refine lv_iload_n hx hb dX4_sumWithin_41 rfl (lv_at hl 4 rfl) ?_
        refine lv_icmp_gt (tgt := 55) hx hb dX4_sumWithin_42 (by decide) (fun hc => ?_) (fun hc => ?_)
        · have hw := hw.1 hc
          obtain ⟨v8, ev8⟩ : ∃ y : Int32, y = x6 + (1 : Int32) := ⟨_, rfl⟩
          have hw := hw v8 ev8
          refine lv_iinc (v := v8) (lv' := [(6, .int v8), (7, .int v4), (0, va_rf (some b)), (1, va_rf x1), (2, .int x2), (3, .int x3), (4, .long x4)]) hx hb dX4_sumWithin_55 hl (k := 6) rfl (by rw [ev8]; rfl) (by decide) rfl (fun ls hl => ?_)
          refine lv_goto (tgt := 6) hx hb dX4_sumWithin_58 (by decide) ?_
          exact ih hw hI (lv_sub hl [2, 3, 4, 5, 6, 0] rfl) (by omega) (by omega)
        · have hw := hw.2 hc
          refine lv_lload hx hb dX4_sumWithin_45 (lv_at hl 5 rfl) ?_
          refine j_aload_n (r := (some b)) hx hb dX4_sumWithin_47 rfl (lv_at hl 1 rfl) ?_
          obtain ⟨v9, hv9, hw⟩ := hw
          refine j_getz (C := RX4) (T := TX4) (N := 7) (ci := 7) (r := (some b)) (v := .int v9) hx hb hfX4 hown hK hI rfl 1 (by decide) (hts (.fieldLink RX4 13 "CashPools$Flow" "amount" "I") (List.mem_of_getElem? (i := 4) (by decide +kernel))) (fun _ h => h) hv9 dX4_sumWithin_48 ?_
          refine lv_i2l hx hb dX4_sumWithin_51 rfl ?_
          refine lv_ladd hx hb dX4_sumWithin_52 ?_
          refine lv_topl (fun v10 ev10 => ?_)
          have hw := hw v10 ev10
          refine lv_lstore (lv' := [(4, .long v10), (7, .int v4), (0, va_rf (some b)), (1, va_rf x1), (2, .int x2), (3, .int x3), (6, .int x6)]) hx hb dX4_sumWithin_53 hl (by decide) rfl (fun ls hl => ?_)
          obtain ⟨v11, ev11⟩ : ∃ y : Int32, y = x6 + (1 : Int32) := ⟨_, rfl⟩
          have hw := hw v11 ev11
          refine lv_iinc (v := v11) (lv' := [(6, .int v11), (4, .long v10), (7, .int v4), (0, va_rf (some b)), (1, va_rf x1), (2, .int x2), (3, .int x3)]) hx hb dX4_sumWithin_55 hl (k := 6) rfl (by rw [ev11]; rfl) (by decide) rfl (fun ls hl => ?_)
          refine lv_goto (tgt := 6) hx hb dX4_sumWithin_58 (by decide) ?_
          exact ih hw hI (lv_sub hl [3, 4, 5, 6, 1, 0] rfl) (by omega) (by omega)
set_option maxHeartbeats 4000000 in
set_option maxRecDepth 100000 in
theorem kX4_sumWithin_0 {b : Nat} (hX : jX2 D z A p l s m args meth c yX4_sumWithin cX4_sumWithin 8 wsX4_sumWithin (some .long)) {Q : Int64 → jM → Prop}  {x1 : Option Nat} {x2 : Int32} {x3 : Int32} {μ : jM} {H : Heap} {locs : List Loc} {ls : Array Slot} {cells slots : Nat} (hw : wX4_sumWithin_0 z b Q x1 x2 x3 μ) (hI : jIz D z A s.heap μ H locs) (hl : lv_has ls 8 [(0, va_rf (some b)), (1, va_rf x1), (2, .int x2), (3, .int x3)]) (hcn : cells + 0 ≤ 0) (hsn : slots + 0 ≤ 0) : W p l e rmX4_sumWithin s m args below meth c H locs cells slots (MQ below (jRz jfJ Q D z A) args s 0 0 A) (F0 m 0 ls []) := by
  unfold wX4_sumWithin_0 at hw
  obtain ⟨hx, hb, hml, hown, hts, hr, hlocks, hnm, hK, hG, hfl⟩ := id hX
  have hown : s.vm.findClass RX4 = some m.cls := hown
  refine lv_lconst (v := (0)) hx hb dX4_sumWithin_0 (by decide) ?_
  refine lv_topl (fun v1 ev1 => ?_)
  have hw := hw v1 ev1
  refine lv_lstore (lv' := [(4, .long v1), (0, va_rf (some b)), (1, va_rf x1), (2, .int x2), (3, .int x3)]) hx hb dX4_sumWithin_1 hl (by decide) rfl (fun ls hl => ?_)
  refine lv_iconst (v := (0)) hx hb dX4_sumWithin_3 (by decide) ?_
  refine lv_topi (fun v2 ev2 => ?_)
  have hw := hw v2 ev2
  refine lv_istore (lv' := [(6, .int v2), (4, .long v1), (0, va_rf (some b)), (1, va_rf x1), (2, .int x2), (3, .int x3)]) hx hb dX4_sumWithin_4 hl (by decide) rfl (fun ls hl => ?_)
  obtain ⟨n3, hw⟩ := hw
  exact kX4_sumWithin_6 hX  n3 hw hI (lv_sub hl [2, 3, 4, 5, 1, 0] rfl) (by omega) (by omega)
set_option maxHeartbeats 4000000 in
set_option maxRecDepth 100000 in
theorem kX4_sumWithin (l : Launch) (hfl : l.stackTraces = false) (D : jD) (z : Nat × Nat) (b : Nat) (x1 : Option Nat) (x2 : Int32) (x3 : Int32) (μ : jM) (sz : Nat) (Q : Int64 → jM → Prop) : Met l yX4_sumWithin wsX4_sumWithin rmX4_sumWithin (jPre2z D z μ sz [.ref b, va_rf x1, .int x2, .int x3] (wX4_sumWithin z b x1 x2 x3 μ Q)) (jRz jfJ Q D z (jA z μ sz)) 0 0 (jA z μ sz) := by
  refine Met.ofW (cc := cX4_sumWithin) (maxL := 8) (ret := (some .long)) (by decide) rfl ?_
  intro p e s m args below meth c s₁ B hml hv
  obtain ⟨rfl, hsz, hH, hz0, hK, hG, hw⟩ := hv
  subst hsz
  have hX : jX2 D z (jA z μ s.heap.size) p l s m _ meth c yX4_sumWithin cX4_sumWithin 8 wsX4_sumWithin (some .long) := ⟨B.exec, B.bytes, hml, findClass_of_methodNamed B.named, atoms_spec (ws := wsX4_sumWithin) B.pre, B.returns, B.notSynchronized, (name_of_methodNamed B.named B.method).1, hK, hG, hfl⟩
  obtain ⟨ls, hg, hl⟩ : ∃ ls : Array Slot, entryFrame m ([.ref b, va_rf x1, .int x2, .int x3] : List Value).toArray 8 = F0 m 0 ls [] ∧ lv_has ls 8 [(0, va_rf (some b)), (1, va_rf x1), (2, .int x2), (3, .int x3)] := by
    cases x1 <;> exact ⟨_, lg_entry_eq .., lv_entry _ (n := 8) (Nat.le_of_ble_eq_true rfl)⟩
  rw [hg]
  exact kX4_sumWithin_0 hX hw (jIz.start hH hz0) (lv_sub hl [0, 1, 2, 3] rfl) (by decide) (by decide)
set_option maxHeartbeats 4000000 in
set_option maxRecDepth 100000 in
theorem kX3_sumOfFlows_6 {b : Nat} (hX : jX2 D z A p l s m args meth c yX3_sumOfFlows cX3_sumOfFlows 8 wsX3_sumOfFlows (some .long)) {Q : Int64 → jM → Prop}  (n : Nat) : ∀ {x1 : Option Nat} {x2 : Int32} {x3 : Int32} {x4 : Int64} {x6 : Int32} {μ : jM} {H : Heap} {locs : List Loc} {ls : Array Slot} {cells slots : Nat}, wX3_sumOfFlows_6 z b Q n x1 x2 x3 x4 x6 μ → jIz D z A s.heap μ H locs → lv_has ls 8 [(0, va_rf (some b)), (1, va_rf x1), (2, .int x2), (3, .int x3), (4, .long x4), (6, .int x6)] → cells + 0 ≤ 0 → slots + 0 ≤ 0 → W p l e rmX3_sumOfFlows s m args below meth c H locs cells slots (MQ below (jRz jfJ Q D z A) args s 0 0 A) (F0 m 6 ls []) := by
  induction n with
  | zero =>
    intros
    rename_i hw _ _ _ _
    exact (show False from hw).elim
  | succ n ih =>
    intro x1 x2 x3 x4 x6 μ H locs ls cells slots hw hI hl hcn hsn
    have hw : wX3_sumOfFlows_6_b z b Q (wX3_sumOfFlows_6 z b Q n) x1 x2 x3 x4 x6 μ := hw
    unfold wX3_sumOfFlows_6_b at hw
    obtain ⟨hx, hb, hml, hown, hts, hr, hlocks, hnm, hK, hG, hfl⟩ := id hX
    have hown : s.vm.findClass RX3 = some m.cls := hown
    have hfX3 : ∀ w ∈ wsX30, w.before args s = true := fun w h => hts w (List.mem_cons_of_mem _ (List.mem_append_left _ (List.mem_append_left _ (List.mem_append_left _ (List.mem_append_right _ h)))))
    have hfX4 : ∀ w ∈ wsX40, w.before args s = true := fun w h => hts w (List.mem_cons_of_mem _ (List.mem_append_left _ (List.mem_append_left _ (List.mem_append_right _ h))))
    refine lv_iload hx hb dX3_sumOfFlows_6 (lv_at hl 5 rfl) ?_
    refine j_aload_n (r := (some b)) hx hb dX3_sumOfFlows_8 rfl (lv_at hl 0 rfl) ?_
    obtain ⟨v1, hv1, hw⟩ := hw
    refine j_getz (C := RX3) (T := TX3) (N := 8) (ci := 6) (r := (some b)) (v := va_rf v1) hx hb hfX3 hown hK hI rfl 3 (by decide) (hts (.fieldLink RX3 24 "CashPools$Desk" "everyFlow" "Ljava/util/ArrayList;") (List.mem_of_getElem? (i := 1) (by decide +kernel))) (fun _ h => h) hv1 dX3_sumOfFlows_9 ?_
    obtain ⟨b4, ⟨hrb4, hfs⟩, hw⟩ := hw
    refine j_goz hI (va_runV (As := []) (rest := [.int x6]) ⟨hx, hb, hml, hown, hts⟩ (kJx4a65c_size_8abf5 l hfl D z b4  μ H.size _) (cwV 0 hts gX3_sumOfFlows_Jx4a65c_size_8abf5 rfl rfl rfl (by decide +kernel) ⟨Nat.le_of_ble_eq_true rfl, Nat.le_of_ble_eq_true rfl⟩) (j_prV2z hK hG hI hw (ci := 2) rfl hfs) rfl rfl hl.1 (by rw [hrb4]; rfl) (lv_room (Nat.le_of_ble_eq_true rfl)) dX3_sumOfFlows_12 ⟨by show _ ≤ 0; omega, by show _ ≤ 0; omega⟩) (fun v2 μ3 H locs hw hI => ?_)
    refine W.eq (g2 := F0 m 15 ls [.int v2, .int x6]) rfl ?_
    refine lv_icmp_ge (tgt := 63) hx hb dX3_sumOfFlows_15 (by decide) (fun hc => ?_) (fun hc => ?_)
    · have hw := hw.1 hc
      refine lv_lload hx hb dX3_sumOfFlows_63 (lv_at hl 4 rfl) ?_
      exact j_lretz hx hb hr hlocks hI hw (by omega) (by omega) dX3_sumOfFlows_65
    · have hw := hw.2 hc
      refine j_aload_n (r := (some b)) hx hb dX3_sumOfFlows_18 rfl (lv_at hl 0 rfl) ?_
      obtain ⟨v5, hv5, hw⟩ := hw
      refine j_getz (C := RX3) (T := TX3) (N := 8) (ci := 6) (r := (some b)) (v := va_rf v5) hx hb hfX3 hown hK hI rfl 3 (by decide) (hts (.fieldLink RX3 24 "CashPools$Desk" "everyFlow" "Ljava/util/ArrayList;") (List.mem_of_getElem? (i := 1) (by decide +kernel))) (fun _ h => h) hv5 dX3_sumOfFlows_19 ?_
      refine lv_iload hx hb dX3_sumOfFlows_22 (lv_at hl 5 rfl) ?_
      obtain ⟨b8, ⟨hrb8, hfs⟩, hw⟩ := hw
      refine j_goz hI (va_runV (As := [.int x6]) (rest := []) ⟨hx, hb, hml, hown, hts⟩ (kJx4a65c_get_915e3 l hfl D z b8 x6 μ3 H.size _) (cwV 1 hts gX3_sumOfFlows_Jx4a65c_get_915e3 rfl rfl rfl (by decide +kernel) ⟨Nat.le_of_ble_eq_true rfl, Nat.le_of_ble_eq_true rfl⟩) (j_prV2z hK hG hI hw (ci := 2) rfl hfs) rfl rfl hl.1 (by rw [hrb8]; rfl) (lv_room (Nat.le_of_ble_eq_true rfl)) dX3_sumOfFlows_24 ⟨by show _ ≤ 0; omega, by show _ ≤ 0; omega⟩) (fun v6 μ7 H locs hw hI => ?_)
      refine W.eq (g2 := F0 m 27 ls [va_rf v6]) rfl ?_
      obtain ⟨h9, hw⟩ := hw
      refine j_castz (C := RX4) (T := TX4) (N := 7) (ci := 7) (r := v6) hx hb hown (hts (.classLink RX3 113 "CashPools$Flow") (List.mem_of_getElem? (i := 2) (by decide +kernel))) hK hI rfl h9 dX3_sumOfFlows_27 ?_
      refine j_astore (r := v6) (lv' := [(7, va_rf v6), (0, va_rf (some b)), (1, va_rf x1), (2, .int x2), (3, .int x3), (4, .long x4), (6, .int x6)]) hx hb dX3_sumOfFlows_30 hl (by decide) rfl (fun ls hl => ?_)
      refine j_aload (r := v6) hx hb dX3_sumOfFlows_32 (lv_at hl 0 rfl) ?_
      obtain ⟨v10, hv10, hw⟩ := hw
      refine j_getz (C := RX4) (T := TX4) (N := 7) (ci := 7) (r := v6) (v := va_rf v10) hx hb hfX4 hown hK hI rfl 0 (by decide) (hts (.fieldLink RX3 185 "CashPools$Flow" "account" "LCashPools$Account;") (List.mem_of_getElem? (i := 3) (by decide +kernel))) (fun _ h => h) hv10 dX3_sumOfFlows_34 ?_
      refine j_aload_n (r := x1) hx hb dX3_sumOfFlows_37 rfl (lv_at hl 2 rfl) ?_
      refine lv_acmp_ne (rx := v10) (ry := x1) (tgt := 57) hx hb dX3_sumOfFlows_38 (by decide) (fun hc => ?_) (fun hc => ?_)
      · have hw := hw.1 hc
        obtain ⟨v11, ev11⟩ : ∃ y : Int32, y = x6 + (1 : Int32) := ⟨_, rfl⟩
        have hw := hw v11 ev11
        refine lv_iinc (v := v11) (lv' := [(6, .int v11), (7, va_rf v6), (0, va_rf (some b)), (1, va_rf x1), (2, .int x2), (3, .int x3), (4, .long x4)]) hx hb dX3_sumOfFlows_57 hl (k := 6) rfl (by rw [ev11]; rfl) (by decide) rfl (fun ls hl => ?_)
        refine lv_goto (tgt := 6) hx hb dX3_sumOfFlows_60 (by decide) ?_
        exact ih hw hI (lv_sub hl [2, 3, 4, 5, 6, 0] rfl) (by omega) (by omega)
      · have hw := hw.2 hc
        refine lv_lload hx hb dX3_sumOfFlows_41 (lv_at hl 5 rfl) ?_
        refine j_aload (r := v6) hx hb dX3_sumOfFlows_43 (lv_at hl 0 rfl) ?_
        refine j_aload_n (r := (some b)) hx hb dX3_sumOfFlows_45 rfl (lv_at hl 1 rfl) ?_
        obtain ⟨v12, hv12, hw⟩ := hw
        refine j_getz (C := RX3) (T := TX3) (N := 8) (ci := 6) (r := (some b)) (v := va_rf v12) hx hb hfX3 hown hK hI rfl 5 (by decide) (hts (.fieldLink RX3 33 "CashPools$Desk" "calendar" "LCashPools$Calendar;") (List.mem_of_getElem? (i := 4) (by decide +kernel))) (fun _ h => h) hv12 dX3_sumOfFlows_46 ?_
        refine lv_iload_n hx hb dX3_sumOfFlows_49 rfl (lv_at hl 3 rfl) ?_
        refine lv_iload_n hx hb dX3_sumOfFlows_50 rfl (lv_at hl 4 rfl) ?_
        obtain ⟨b15, ⟨hrb15, hfs⟩, hw⟩ := hw
        refine j_goz hI (va_runV (As := [va_rf v12, .int x2, .int x3]) (rest := [.long x4]) ⟨hx, hb, hml, hown, hts⟩ (kX4_sumWithin l hfl D z b15 v12 x2 x3 μ7 H.size _) (cwV 3 hts gX3_sumOfFlows_X4_sumWithin rfl rfl rfl (by decide +kernel) ⟨Nat.le_of_ble_eq_true rfl, Nat.le_of_ble_eq_true rfl⟩) (j_prV2z hK hG hI hw (ci := 7) rfl hfs) rfl rfl hl.1 (by rw [hrb15]; rfl) (lv_room (Nat.le_of_ble_eq_true rfl)) dX3_sumOfFlows_51 ⟨by show _ ≤ 0; omega, by show _ ≤ 0; omega⟩) (fun v13 μ14 H locs hw hI => ?_)
        refine W.eq (g2 := F0 m 54 ls [.long v13, .long x4]) rfl ?_
        refine lv_ladd hx hb dX3_sumOfFlows_54 ?_
        refine lv_topl (fun v16 ev16 => ?_)
        have hw := hw v16 ev16
        refine lv_lstore (lv' := [(4, .long v16), (7, va_rf v6), (0, va_rf (some b)), (1, va_rf x1), (2, .int x2), (3, .int x3), (6, .int x6)]) hx hb dX3_sumOfFlows_55 hl (by decide) rfl (fun ls hl => ?_)
        obtain ⟨v17, ev17⟩ : ∃ y : Int32, y = x6 + (1 : Int32) := ⟨_, rfl⟩
        have hw := hw v17 ev17
        refine lv_iinc (v := v17) (lv' := [(6, .int v17), (4, .long v16), (7, va_rf v6), (0, va_rf (some b)), (1, va_rf x1), (2, .int x2), (3, .int x3)]) hx hb dX3_sumOfFlows_57 hl (k := 6) rfl (by rw [ev17]; rfl) (by decide) rfl (fun ls hl => ?_)
        refine lv_goto (tgt := 6) hx hb dX3_sumOfFlows_60 (by decide) ?_
        exact ih hw hI (lv_sub hl [3, 4, 5, 6, 1, 0] rfl) (by omega) (by omega)
set_option maxHeartbeats 4000000 in
set_option maxRecDepth 100000 in
theorem kX3_sumOfFlows_0 {b : Nat} (hX : jX2 D z A p l s m args meth c yX3_sumOfFlows cX3_sumOfFlows 8 wsX3_sumOfFlows (some .long)) {Q : Int64 → jM → Prop}  {x1 : Option Nat} {x2 : Int32} {x3 : Int32} {μ : jM} {H : Heap} {locs : List Loc} {ls : Array Slot} {cells slots : Nat} (hw : wX3_sumOfFlows_0 z b Q x1 x2 x3 μ) (hI : jIz D z A s.heap μ H locs) (hl : lv_has ls 8 [(0, va_rf (some b)), (1, va_rf x1), (2, .int x2), (3, .int x3)]) (hcn : cells + 0 ≤ 0) (hsn : slots + 0 ≤ 0) : W p l e rmX3_sumOfFlows s m args below meth c H locs cells slots (MQ below (jRz jfJ Q D z A) args s 0 0 A) (F0 m 0 ls []) := by
  unfold wX3_sumOfFlows_0 at hw
  obtain ⟨hx, hb, hml, hown, hts, hr, hlocks, hnm, hK, hG, hfl⟩ := id hX
  have hown : s.vm.findClass RX3 = some m.cls := hown
  refine lv_lconst (v := (0)) hx hb dX3_sumOfFlows_0 (by decide) ?_
  refine lv_topl (fun v1 ev1 => ?_)
  have hw := hw v1 ev1
  refine lv_lstore (lv' := [(4, .long v1), (0, va_rf (some b)), (1, va_rf x1), (2, .int x2), (3, .int x3)]) hx hb dX3_sumOfFlows_1 hl (by decide) rfl (fun ls hl => ?_)
  refine lv_iconst (v := (0)) hx hb dX3_sumOfFlows_3 (by decide) ?_
  refine lv_topi (fun v2 ev2 => ?_)
  have hw := hw v2 ev2
  refine lv_istore (lv' := [(6, .int v2), (4, .long v1), (0, va_rf (some b)), (1, va_rf x1), (2, .int x2), (3, .int x3)]) hx hb dX3_sumOfFlows_4 hl (by decide) rfl (fun ls hl => ?_)
  obtain ⟨n3, hw⟩ := hw
  exact kX3_sumOfFlows_6 hX  n3 hw hI (lv_sub hl [2, 3, 4, 5, 1, 0] rfl) (by omega) (by omega)
set_option maxHeartbeats 4000000 in
set_option maxRecDepth 100000 in
theorem kX3_sumOfFlows (l : Launch) (hfl : l.stackTraces = false) (D : jD) (z : Nat × Nat) (b : Nat) (x1 : Option Nat) (x2 : Int32) (x3 : Int32) (μ : jM) (sz : Nat) (Q : Int64 → jM → Prop) : Met l yX3_sumOfFlows wsX3_sumOfFlows rmX3_sumOfFlows (jPre2z D z μ sz [.ref b, va_rf x1, .int x2, .int x3] (wX3_sumOfFlows z b x1 x2 x3 μ Q)) (jRz jfJ Q D z (jA z μ sz)) 0 0 (jA z μ sz) := by
  refine Met.ofW (cc := cX3_sumOfFlows) (maxL := 8) (ret := (some .long)) (by decide) rfl ?_
  intro p e s m args below meth c s₁ B hml hv
  obtain ⟨rfl, hsz, hH, hz0, hK, hG, hw⟩ := hv
  subst hsz
  have hX : jX2 D z (jA z μ s.heap.size) p l s m _ meth c yX3_sumOfFlows cX3_sumOfFlows 8 wsX3_sumOfFlows (some .long) := ⟨B.exec, B.bytes, hml, findClass_of_methodNamed B.named, atoms_spec (ws := wsX3_sumOfFlows) B.pre, B.returns, B.notSynchronized, (name_of_methodNamed B.named B.method).1, hK, hG, hfl⟩
  obtain ⟨ls, hg, hl⟩ : ∃ ls : Array Slot, entryFrame m ([.ref b, va_rf x1, .int x2, .int x3] : List Value).toArray 8 = F0 m 0 ls [] ∧ lv_has ls 8 [(0, va_rf (some b)), (1, va_rf x1), (2, .int x2), (3, .int x3)] := by
    cases x1 <;> exact ⟨_, lg_entry_eq .., lv_entry _ (n := 8) (Nat.le_of_ble_eq_true rfl)⟩
  rw [hg]
  exact kX3_sumOfFlows_0 hX hw (jIz.start hH hz0) (lv_sub hl [0, 1, 2, 3] rfl) (by decide) (by decide)
set_option maxHeartbeats 4000000 in
set_option maxRecDepth 100000 in
theorem kX9_scheduled_0 {b : Nat} (hX : jX2 D z A p l s m args meth c yX9_scheduled cX9_scheduled 5 wsX9_scheduled (some .long)) {Q : Int64 → jM → Prop}  {x1 : Int32} {x2 : Int32} {x3 : Int32} {μ : jM} {H : Heap} {locs : List Loc} {ls : Array Slot} {cells slots : Nat} (hw : wX9_scheduled_0 z b Q jN x1 x2 x3 μ) (hI : jIz D z A s.heap μ H locs) (hl : lv_has ls 5 [(0, va_rf (some b)), (1, .int x1), (2, .int x2), (3, .int x3)]) (hcn : cells + 0 ≤ 0) (hsn : slots + 0 ≤ 0) : W p l e rmX9_scheduled s m args below meth c H locs cells slots (MQ below (jRz jfJ Q D z A) args s 0 0 A) (F0 m 0 ls []) := by
  unfold wX9_scheduled_0 at hw
  obtain ⟨hx, hb, hml, hown, hts, hr, hlocks, hnm, hK, hG, hfl⟩ := id hX
  have hown : s.vm.findClass RX9 = some m.cls := hown
  have hfX3 : ∀ w ∈ wsX30, w.before args s = true := fun w h => hts w (List.mem_cons_of_mem _ (List.mem_append_left _ (List.mem_append_left _ (List.mem_append_left _ (List.mem_append_left _ (List.mem_append_left _ (List.mem_append_right _ h)))))))
  have hfX9 : ∀ w ∈ wsX90, w.before args s = true := fun w h => hts w (List.mem_cons_of_mem _ (List.mem_append_left _ (List.mem_append_left _ (List.mem_append_left _ (List.mem_append_left _ (List.mem_append_left _ (List.mem_append_left _ (List.mem_append_right _ h))))))))
  refine j_aload_n (r := (some b)) hx hb dX9_scheduled_0 rfl (lv_at hl 0 rfl) ?_
  refine lv_iload_n hx hb dX9_scheduled_1 rfl (lv_at hl 1 rfl) ?_
  obtain ⟨hfs, hw⟩ := hw
  refine j_goz hI (va_runV (As := [.int x1]) (rest := []) ⟨hx, hb, hml, hown, hts⟩ (kX9_accountAt l hfl D z b x1 μ H.size _) (cwV 1 hts gX9_scheduled_X9_accountAt rfl rfl rfl (by decide +kernel) ⟨Nat.le_of_ble_eq_true rfl, Nat.le_of_ble_eq_true rfl⟩) (j_prV2z hK hG hI hw (ci := 11) rfl hfs) rfl rfl hl.1 rfl (lv_room (Nat.le_of_ble_eq_true rfl)) dX9_scheduled_2 ⟨by show _ ≤ 0; omega, by show _ ≤ 0; omega⟩) (fun v1 μ2 H locs hw hI => ?_)
  refine W.eq (g2 := F0 m 5 ls [va_rf v1]) rfl ?_
  refine j_astore (r := v1) (lv' := [(4, va_rf v1), (0, va_rf (some b)), (1, .int x1), (2, .int x2), (3, .int x3)]) hx hb dX9_scheduled_5 hl (by decide) rfl (fun ls hl => ?_)
  refine lv_iload_n hx hb dX9_scheduled_7 rfl (lv_at hl 3 rfl) ?_
  refine j_aload_n (r := (some b)) hx hb dX9_scheduled_8 rfl (lv_at hl 1 rfl) ?_
  obtain ⟨v3, hv3, hw⟩ := hw
  refine j_getz (C := RX9) (T := TX9) (N := 1) (ci := 11) (r := (some b)) (v := va_rf v3) hx hb hfX9 hown hK hI rfl 0 (by decide) (hts (.fieldLink RX9 10 "CashPools" "desk" "LCashPools$Desk;") (List.mem_of_getElem? (i := 1) (by decide +kernel))) (fun _ h => h) hv3 dX9_scheduled_9 ?_
  obtain ⟨v4, hv4, hw⟩ := hw
  refine j_getz (C := RX3) (T := TX3) (N := 8) (ci := 6) (r := v3) (v := .int v4) hx hb hfX3 hown hK hI rfl 6 (by decide) (hts (.fieldLink RX9 91 "CashPools$Desk" "day" "I") (List.mem_of_getElem? (i := 2) (by decide +kernel))) (fun _ h => h) hv4 dX9_scheduled_12 ?_
  refine lv_sipush (v := (450)) hx hb dX9_scheduled_15 (by decide) ?_
  refine j_goz hI (va_runS (As := [.int x2, .int v4, .int (450 : Int32)]) (rest := []) ⟨hx, hb, hml, hown, hts⟩ (kX9_requireWithin l hfl D z x2 v4 (450 : Int32) μ2 H.size _) (va_cwS 3 hts gX9_scheduled_X9_requireWithin rfl rfl rfl (by decide +kernel) ⟨Nat.le_of_ble_eq_true rfl, Nat.le_of_ble_eq_true rfl⟩) (j_prS2z hK hG hI hw) rfl rfl hl.1 rfl (lv_room (Nat.le_of_ble_eq_true rfl)) dX9_scheduled_18 ⟨by show _ ≤ 0; omega, by show _ ≤ 0; omega⟩) (fun u5 μ6 H locs hw hI => ?_)
  refine W.eq (g2 := F0 m 21 ls []) rfl ?_
  refine lv_iload_n hx hb dX9_scheduled_21 rfl (lv_at hl 4 rfl) ?_
  refine lv_iload_n hx hb dX9_scheduled_22 rfl (lv_at hl 3 rfl) ?_
  refine lv_sipush (v := (450)) hx hb dX9_scheduled_23 (by decide) ?_
  refine j_goz hI (va_runS (As := [.int x3, .int x2, .int (450 : Int32)]) (rest := []) ⟨hx, hb, hml, hown, hts⟩ (kX9_requireWithin l hfl D z x3 x2 (450 : Int32) μ6 H.size _) (va_cwS 3 hts gX9_scheduled_X9_requireWithin rfl rfl rfl (by decide +kernel) ⟨Nat.le_of_ble_eq_true rfl, Nat.le_of_ble_eq_true rfl⟩) (j_prS2z hK hG hI hw) rfl rfl hl.1 rfl (lv_room (Nat.le_of_ble_eq_true rfl)) dX9_scheduled_26 ⟨by show _ ≤ 0; omega, by show _ ≤ 0; omega⟩) (fun u7 μ8 H locs hw hI => ?_)
  refine W.eq (g2 := F0 m 29 ls []) rfl ?_
  refine j_aload_n (r := (some b)) hx hb dX9_scheduled_29 rfl (lv_at hl 1 rfl) ?_
  obtain ⟨v9, hv9, hw⟩ := hw
  refine j_getz (C := RX9) (T := TX9) (N := 1) (ci := 11) (r := (some b)) (v := va_rf v9) hx hb hfX9 hown hK hI rfl 0 (by decide) (hts (.fieldLink RX9 10 "CashPools" "desk" "LCashPools$Desk;") (List.mem_of_getElem? (i := 1) (by decide +kernel))) (fun _ h => h) hv9 dX9_scheduled_30 ?_
  refine j_aload (r := v1) hx hb dX9_scheduled_33 (lv_at hl 0 rfl) ?_
  refine lv_iload_n hx hb dX9_scheduled_35 rfl (lv_at hl 3 rfl) ?_
  refine lv_iload_n hx hb dX9_scheduled_36 rfl (lv_at hl 4 rfl) ?_
  obtain ⟨b12, ⟨hrb12, hfs⟩, hw⟩ := hw
  refine j_goz hI (va_runV (As := [va_rf v1, .int x2, .int x3]) (rest := []) ⟨hx, hb, hml, hown, hts⟩ (kX3_sumOfFlows l hfl D z b12 v1 x2 x3 μ8 H.size _) (cwV 3 hts gX9_scheduled_X3_sumOfFlows rfl rfl rfl (by decide +kernel) ⟨Nat.le_of_ble_eq_true rfl, Nat.le_of_ble_eq_true rfl⟩) (j_prV2z hK hG hI hw (ci := 6) rfl hfs) rfl rfl hl.1 (by rw [hrb12]; rfl) (lv_room (Nat.le_of_ble_eq_true rfl)) dX9_scheduled_37 ⟨by show _ ≤ 0; omega, by show _ ≤ 0; omega⟩) (fun v10 μ11 H locs hw hI => ?_)
  refine W.eq (g2 := F0 m 40 ls [.long v10]) rfl ?_
  exact j_lretz hx hb hr hlocks hI hw (by omega) (by omega) dX9_scheduled_40
set_option maxHeartbeats 4000000 in
set_option maxRecDepth 100000 in
theorem kX9_scheduled (l : Launch) (hfl : l.stackTraces = false) (D : jD) (z : Nat × Nat) (b : Nat) (x1 : Int32) (x2 : Int32) (x3 : Int32) (μ : jM) (sz : Nat) (Q : Int64 → jM → Prop) : Met l yX9_scheduled wsX9_scheduled rmX9_scheduled (jPre2z D z μ sz [.ref b, .int x1, .int x2, .int x3] (wX9_scheduled z b x1 x2 x3 μ Q jN)) (jRz jfJ Q D z (jA z μ sz)) 0 0 (jA z μ sz) := by
  refine Met.ofW (cc := cX9_scheduled) (maxL := 5) (ret := (some .long)) (by decide) rfl ?_
  intro p e s m args below meth c s₁ B hml hv
  obtain ⟨rfl, hsz, hH, hz0, hK, hG, hw⟩ := hv
  subst hsz
  have hX : jX2 D z (jA z μ s.heap.size) p l s m _ meth c yX9_scheduled cX9_scheduled 5 wsX9_scheduled (some .long) := ⟨B.exec, B.bytes, hml, findClass_of_methodNamed B.named, atoms_spec (ws := wsX9_scheduled) B.pre, B.returns, B.notSynchronized, (name_of_methodNamed B.named B.method).1, hK, hG, hfl⟩
  obtain ⟨ls, hg, hl⟩ : ∃ ls : Array Slot, entryFrame m ([.ref b, .int x1, .int x2, .int x3] : List Value).toArray 5 = F0 m 0 ls [] ∧ lv_has ls 5 [(0, va_rf (some b)), (1, .int x1), (2, .int x2), (3, .int x3)] := by
    exact ⟨_, lg_entry_eq .., lv_entry _ (n := 5) (Nat.le_of_ble_eq_true rfl)⟩
  rw [hg]
  exact kX9_scheduled_0 hX hw (jIz.start hH hz0) (lv_sub hl [0, 1, 2, 3] rfl) (by decide) (by decide)
set_option maxHeartbeats 4000000 in
set_option maxRecDepth 100000 in
theorem kX9_poolInterest_0 {b : Nat} (hX : jX2 D z A p l s m args meth c yX9_poolInterest cX9_poolInterest 3 wsX9_poolInterest (some .long)) {Q : Int64 → jM → Prop}  {x1 : Int32} {μ : jM} {H : Heap} {locs : List Loc} {ls : Array Slot} {cells slots : Nat} (hw : wX9_poolInterest_0 z b Q jN x1 μ) (hI : jIz D z A s.heap μ H locs) (hl : lv_has ls 3 [(0, va_rf (some b)), (1, .int x1)]) (hcn : cells + 0 ≤ 0) (hsn : slots + 0 ≤ 0) : W p l e rmX9_poolInterest s m args below meth c H locs cells slots (MQ below (jRz jfJ Q D z A) args s 0 0 A) (F0 m 0 ls []) := by
  unfold wX9_poolInterest_0 at hw
  obtain ⟨hx, hb, hml, hown, hts, hr, hlocks, hnm, hK, hG, hfl⟩ := id hX
  have hown : s.vm.findClass RX9 = some m.cls := hown
  have hfX0 : ∀ w ∈ wsX00, w.before args s = true := fun w h => hts w (List.mem_cons_of_mem _ (List.mem_append_left _ (List.mem_append_left _ (List.mem_append_left _ (List.mem_append_left _ (List.mem_append_left _ (List.mem_append_left _ (List.mem_append_left _ (List.mem_append_right _ h)))))))))
  have hfX6 : ∀ w ∈ wsX60, w.before args s = true := fun w h => hts w (List.mem_cons_of_mem _ (List.mem_append_left _ (List.mem_append_left _ (List.mem_append_left _ (List.mem_append_left _ (List.mem_append_left _ (List.mem_append_left _ (List.mem_append_right _ h))))))))
  have hfX7 : ∀ w ∈ wsX70, w.before args s = true := fun w h => hts w (List.mem_cons_of_mem _ (List.mem_append_left _ (List.mem_append_left _ (List.mem_append_left _ (List.mem_append_left _ (List.mem_append_left _ (List.mem_append_right _ h)))))))
  refine j_aload_n (r := (some b)) hx hb dX9_poolInterest_0 rfl (lv_at hl 0 rfl) ?_
  refine lv_iload_n hx hb dX9_poolInterest_1 rfl (lv_at hl 1 rfl) ?_
  obtain ⟨hfs, hw⟩ := hw
  refine j_goz hI (va_runV (As := [.int x1]) (rest := []) ⟨hx, hb, hml, hown, hts⟩ (kX9_accountAt l hfl D z b x1 μ H.size _) (cwV 1 hts gX9_poolInterest_X9_accountAt rfl rfl rfl (by decide +kernel) ⟨Nat.le_of_ble_eq_true rfl, Nat.le_of_ble_eq_true rfl⟩) (j_prV2z hK hG hI hw (ci := 11) rfl hfs) rfl rfl hl.1 rfl (lv_room (Nat.le_of_ble_eq_true rfl)) dX9_poolInterest_2 ⟨by show _ ≤ 0; omega, by show _ ≤ 0; omega⟩) (fun v1 μ2 H locs hw hI => ?_)
  refine W.eq (g2 := F0 m 5 ls [va_rf v1]) rfl ?_
  refine j_astore_n (r := v1) (lv' := [(2, va_rf v1), (0, va_rf (some b)), (1, .int x1)]) hx hb dX9_poolInterest_5 rfl hl (by decide) rfl (fun ls hl => ?_)
  refine j_aload_n (r := v1) hx hb dX9_poolInterest_6 rfl (lv_at hl 0 rfl) ?_
  refine j_goz hI (va_runS (As := [va_rf v1]) (rest := []) ⟨hx, hb, hml, hown, hts⟩ (kX9_requireTop l hfl D z v1 μ2 H.size _) (va_cwS 1 hts gX9_poolInterest_X9_requireTop rfl rfl rfl (by decide +kernel) ⟨Nat.le_of_ble_eq_true rfl, Nat.le_of_ble_eq_true rfl⟩) (j_prS2z hK hG hI hw) rfl rfl hl.1 rfl (lv_room (Nat.le_of_ble_eq_true rfl)) dX9_poolInterest_7 ⟨by show _ ≤ 0; omega, by show _ ≤ 0; omega⟩) (fun u3 μ4 H locs hw hI => ?_)
  refine W.eq (g2 := F0 m 10 ls []) rfl ?_
  refine j_aload_n (r := v1) hx hb dX9_poolInterest_10 rfl (lv_at hl 0 rfl) ?_
  obtain ⟨v5, hv5, hw⟩ := hw
  refine j_getz (C := RX0) (T := TX0) (N := 12) (ci := 3) (r := v1) (v := va_rf v5) hx hb hfX0 hown hK hI rfl 2 (by decide) (hts (.fieldLink RX9 151 "CashPools$Account" "pool" "LCashPools$Pool;") (List.mem_of_getElem? (i := 1) (by decide +kernel))) (fun _ h => h) hv5 dX9_poolInterest_11 ?_
  obtain ⟨v6, hv6, hw⟩ := hw
  refine j_getz (C := RX6) (T := TX6) (N := 5) (ci := 9) (r := v5) (v := va_rf v6) hx hb hfX6 hown hK hI rfl 1 (by decide) (hts (.fieldLink RX9 187 "CashPools$Pool" "credit" "LCashPools$Side;") (List.mem_of_getElem? (i := 2) (by decide +kernel))) (fun _ h => h) hv6 dX9_poolInterest_14 ?_
  obtain ⟨v7, hv7, hw⟩ := hw
  refine j_getz (C := RX7) (T := TX7) (N := 10) (ci := 10) (r := v6) (v := .long v7) hx hb hfX7 hown hK hI rfl 3 (by decide) (hts (.fieldLink RX9 191 "CashPools$Side" "booked" "J") (List.mem_of_getElem? (i := 3) (by decide +kernel))) (fun _ h => h) hv7 dX9_poolInterest_17 ?_
  refine j_aload_n (r := v1) hx hb dX9_poolInterest_20 rfl (lv_at hl 0 rfl) ?_
  obtain ⟨v8, hv8, hw⟩ := hw
  refine j_getz (C := RX0) (T := TX0) (N := 12) (ci := 3) (r := v1) (v := va_rf v8) hx hb hfX0 hown hK hI rfl 2 (by decide) (hts (.fieldLink RX9 151 "CashPools$Account" "pool" "LCashPools$Pool;") (List.mem_of_getElem? (i := 1) (by decide +kernel))) (fun _ h => h) hv8 dX9_poolInterest_21 ?_
  obtain ⟨v9, hv9, hw⟩ := hw
  refine j_getz (C := RX6) (T := TX6) (N := 5) (ci := 9) (r := v8) (v := va_rf v9) hx hb hfX6 hown hK hI rfl 2 (by decide) (hts (.fieldLink RX9 196 "CashPools$Pool" "debit" "LCashPools$Side;") (List.mem_of_getElem? (i := 4) (by decide +kernel))) (fun _ h => h) hv9 dX9_poolInterest_24 ?_
  obtain ⟨v10, hv10, hw⟩ := hw
  refine j_getz (C := RX7) (T := TX7) (N := 10) (ci := 10) (r := v9) (v := .long v10) hx hb hfX7 hown hK hI rfl 3 (by decide) (hts (.fieldLink RX9 191 "CashPools$Side" "booked" "J") (List.mem_of_getElem? (i := 3) (by decide +kernel))) (fun _ h => h) hv10 dX9_poolInterest_27 ?_
  refine lv_lsub hx hb dX9_poolInterest_30 ?_
  exact j_lretz hx hb hr hlocks hI hw (by omega) (by omega) dX9_poolInterest_31
set_option maxHeartbeats 4000000 in
set_option maxRecDepth 100000 in
theorem kX9_poolInterest (l : Launch) (hfl : l.stackTraces = false) (D : jD) (z : Nat × Nat) (b : Nat) (x1 : Int32) (μ : jM) (sz : Nat) (Q : Int64 → jM → Prop) : Met l yX9_poolInterest wsX9_poolInterest rmX9_poolInterest (jPre2z D z μ sz [.ref b, .int x1] (wX9_poolInterest z b x1 μ Q jN)) (jRz jfJ Q D z (jA z μ sz)) 0 0 (jA z μ sz) := by
  refine Met.ofW (cc := cX9_poolInterest) (maxL := 3) (ret := (some .long)) (by decide) rfl ?_
  intro p e s m args below meth c s₁ B hml hv
  obtain ⟨rfl, hsz, hH, hz0, hK, hG, hw⟩ := hv
  subst hsz
  have hX : jX2 D z (jA z μ s.heap.size) p l s m _ meth c yX9_poolInterest cX9_poolInterest 3 wsX9_poolInterest (some .long) := ⟨B.exec, B.bytes, hml, findClass_of_methodNamed B.named, atoms_spec (ws := wsX9_poolInterest) B.pre, B.returns, B.notSynchronized, (name_of_methodNamed B.named B.method).1, hK, hG, hfl⟩
  obtain ⟨ls, hg, hl⟩ : ∃ ls : Array Slot, entryFrame m ([.ref b, .int x1] : List Value).toArray 3 = F0 m 0 ls [] ∧ lv_has ls 3 [(0, va_rf (some b)), (1, .int x1)] := by
    exact ⟨_, lg_entry_eq .., lv_entry _ (n := 3) (Nat.le_of_ble_eq_true rfl)⟩
  rw [hg]
  exact kX9_poolInterest_0 hX hw (jIz.start hH hz0) (lv_sub hl [0, 1] rfl) (by decide) (by decide)
set_option maxHeartbeats 4000000 in
set_option maxRecDepth 100000 in
theorem kX9_lineAt_0 {b : Nat} (hX : jX2 D z A p l s m args meth c yX9_lineAt cX9_lineAt 2 wsX9_lineAt (some (.object "CashPools$Line"))) {Q : Option Nat → jM → Prop}  {x1 : Int32} {μ : jM} {H : Heap} {locs : List Loc} {ls : Array Slot} {cells slots : Nat} (hw : wX9_lineAt_0 z b Q jN x1 μ) (hI : jIz D z A s.heap μ H locs) (hl : lv_has ls 2 [(0, va_rf (some b)), (1, .int x1)]) (hcn : cells + 0 ≤ 0) (hsn : slots + 0 ≤ 0) : W p l e rmX9_lineAt s m args below meth c H locs cells slots (MQ below (jRz jfR Q D z A) args s 0 0 A) (F0 m 0 ls []) := by
  unfold wX9_lineAt_0 at hw
  obtain ⟨hx, hb, hml, hown, hts, hr, hlocks, hnm, hK, hG, hfl⟩ := id hX
  have hown : s.vm.findClass RX9 = some m.cls := hown
  have hfX3 : ∀ w ∈ wsX30, w.before args s = true := fun w h => hts w (List.mem_cons_of_mem _ (List.mem_append_left _ (List.mem_append_left _ (List.mem_append_right _ h))))
  have hfX9 : ∀ w ∈ wsX90, w.before args s = true := fun w h => hts w (List.mem_cons_of_mem _ (List.mem_append_left _ (List.mem_append_left _ (List.mem_append_left _ (List.mem_append_right _ h)))))
  refine lv_iload_n hx hb dX9_lineAt_0 rfl (lv_at hl 1 rfl) ?_
  refine lv_if_lt (tgt := 18) hx hb dX9_lineAt_1 (by decide) (fun hc => ?_) (fun hc => ?_)
  · have hw := hw.1 hc
    exact (show False from hw).elim
  · have hw := hw.2 hc
    refine lv_iload_n hx hb dX9_lineAt_4 rfl (lv_at hl 1 rfl) ?_
    refine j_aload_n (r := (some b)) hx hb dX9_lineAt_5 rfl (lv_at hl 0 rfl) ?_
    obtain ⟨v1, hv1, hw⟩ := hw
    refine j_getz (C := RX9) (T := TX9) (N := 1) (ci := 11) (r := (some b)) (v := va_rf v1) hx hb hfX9 hown hK hI rfl 0 (by decide) (hts (.fieldLink RX9 10 "CashPools" "desk" "LCashPools$Desk;") (List.mem_of_getElem? (i := 3) (by decide +kernel))) (fun _ h => h) hv1 dX9_lineAt_6 ?_
    obtain ⟨v2, hv2, hw⟩ := hw
    refine j_getz (C := RX3) (T := TX3) (N := 8) (ci := 6) (r := v1) (v := va_rf v2) hx hb hfX3 hown hK hI rfl 2 (by decide) (hts (.fieldLink RX9 69 "CashPools$Desk" "everyLine" "Ljava/util/ArrayList;") (List.mem_of_getElem? (i := 4) (by decide +kernel))) (fun _ h => h) hv2 dX9_lineAt_9 ?_
    obtain ⟨b5, ⟨hrb5, hfs⟩, hw⟩ := hw
    refine j_goz hI (va_runV (As := []) (rest := [.int x1]) ⟨hx, hb, hml, hown, hts⟩ (kJx4a65c_size_8abf5 l hfl D z b5  μ H.size _) (cwV 0 hts gX9_lineAt_Jx4a65c_size_8abf5 rfl rfl rfl (by decide +kernel) ⟨Nat.le_of_ble_eq_true rfl, Nat.le_of_ble_eq_true rfl⟩) (j_prV2z hK hG hI hw (ci := 2) rfl hfs) rfl rfl hl.1 (by rw [hrb5]; rfl) (lv_room (Nat.le_of_ble_eq_true rfl)) dX9_lineAt_12 ⟨by show _ ≤ 0; omega, by show _ ≤ 0; omega⟩) (fun v3 μ4 H locs hw hI => ?_)
    refine W.eq (g2 := F0 m 15 ls [.int v3, .int x1]) rfl ?_
    refine lv_icmp_lt (tgt := 28) hx hb dX9_lineAt_15 (by decide) (fun hc => ?_) (fun hc => ?_)
    · have hw := hw.1 hc
      refine j_aload_n (r := (some b)) hx hb dX9_lineAt_28 rfl (lv_at hl 0 rfl) ?_
      obtain ⟨v6, hv6, hw⟩ := hw
      refine j_getz (C := RX9) (T := TX9) (N := 1) (ci := 11) (r := (some b)) (v := va_rf v6) hx hb hfX9 hown hK hI rfl 0 (by decide) (hts (.fieldLink RX9 10 "CashPools" "desk" "LCashPools$Desk;") (List.mem_of_getElem? (i := 3) (by decide +kernel))) (fun _ h => h) hv6 dX9_lineAt_29 ?_
      obtain ⟨v7, hv7, hw⟩ := hw
      refine j_getz (C := RX3) (T := TX3) (N := 8) (ci := 6) (r := v6) (v := va_rf v7) hx hb hfX3 hown hK hI rfl 2 (by decide) (hts (.fieldLink RX9 69 "CashPools$Desk" "everyLine" "Ljava/util/ArrayList;") (List.mem_of_getElem? (i := 4) (by decide +kernel))) (fun _ h => h) hv7 dX9_lineAt_32 ?_
      refine lv_iload_n hx hb dX9_lineAt_35 rfl (lv_at hl 1 rfl) ?_
      obtain ⟨b10, ⟨hrb10, hfs⟩, hw⟩ := hw
      refine j_goz hI (va_runV (As := [.int x1]) (rest := []) ⟨hx, hb, hml, hown, hts⟩ (kJx4a65c_get_915e3 l hfl D z b10 x1 μ4 H.size _) (cwV 1 hts gX9_lineAt_Jx4a65c_get_915e3 rfl rfl rfl (by decide +kernel) ⟨Nat.le_of_ble_eq_true rfl, Nat.le_of_ble_eq_true rfl⟩) (j_prV2z hK hG hI hw (ci := 2) rfl hfs) rfl rfl hl.1 (by rw [hrb10]; rfl) (lv_room (Nat.le_of_ble_eq_true rfl)) dX9_lineAt_36 ⟨by show _ ≤ 0; omega, by show _ ≤ 0; omega⟩) (fun v8 μ9 H locs hw hI => ?_)
      refine W.eq (g2 := F0 m 39 ls [va_rf v8]) rfl ?_
      obtain ⟨h11, hw⟩ := hw
      refine j_castz (C := RX5) (T := TX5) (N := 9) (ci := 8) (r := v8) hx hb hown (hts (.classLink RX9 177 "CashPools$Line") (List.mem_of_getElem? (i := 5) (by decide +kernel))) hK hI rfl h11 dX9_lineAt_39 ?_
      exact j_aretz (v := v8) hx hb hr (Or.inl ⟨_, rfl⟩) hlocks hI hw (by omega) (by omega) dX9_lineAt_42
    · have hw := hw.2 hc
      exact (show False from hw).elim
set_option maxHeartbeats 4000000 in
set_option maxRecDepth 100000 in
theorem kX9_lineAt (l : Launch) (hfl : l.stackTraces = false) (D : jD) (z : Nat × Nat) (b : Nat) (x1 : Int32) (μ : jM) (sz : Nat) (Q : Option Nat → jM → Prop) : Met l yX9_lineAt wsX9_lineAt rmX9_lineAt (jPre2z D z μ sz [.ref b, .int x1] (wX9_lineAt z b x1 μ Q jN)) (jRz jfR Q D z (jA z μ sz)) 0 0 (jA z μ sz) := by
  refine Met.ofW (cc := cX9_lineAt) (maxL := 2) (ret := (some (.object "CashPools$Line"))) (by decide) rfl ?_
  intro p e s m args below meth c s₁ B hml hv
  obtain ⟨rfl, hsz, hH, hz0, hK, hG, hw⟩ := hv
  subst hsz
  have hX : jX2 D z (jA z μ s.heap.size) p l s m _ meth c yX9_lineAt cX9_lineAt 2 wsX9_lineAt (some (.object "CashPools$Line")) := ⟨B.exec, B.bytes, hml, findClass_of_methodNamed B.named, atoms_spec (ws := wsX9_lineAt) B.pre, B.returns, B.notSynchronized, (name_of_methodNamed B.named B.method).1, hK, hG, hfl⟩
  obtain ⟨ls, hg, hl⟩ : ∃ ls : Array Slot, entryFrame m ([.ref b, .int x1] : List Value).toArray 2 = F0 m 0 ls [] ∧ lv_has ls 2 [(0, va_rf (some b)), (1, .int x1)] := by
    exact ⟨_, lg_entry_eq .., lv_entry _ (n := 2) (Nat.le_of_ble_eq_true rfl)⟩
  rw [hg]
  exact kX9_lineAt_0 hX hw (jIz.start hH hz0) (lv_sub hl [0, 1] rfl) (by decide) (by decide)
set_option maxHeartbeats 4000000 in
set_option maxRecDepth 100000 in
theorem kX9_costOf_0 {b : Nat} (hX : jX2 D z A p l s m args meth c yX9_costOf cX9_costOf 2 wsX9_costOf (some .long)) {Q : Int64 → jM → Prop}  {x1 : Int32} {μ : jM} {H : Heap} {locs : List Loc} {ls : Array Slot} {cells slots : Nat} (hw : wX9_costOf_0 z b Q jN x1 μ) (hI : jIz D z A s.heap μ H locs) (hl : lv_has ls 2 [(0, va_rf (some b)), (1, .int x1)]) (hcn : cells + 0 ≤ 0) (hsn : slots + 0 ≤ 0) : W p l e rmX9_costOf s m args below meth c H locs cells slots (MQ below (jRz jfJ Q D z A) args s 0 0 A) (F0 m 0 ls []) := by
  unfold wX9_costOf_0 at hw
  obtain ⟨hx, hb, hml, hown, hts, hr, hlocks, hnm, hK, hG, hfl⟩ := id hX
  have hown : s.vm.findClass RX9 = some m.cls := hown
  have hfX5 : ∀ w ∈ wsX50, w.before args s = true := fun w h => hts w (List.mem_cons_of_mem _ (List.mem_append_left _ (List.mem_append_left _ (List.mem_append_left _ (List.mem_append_left _ (List.mem_append_right _ h))))))
  refine j_aload_n (r := (some b)) hx hb dX9_costOf_0 rfl (lv_at hl 0 rfl) ?_
  refine lv_iload_n hx hb dX9_costOf_1 rfl (lv_at hl 1 rfl) ?_
  obtain ⟨hfs, hw⟩ := hw
  refine j_goz hI (va_runV (As := [.int x1]) (rest := []) ⟨hx, hb, hml, hown, hts⟩ (kX9_lineAt l hfl D z b x1 μ H.size _) (cwV 1 hts gX9_costOf_X9_lineAt rfl rfl rfl (by decide +kernel) ⟨Nat.le_of_ble_eq_true rfl, Nat.le_of_ble_eq_true rfl⟩) (j_prV2z hK hG hI hw (ci := 11) rfl hfs) rfl rfl hl.1 rfl (lv_room (Nat.le_of_ble_eq_true rfl)) dX9_costOf_2 ⟨by show _ ≤ 0; omega, by show _ ≤ 0; omega⟩) (fun v1 μ2 H locs hw hI => ?_)
  refine W.eq (g2 := F0 m 5 ls [va_rf v1]) rfl ?_
  obtain ⟨v3, hv3, hw⟩ := hw
  refine j_getz (C := RX5) (T := TX5) (N := 9) (ci := 8) (r := v1) (v := .long v3) hx hb hfX5 hown hK hI rfl 4 (by decide) (hts (.fieldLink RX9 181 "CashPools$Line" "cost" "J") (List.mem_of_getElem? (i := 1) (by decide +kernel))) (fun _ h => h) hv3 dX9_costOf_5 ?_
  exact j_lretz hx hb hr hlocks hI hw (by omega) (by omega) dX9_costOf_8
set_option maxHeartbeats 4000000 in
set_option maxRecDepth 100000 in
theorem kX9_costOf (l : Launch) (hfl : l.stackTraces = false) (D : jD) (z : Nat × Nat) (b : Nat) (x1 : Int32) (μ : jM) (sz : Nat) (Q : Int64 → jM → Prop) : Met l yX9_costOf wsX9_costOf rmX9_costOf (jPre2z D z μ sz [.ref b, .int x1] (wX9_costOf z b x1 μ Q jN)) (jRz jfJ Q D z (jA z μ sz)) 0 0 (jA z μ sz) := by
  refine Met.ofW (cc := cX9_costOf) (maxL := 2) (ret := (some .long)) (by decide) rfl ?_
  intro p e s m args below meth c s₁ B hml hv
  obtain ⟨rfl, hsz, hH, hz0, hK, hG, hw⟩ := hv
  subst hsz
  have hX : jX2 D z (jA z μ s.heap.size) p l s m _ meth c yX9_costOf cX9_costOf 2 wsX9_costOf (some .long) := ⟨B.exec, B.bytes, hml, findClass_of_methodNamed B.named, atoms_spec (ws := wsX9_costOf) B.pre, B.returns, B.notSynchronized, (name_of_methodNamed B.named B.method).1, hK, hG, hfl⟩
  obtain ⟨ls, hg, hl⟩ : ∃ ls : Array Slot, entryFrame m ([.ref b, .int x1] : List Value).toArray 2 = F0 m 0 ls [] ∧ lv_has ls 2 [(0, va_rf (some b)), (1, .int x1)] := by
    exact ⟨_, lg_entry_eq .., lv_entry _ (n := 2) (Nat.le_of_ble_eq_true rfl)⟩
  rw [hg]
  exact kX9_costOf_0 hX hw (jIz.start hH hz0) (lv_sub hl [0, 1] rfl) (by decide) (by decide)
set_option maxHeartbeats 4000000 in
set_option maxRecDepth 100000 in
theorem kX9_drawn_0 {b : Nat} (hX : jX2 D z A p l s m args meth c yX9_drawn cX9_drawn 2 wsX9_drawn (some .int)) {Q : Int32 → jM → Prop}  {x1 : Int32} {μ : jM} {H : Heap} {locs : List Loc} {ls : Array Slot} {cells slots : Nat} (hw : wX9_drawn_0 z b Q jN x1 μ) (hI : jIz D z A s.heap μ H locs) (hl : lv_has ls 2 [(0, va_rf (some b)), (1, .int x1)]) (hcn : cells + 0 ≤ 0) (hsn : slots + 0 ≤ 0) : W p l e rmX9_drawn s m args below meth c H locs cells slots (MQ below (jRz jfI Q D z A) args s 0 0 A) (F0 m 0 ls []) := by
  unfold wX9_drawn_0 at hw
  obtain ⟨hx, hb, hml, hown, hts, hr, hlocks, hnm, hK, hG, hfl⟩ := id hX
  have hown : s.vm.findClass RX9 = some m.cls := hown
  have hfX5 : ∀ w ∈ wsX50, w.before args s = true := fun w h => hts w (List.mem_cons_of_mem _ (List.mem_append_left _ (List.mem_append_left _ (List.mem_append_left _ (List.mem_append_left _ (List.mem_append_right _ h))))))
  refine j_aload_n (r := (some b)) hx hb dX9_drawn_0 rfl (lv_at hl 0 rfl) ?_
  refine lv_iload_n hx hb dX9_drawn_1 rfl (lv_at hl 1 rfl) ?_
  obtain ⟨hfs, hw⟩ := hw
  refine j_goz hI (va_runV (As := [.int x1]) (rest := []) ⟨hx, hb, hml, hown, hts⟩ (kX9_lineAt l hfl D z b x1 μ H.size _) (cwV 1 hts gX9_drawn_X9_lineAt rfl rfl rfl (by decide +kernel) ⟨Nat.le_of_ble_eq_true rfl, Nat.le_of_ble_eq_true rfl⟩) (j_prV2z hK hG hI hw (ci := 11) rfl hfs) rfl rfl hl.1 rfl (lv_room (Nat.le_of_ble_eq_true rfl)) dX9_drawn_2 ⟨by show _ ≤ 0; omega, by show _ ≤ 0; omega⟩) (fun v1 μ2 H locs hw hI => ?_)
  refine W.eq (g2 := F0 m 5 ls [va_rf v1]) rfl ?_
  obtain ⟨v3, hv3, hw⟩ := hw
  refine j_getz (C := RX5) (T := TX5) (N := 9) (ci := 8) (r := v1) (v := .long v3) hx hb hfX5 hown hK hI rfl 3 (by decide) (hts (.fieldLink RX9 176 "CashPools$Line" "used" "J") (List.mem_of_getElem? (i := 1) (by decide +kernel))) (fun _ h => h) hv3 dX9_drawn_5 ?_
  refine lv_l2i hx hb dX9_drawn_8 rfl ?_
  exact j_iretz hx hb hr hlocks hI hw (by omega) (by omega) dX9_drawn_9
set_option maxHeartbeats 4000000 in
set_option maxRecDepth 100000 in
theorem kX9_drawn (l : Launch) (hfl : l.stackTraces = false) (D : jD) (z : Nat × Nat) (b : Nat) (x1 : Int32) (μ : jM) (sz : Nat) (Q : Int32 → jM → Prop) : Met l yX9_drawn wsX9_drawn rmX9_drawn (jPre2z D z μ sz [.ref b, .int x1] (wX9_drawn z b x1 μ Q jN)) (jRz jfI Q D z (jA z μ sz)) 0 0 (jA z μ sz) := by
  refine Met.ofW (cc := cX9_drawn) (maxL := 2) (ret := (some .int)) (by decide) rfl ?_
  intro p e s m args below meth c s₁ B hml hv
  obtain ⟨rfl, hsz, hH, hz0, hK, hG, hw⟩ := hv
  subst hsz
  have hX : jX2 D z (jA z μ s.heap.size) p l s m _ meth c yX9_drawn cX9_drawn 2 wsX9_drawn (some .int) := ⟨B.exec, B.bytes, hml, findClass_of_methodNamed B.named, atoms_spec (ws := wsX9_drawn) B.pre, B.returns, B.notSynchronized, (name_of_methodNamed B.named B.method).1, hK, hG, hfl⟩
  obtain ⟨ls, hg, hl⟩ : ∃ ls : Array Slot, entryFrame m ([.ref b, .int x1] : List Value).toArray 2 = F0 m 0 ls [] ∧ lv_has ls 2 [(0, va_rf (some b)), (1, .int x1)] := by
    exact ⟨_, lg_entry_eq .., lv_entry _ (n := 2) (Nat.le_of_ble_eq_true rfl)⟩
  rw [hg]
  exact kX9_drawn_0 hX hw (jIz.start hH hz0) (lv_sub hl [0, 1] rfl) (by decide) (by decide)
set_option maxHeartbeats 4000000 in
set_option maxRecDepth 100000 in
theorem kX9_exposure_0 {b : Nat} (hX : jX2 D z A p l s m args meth c yX9_exposure cX9_exposure 3 wsX9_exposure (some .long)) {Q : Int64 → jM → Prop}  {x1 : Int32} {μ : jM} {H : Heap} {locs : List Loc} {ls : Array Slot} {cells slots : Nat} (hw : wX9_exposure_0 z b Q jN x1 μ) (hI : jIz D z A s.heap μ H locs) (hl : lv_has ls 3 [(0, va_rf (some b)), (1, .int x1)]) (hcn : cells + 0 ≤ 0) (hsn : slots + 0 ≤ 0) : W p l e rmX9_exposure s m args below meth c H locs cells slots (MQ below (jRz jfJ Q D z A) args s 0 0 A) (F0 m 0 ls []) := by
  unfold wX9_exposure_0 at hw
  obtain ⟨hx, hb, hml, hown, hts, hr, hlocks, hnm, hK, hG, hfl⟩ := id hX
  have hown : s.vm.findClass RX9 = some m.cls := hown
  have hfX1 : ∀ w ∈ wsX10, w.before args s = true := fun w h => hts w (List.mem_cons_of_mem _ (List.mem_append_left _ (List.mem_append_left _ (List.mem_append_left _ (List.mem_append_left _ (List.mem_append_right _ h))))))
  have hfX9 : ∀ w ∈ wsX90, w.before args s = true := fun w h => hts w (List.mem_cons_of_mem _ (List.mem_append_left _ (List.mem_append_left _ (List.mem_append_left _ (List.mem_append_left _ (List.mem_append_left _ (List.mem_append_right _ h)))))))
  refine j_aload_n (r := (some b)) hx hb dX9_exposure_0 rfl (lv_at hl 0 rfl) ?_
  refine lv_iload_n hx hb dX9_exposure_1 rfl (lv_at hl 1 rfl) ?_
  obtain ⟨hfs, hw⟩ := hw
  refine j_goz hI (va_runV (As := [.int x1]) (rest := []) ⟨hx, hb, hml, hown, hts⟩ (kX9_bankAt l hfl D z b x1 μ H.size _) (cwV 1 hts gX9_exposure_X9_bankAt rfl rfl rfl (by decide +kernel) ⟨Nat.le_of_ble_eq_true rfl, Nat.le_of_ble_eq_true rfl⟩) (j_prV2z hK hG hI hw (ci := 11) rfl hfs) rfl rfl hl.1 rfl (lv_room (Nat.le_of_ble_eq_true rfl)) dX9_exposure_2 ⟨by show _ ≤ 0; omega, by show _ ≤ 0; omega⟩) (fun v1 μ2 H locs hw hI => ?_)
  refine W.eq (g2 := F0 m 5 ls [va_rf v1]) rfl ?_
  refine j_astore_n (r := v1) (lv' := [(2, va_rf v1), (0, va_rf (some b)), (1, .int x1)]) hx hb dX9_exposure_5 rfl hl (by decide) rfl (fun ls hl => ?_)
  refine j_aload_n (r := (some b)) hx hb dX9_exposure_6 rfl (lv_at hl 1 rfl) ?_
  obtain ⟨v3, hv3, hw⟩ := hw
  refine j_getz (C := RX9) (T := TX9) (N := 1) (ci := 11) (r := (some b)) (v := va_rf v3) hx hb hfX9 hown hK hI rfl 0 (by decide) (hts (.fieldLink RX9 10 "CashPools" "desk" "LCashPools$Desk;") (List.mem_of_getElem? (i := 1) (by decide +kernel))) (fun _ h => h) hv3 dX9_exposure_7 ?_
  obtain ⟨b6, ⟨hrb6, hfs⟩, hw⟩ := hw
  refine j_goz hI (va_runV (As := []) (rest := []) ⟨hx, hb, hml, hown, hts⟩ (kX3_measureBanks l hfl D z b6  μ2 H.size _) (cwV 0 hts gX9_exposure_X3_measureBanks rfl rfl rfl (by decide +kernel) ⟨Nat.le_of_ble_eq_true rfl, Nat.le_of_ble_eq_true rfl⟩) (j_prV2z hK hG hI hw (ci := 6) rfl hfs) rfl rfl hl.1 (by rw [hrb6]; rfl) (lv_room (Nat.le_of_ble_eq_true rfl)) dX9_exposure_10 ⟨by show _ ≤ 0; omega, by show _ ≤ 0; omega⟩) (fun u4 μ5 H locs hw hI => ?_)
  refine W.eq (g2 := F0 m 13 ls []) rfl ?_
  refine j_aload_n (r := v1) hx hb dX9_exposure_13 rfl (lv_at hl 0 rfl) ?_
  obtain ⟨v7, hv7, hw⟩ := hw
  refine j_getz (C := RX1) (T := TX1) (N := 3) (ci := 4) (r := v1) (v := .long v7) hx hb hfX1 hown hK hI rfl 2 (by decide) (hts (.fieldLink RX9 169 "CashPools$Bank" "exposed" "J") (List.mem_of_getElem? (i := 2) (by decide +kernel))) (fun _ h => h) hv7 dX9_exposure_14 ?_
  exact j_lretz hx hb hr hlocks hI hw (by omega) (by omega) dX9_exposure_17
set_option maxHeartbeats 4000000 in
set_option maxRecDepth 100000 in
theorem kX9_exposure (l : Launch) (hfl : l.stackTraces = false) (D : jD) (z : Nat × Nat) (b : Nat) (x1 : Int32) (μ : jM) (sz : Nat) (Q : Int64 → jM → Prop) : Met l yX9_exposure wsX9_exposure rmX9_exposure (jPre2z D z μ sz [.ref b, .int x1] (wX9_exposure z b x1 μ Q jN)) (jRz jfJ Q D z (jA z μ sz)) 0 0 (jA z μ sz) := by
  refine Met.ofW (cc := cX9_exposure) (maxL := 3) (ret := (some .long)) (by decide) rfl ?_
  intro p e s m args below meth c s₁ B hml hv
  obtain ⟨rfl, hsz, hH, hz0, hK, hG, hw⟩ := hv
  subst hsz
  have hX : jX2 D z (jA z μ s.heap.size) p l s m _ meth c yX9_exposure cX9_exposure 3 wsX9_exposure (some .long) := ⟨B.exec, B.bytes, hml, findClass_of_methodNamed B.named, atoms_spec (ws := wsX9_exposure) B.pre, B.returns, B.notSynchronized, (name_of_methodNamed B.named B.method).1, hK, hG, hfl⟩
  obtain ⟨ls, hg, hl⟩ : ∃ ls : Array Slot, entryFrame m ([.ref b, .int x1] : List Value).toArray 3 = F0 m 0 ls [] ∧ lv_has ls 3 [(0, va_rf (some b)), (1, .int x1)] := by
    exact ⟨_, lg_entry_eq .., lv_entry _ (n := 3) (Nat.le_of_ble_eq_true rfl)⟩
  rw [hg]
  exact kX9_exposure_0 hX hw (jIz.start hH hz0) (lv_sub hl [0, 1] rfl) (by decide) (by decide)
end
