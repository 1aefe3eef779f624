section
variable {p : Program} {l : Launch} {e : Env} {s : State} {m : MethodId} {args : Array Value} {below : List Frame} {meth : Method} {c : Code} {D : jD} {z : Nat × Nat} {A : Nat → Prop}
set_option maxHeartbeats 4000000 in
set_option maxRecDepth 100000 in
theorem kL_passes_232 (hX : jX2 D z A p l s m args meth c yL_passes cL_passes 10 wsL_passes (some .boolean)) {Q : Int32 → jM → Prop} {K187 : Option Nat → Option Nat → Option Nat → Int32 → Int32 → Option Nat → Option Nat → Int32 → Int32 → jM → Prop} (hK187 : ∀ {x0 : Option Nat} {x1 : Option Nat} {x2 : Option Nat} {x3 : Int32} {x4 : Int32} {x5 : Option Nat} {x6 : Option Nat} {x7 : Int32} {x8 : Int32} {μ : jM} {H : Heap} {locs : List Loc} {ls : Array Slot} {cells slots : Nat}, K187 x0 x1 x2 x3 x4 x5 x6 x7 x8 μ → jIz D z A s.heap μ H locs → lv_has ls 10 [(0, va_rf x0), (1, va_rf x1), (2, va_rf x2), (3, .int x3), (4, .int x4), (5, va_rf x5), (6, va_rf x6), (7, .int x7), (8, .int x8)] → cells + 0 ≤ 2 → slots + 0 ≤ 20 → W p l e rmL_passes s m args below meth c H locs cells slots (MQ below (jRz jfI Q D z A) args s 2 20 A) (F0 m 187 ls [])) {x0 : Option Nat} {x1 : Option Nat} {x2 : Option Nat} {x3 : Int32} {x4 : Int32} {x5 : Option Nat} {x6 : Option Nat} {x7 : Int32} {x8 : Int32} {t0 : Option Nat} {t1 : Int32} {t2 : Int64} {t3 : Int64} {t4 : Int64} {μ : jM} {H : Heap} {locs : List Loc} {ls : Array Slot} {cells slots : Nat} (hw : wL_passes_232 z K187 Q x0 x1 x2 x3 x4 x5 x6 x7 x8 t0 t1 t2 t3 t4 μ) (hI : jIz D z A s.heap μ H locs) (hl : lv_has ls 10 [(0, va_rf x0), (1, va_rf x1), (2, va_rf x2), (3, .int x3), (4, .int x4), (5, va_rf x5), (6, va_rf x6), (7, .int x7), (8, .int x8)]) (hcn : cells + 0 ≤ 2) (hsn : slots + 0 ≤ 20) : W p l e rmL_passes s m args below meth c H locs cells slots (MQ below (jRz jfI Q D z A) args s 2 20 A) (F0 m 232 ls [.long t4, .long t3, .long t2, .int t1, va_rf t0]) := by
  unfold wL_passes_232 at hw
  obtain ⟨hx, hb, hml, hown, hts, hr, hlocks, hnm, hK, hG, hfl⟩ := id hX
  have hown : s.vm.findClass RL = some m.cls := hown
  refine lv_lsub hx hb dL_passes_232 ?_
  refine lv_lsub hx hb dL_passes_233 ?_
  obtain ⟨μ1, hμ1, hw⟩ := hw
  refine j_lastz (r := t0) hx hb hK hI hμ1 dL_passes_234 (fun H locs hI => ?_)
  refine lv_iload hx hb dL_passes_235 (lv_at hl 7 rfl) ?_
  refine lv_if_eq (tgt := 259) hx hb dL_passes_237 (by decide) (fun hc => ?_) (fun hc => ?_)
  · have hw := hw.1 hc
    refine lv_iconst (v := (0)) hx hb dL_passes_259 (by decide) ?_
    refine lv_topi (fun v2 ev2 => ?_)
    have hw := hw v2 ev2
    refine j_istoreA (r := x6) (F := fun w => [(0, va_rf x0), (1, va_rf x1), (2, va_rf x2), (3, .int x3), (4, .int x4), (5, va_rf x5), (6, w), (7, .int x7), (8, .int x8)]) (F2 := fun w => [(7, .int v2), (0, va_rf x0), (1, va_rf x1), (2, va_rf x2), (3, .int x3), (4, .int x4), (5, va_rf x5), (6, w), (8, .int x8)]) hx hb dL_passes_260 hl (by decide) (fun w hw => by rcases hw with rfl | ⟨_, rfl⟩ <;> rfl) (fun ls hl => ?_)
    obtain ⟨v3, ev3⟩ : ∃ y : Int32, y = x8 + (1 : Int32) := ⟨_, rfl⟩
    have hw := hw v3 ev3
    refine lv_iinc (v := v3) (lv' := [(8, .int v3), (7, .int v2), (0, va_rf x0), (1, va_rf x1), (2, va_rf x2), (3, .int x3), (4, .int x4), (5, va_rf x5), (6, va_rf x6)]) hx hb dL_passes_262 hl (k := 8) rfl (by rw [ev3]; rfl) (by decide) rfl (fun ls hl => ?_)
    refine lv_goto (tgt := 187) hx hb dL_passes_265 (by decide) ?_
    exact hK187 hw hI (lv_sub hl [2, 3, 4, 5, 6, 7, 8, 1, 0] rfl) (by omega) (by omega)
  · have hw := hw.2 hc
    refine j_aload_n (r := x0) hx hb dL_passes_240 rfl (lv_at hl 0 rfl) ?_
    refine lv_iload hx hb dL_passes_241 (lv_at hl 8 rfl) ?_
    obtain ⟨b6, ⟨hrb6, hfs⟩, hw⟩ := hw
    refine j_goz hI (va_runV (As := [.int x8]) (rest := []) ⟨hx, hb, hml, hown, hts⟩ (kX9_balance l hfl D z b6 x8 μ1 H.size _) (cwV 1 hts gL_passes_X9_balance rfl rfl rfl (by decide +kernel) ⟨Nat.le_of_ble_eq_true rfl, Nat.le_of_ble_eq_true rfl⟩) (j_prV2z hK hG hI hw (ci := 11) rfl hfs) rfl rfl hl.1 (by rw [hrb6]; rfl) (lv_room (Nat.le_of_ble_eq_true rfl)) dL_passes_243 ⟨by show _ ≤ 2; omega, by show _ ≤ 20; omega⟩) (fun v4 μ5 H locs hw hI => ?_)
    refine W.eq (g2 := F0 m 246 ls [.long v4]) rfl ?_
    refine j_aload (r := x6) hx hb dL_passes_246 (lv_at hl 6 rfl) ?_
    refine lv_iload hx hb dL_passes_248 (lv_at hl 8 rfl) ?_
    obtain ⟨v7, hv7, hw⟩ := hw
    refine j_laldz (r := x6) hx hb hK hI hv7 dL_passes_250 ?_
    refine j_lcmp_ne (tgt := 259) hx hb dL_passes_251 dL_passes_252 (by decide) (fun hc => ?_) (fun hc => ?_)
    · have hw := hw.1 hc
      refine lv_iconst (v := (0)) hx hb dL_passes_259 (by decide) ?_
      refine lv_topi (fun v8 ev8 => ?_)
      have hw := hw v8 ev8
      refine j_istoreA (r := x6) (F := fun w => [(0, va_rf x0), (1, va_rf x1), (2, va_rf x2), (3, .int x3), (4, .int x4), (5, va_rf x5), (6, w), (7, .int x7), (8, .int x8)]) (F2 := fun w => [(7, .int v8), (0, va_rf x0), (1, va_rf x1), (2, va_rf x2), (3, .int x3), (4, .int x4), (5, va_rf x5), (6, w), (8, .int x8)]) hx hb dL_passes_260 hl (by decide) (fun w hw => by rcases hw with rfl | ⟨_, rfl⟩ <;> rfl) (fun ls hl => ?_)
      obtain ⟨v9, ev9⟩ : ∃ y : Int32, y = x8 + (1 : Int32) := ⟨_, rfl⟩
      have hw := hw v9 ev9
      refine lv_iinc (v := v9) (lv' := [(8, .int v9), (7, .int v8), (0, va_rf x0), (1, va_rf x1), (2, va_rf x2), (3, .int x3), (4, .int x4), (5, va_rf x5), (6, va_rf x6)]) hx hb dL_passes_262 hl (k := 8) rfl (by rw [ev9]; rfl) (by decide) rfl (fun ls hl => ?_)
      refine lv_goto (tgt := 187) hx hb dL_passes_265 (by decide) ?_
      exact hK187 hw hI (lv_sub hl [2, 3, 4, 5, 6, 7, 8, 1, 0] rfl) (by omega) (by omega)
    · have hw := hw.2 hc
      refine lv_iconst (v := (1)) hx hb dL_passes_255 (by decide) ?_
      refine lv_goto (tgt := 260) hx hb dL_passes_256 (by decide) ?_
      refine lv_topi (fun v10 ev10 => ?_)
      have hw := hw v10 ev10
      refine j_istoreA (r := x6) (F := fun w => [(0, va_rf x0), (1, va_rf x1), (2, va_rf x2), (3, .int x3), (4, .int x4), (5, va_rf x5), (6, w), (7, .int x7), (8, .int x8)]) (F2 := fun w => [(7, .int v10), (0, va_rf x0), (1, va_rf x1), (2, va_rf x2), (3, .int x3), (4, .int x4), (5, va_rf x5), (6, w), (8, .int x8)]) hx hb dL_passes_260 hl (by decide) (fun w hw => by rcases hw with rfl | ⟨_, rfl⟩ <;> rfl) (fun ls hl => ?_)
      obtain ⟨v11, ev11⟩ : ∃ y : Int32, y = x8 + (1 : Int32) := ⟨_, rfl⟩
      have hw := hw v11 ev11
      refine lv_iinc (v := v11) (lv' := [(8, .int v11), (7, .int v10), (0, va_rf x0), (1, va_rf x1), (2, va_rf x2), (3, .int x3), (4, .int x4), (5, va_rf x5), (6, va_rf x6)]) hx hb dL_passes_262 hl (k := 8) rfl (by rw [ev11]; rfl) (by decide) rfl (fun ls hl => ?_)
      refine lv_goto (tgt := 187) hx hb dL_passes_265 (by decide) ?_
      exact hK187 hw hI (lv_sub hl [2, 3, 4, 5, 6, 7, 8, 1, 0] rfl) (by omega) (by omega)
set_option maxHeartbeats 4000000 in
set_option maxRecDepth 100000 in
theorem kL_passes_317 (hX : jX2 D z A p l s m args meth c yL_passes cL_passes 10 wsL_passes (some .boolean)) {Q : Int32 → jM → Prop}  (n : Nat) : ∀ {x0 : Option Nat} {x1 : Option Nat} {x2 : Option Nat} {x3 : Int32} {x4 : Int32} {x5 : Option Nat} {x7 : Int32} {x8 : Int32} {μ : jM} {H : Heap} {locs : List Loc} {ls : Array Slot} {cells slots : Nat}, wL_passes_317 z Q n x0 x1 x2 x3 x4 x5 x7 x8 μ → jIz D z A s.heap μ H locs → lv_has ls 10 [(0, va_rf x0), (1, va_rf x1), (2, va_rf x2), (3, .int x3), (4, .int x4), (5, va_rf x5), (7, .int x7), (8, .int x8)] → cells + 0 ≤ 2 → slots + 0 ≤ 20 → W p l e rmL_passes s m args below meth c H locs cells slots (MQ below (jRz jfI Q D z A) args s 2 20 A) (F0 m 317 ls []) := by
  induction n with
  | zero =>
    intros
    rename_i hw _ _ _ _
    exact (show False from hw).elim
  | succ n ih =>
    intro x0 x1 x2 x3 x4 x5 x7 x8 μ H locs ls cells slots hw hI hl hcn hsn
    have hw : wL_passes_317_b z Q (wL_passes_317 z Q n) x0 x1 x2 x3 x4 x5 x7 x8 μ := hw
    unfold wL_passes_317_b at hw
    obtain ⟨hx, hb, hml, hown, hts, hr, hlocks, hnm, hK, hG, hfl⟩ := id hX
    have hown : s.vm.findClass RL = some m.cls := hown
    refine lv_iload hx hb dL_passes_317 (lv_at hl 7 rfl) ?_
    refine j_aload_n (r := x1) hx hb dL_passes_319 rfl (lv_at hl 1 rfl) ?_
    refine lv_iconst (v := (0)) hx hb dL_passes_320 (by decide) ?_
    obtain ⟨v1, hv1, hw⟩ := hw
    refine j_ialdz (r := x1) hx hb hK hI hv1 dL_passes_321 ?_
    refine lv_icmp_ge (tgt := 353) hx hb dL_passes_322 (by decide) (fun hc => ?_) (fun hc => ?_)
    · have hw := hw.1 hc
      refine lv_iload hx hb dL_passes_353 (lv_at hl 6 rfl) ?_
      refine lv_if_eq (tgt := 385) hx hb dL_passes_355 (by decide) (fun hc => ?_) (fun hc => ?_)
      · have hw := hw.1 hc
        refine lv_iconst (v := (0)) hx hb dL_passes_385 (by decide) ?_
        exact j_zretz hx hb hr rfl hlocks hI hw (by omega) (by omega) dL_passes_386
      · have hw := hw.2 hc
        refine lv_iload_n hx hb dL_passes_358 rfl (lv_at hl 3 rfl) ?_
        refine lv_iconst (v := (1)) hx hb dL_passes_359 (by decide) ?_
        refine lv_iadd hx hb dL_passes_360 ?_
        refine lv_bipush (v := (20)) hx hb dL_passes_361 (by decide) ?_
        refine lv_irem hx hb dL_passes_363 (by decide) ?_
        refine lv_if_eq (tgt := 381) hx hb dL_passes_364 (by decide) (fun hc => ?_) (fun hc => ?_)
        · have hw := hw.1 hc
          refine lv_iconst (v := (1)) hx hb dL_passes_381 (by decide) ?_
          refine lv_goto (tgt := 386) hx hb dL_passes_382 (by decide) ?_
          exact j_zretz hx hb hr rfl hlocks hI hw (by omega) (by omega) dL_passes_386
        · have hw := hw.2 hc
          refine lv_iload hx hb dL_passes_367 (lv_at hl 4 rfl) ?_
          refine lv_if_eq (tgt := 381) hx hb dL_passes_369 (by decide) (fun hc => ?_) (fun hc => ?_)
          · have hw := hw.1 hc
            refine lv_iconst (v := (1)) hx hb dL_passes_381 (by decide) ?_
            refine lv_goto (tgt := 386) hx hb dL_passes_382 (by decide) ?_
            exact j_zretz hx hb hr rfl hlocks hI hw (by omega) (by omega) dL_passes_386
          · have hw := hw.2 hc
            refine j_aload_n (r := x0) hx hb dL_passes_372 rfl (lv_at hl 0 rfl) ?_
            refine j_aload_n (r := x1) hx hb dL_passes_373 rfl (lv_at hl 1 rfl) ?_
            refine j_aload_n (r := x2) hx hb dL_passes_374 rfl (lv_at hl 2 rfl) ?_
            refine j_goz hI (va_runS (As := [va_rf x0, va_rf x1, va_rf x2]) (rest := []) ⟨hx, hb, hml, hown, hts⟩ (kL_isSettled l hfl D z x0 x1 x2 μ H.size _) (va_cwS 3 hts gL_passes_L_isSettled rfl rfl rfl (by decide +kernel) ⟨Nat.le_of_ble_eq_true rfl, Nat.le_of_ble_eq_true rfl⟩) (j_prS2z hK hG hI hw) rfl rfl hl.1 rfl (lv_room (Nat.le_of_ble_eq_true rfl)) dL_passes_375 ⟨by show _ ≤ 2; omega, by show _ ≤ 20; omega⟩) (fun v2 μ3 H locs hw hI => ?_)
            refine W.eq (g2 := F0 m 378 ls [.int v2]) rfl ?_
            refine lv_if_eq (tgt := 385) hx hb dL_passes_378 (by decide) (fun hc => ?_) (fun hc => ?_)
            · have hw := hw.1 hc
              refine lv_iconst (v := (0)) hx hb dL_passes_385 (by decide) ?_
              exact j_zretz hx hb hr rfl hlocks hI hw (by omega) (by omega) dL_passes_386
            · have hw := hw.2 hc
              refine lv_iconst (v := (1)) hx hb dL_passes_381 (by decide) ?_
              refine lv_goto (tgt := 386) hx hb dL_passes_382 (by decide) ?_
              exact j_zretz hx hb hr rfl hlocks hI hw (by omega) (by omega) dL_passes_386
    · have hw := hw.2 hc
      refine lv_iload hx hb dL_passes_325 (lv_at hl 6 rfl) ?_
      refine lv_if_eq (tgt := 344) hx hb dL_passes_327 (by decide) (fun hc => ?_) (fun hc => ?_)
      · have hw := hw.1 hc
        refine lv_iconst (v := (0)) hx hb dL_passes_344 (by decide) ?_
        refine lv_topi (fun v4 ev4 => ?_)
        have hw := hw v4 ev4
        refine lv_istore (lv' := [(7, .int v4), (0, va_rf x0), (1, va_rf x1), (2, va_rf x2), (3, .int x3), (4, .int x4), (5, va_rf x5), (8, .int x8)]) hx hb dL_passes_345 hl (by decide) rfl (fun ls hl => ?_)
        obtain ⟨v5, ev5⟩ : ∃ y : Int32, y = x8 + (1 : Int32) := ⟨_, rfl⟩
        have hw := hw v5 ev5
        refine lv_iinc (v := v5) (lv' := [(8, .int v5), (7, .int v4), (0, va_rf x0), (1, va_rf x1), (2, va_rf x2), (3, .int x3), (4, .int x4), (5, va_rf x5)]) hx hb dL_passes_347 hl (k := 7) rfl (by rw [ev5]; rfl) (by decide) rfl (fun ls hl => ?_)
        refine lv_goto (tgt := 317) hx hb dL_passes_350 (by decide) ?_
        exact ih hw hI (lv_sub hl [2, 3, 4, 5, 6, 7, 1, 0] rfl) (by omega) (by omega)
      · have hw := hw.2 hc
        refine j_aload (r := x5) hx hb dL_passes_330 (lv_at hl 5 rfl) ?_
        refine lv_iload hx hb dL_passes_332 (lv_at hl 7 rfl) ?_
        obtain ⟨v6, hv6, hw⟩ := hw
        refine j_laldz (r := x5) hx hb hK hI hv6 dL_passes_334 ?_
        refine lv_lconst (v := (0)) hx hb dL_passes_335 (by decide) ?_
        refine j_lcmp_ne (tgt := 344) hx hb dL_passes_336 dL_passes_337 (by decide) (fun hc => ?_) (fun hc => ?_)
        · have hw := hw.1 hc
          refine lv_iconst (v := (0)) hx hb dL_passes_344 (by decide) ?_
          refine lv_topi (fun v7 ev7 => ?_)
          have hw := hw v7 ev7
          refine lv_istore (lv' := [(7, .int v7), (0, va_rf x0), (1, va_rf x1), (2, va_rf x2), (3, .int x3), (4, .int x4), (5, va_rf x5), (8, .int x8)]) hx hb dL_passes_345 hl (by decide) rfl (fun ls hl => ?_)
          obtain ⟨v8, ev8⟩ : ∃ y : Int32, y = x8 + (1 : Int32) := ⟨_, rfl⟩
          have hw := hw v8 ev8
          refine lv_iinc (v := v8) (lv' := [(8, .int v8), (7, .int v7), (0, va_rf x0), (1, va_rf x1), (2, va_rf x2), (3, .int x3), (4, .int x4), (5, va_rf x5)]) hx hb dL_passes_347 hl (k := 7) rfl (by rw [ev8]; rfl) (by decide) rfl (fun ls hl => ?_)
          refine lv_goto (tgt := 317) hx hb dL_passes_350 (by decide) ?_
          exact ih hw hI (lv_sub hl [2, 3, 4, 5, 6, 7, 1, 0] rfl) (by omega) (by omega)
        · have hw := hw.2 hc
          refine lv_iconst (v := (1)) hx hb dL_passes_340 (by decide) ?_
          refine lv_goto (tgt := 345) hx hb dL_passes_341 (by decide) ?_
          refine lv_topi (fun v9 ev9 => ?_)
          have hw := hw v9 ev9
          refine lv_istore (lv' := [(7, .int v9), (0, va_rf x0), (1, va_rf x1), (2, va_rf x2), (3, .int x3), (4, .int x4), (5, va_rf x5), (8, .int x8)]) hx hb dL_passes_345 hl (by decide) rfl (fun ls hl => ?_)
          obtain ⟨v10, ev10⟩ : ∃ y : Int32, y = x8 + (1 : Int32) := ⟨_, rfl⟩
          have hw := hw v10 ev10
          refine lv_iinc (v := v10) (lv' := [(8, .int v10), (7, .int v9), (0, va_rf x0), (1, va_rf x1), (2, va_rf x2), (3, .int x3), (4, .int x4), (5, va_rf x5)]) hx hb dL_passes_347 hl (k := 7) rfl (by rw [ev10]; rfl) (by decide) rfl (fun ls hl => ?_)
          refine lv_goto (tgt := 317) hx hb dL_passes_350 (by decide) ?_
          exact ih hw hI (lv_sub hl [2, 3, 4, 5, 6, 7, 1, 0] rfl) (by omega) (by omega)
set_option maxHeartbeats 4000000 in
set_option maxRecDepth 100000 in
theorem kL_passes_271 (hX : jX2 D z A p l s m args meth c yL_passes cL_passes 10 wsL_passes (some .boolean)) {Q : Int32 → jM → Prop}  (n : Nat) : ∀ {x0 : Option Nat} {x1 : Option Nat} {x2 : Option Nat} {x3 : Int32} {x4 : Int32} {x5 : Option Nat} {x7 : Int32} {x8 : Int32} {μ : jM} {H : Heap} {locs : List Loc} {ls : Array Slot} {cells slots : Nat}, wL_passes_271 z Q n x0 x1 x2 x3 x4 x5 x7 x8 μ → jIz D z A s.heap μ H locs → lv_has ls 10 [(0, va_rf x0), (1, va_rf x1), (2, va_rf x2), (3, .int x3), (4, .int x4), (5, va_rf x5), (7, .int x7), (8, .int x8)] → cells + 0 ≤ 2 → slots + 0 ≤ 20 → W p l e rmL_passes s m args below meth c H locs cells slots (MQ below (jRz jfI Q D z A) args s 2 20 A) (F0 m 271 ls []) := by
  induction n with
  | zero =>
    intros
    rename_i hw _ _ _ _
    exact (show False from hw).elim
  | succ n ih =>
    intro x0 x1 x2 x3 x4 x5 x7 x8 μ H locs ls cells slots hw hI hl hcn hsn
    have hw : wL_passes_271_b z Q (wL_passes_271 z Q n) x0 x1 x2 x3 x4 x5 x7 x8 μ := hw
    unfold wL_passes_271_b at hw
    obtain ⟨hx, hb, hml, hown, hts, hr, hlocks, hnm, hK, hG, hfl⟩ := id hX
    have hown : s.vm.findClass RL = some m.cls := hown
    refine lv_iload hx hb dL_passes_271 (lv_at hl 7 rfl) ?_
    refine j_aload_n (r := x1) hx hb dL_passes_273 rfl (lv_at hl 1 rfl) ?_
    refine lv_iconst (v := (1)) hx hb dL_passes_274 (by decide) ?_
    obtain ⟨v1, hv1, hw⟩ := hw
    refine j_ialdz (r := x1) hx hb hK hI hv1 dL_passes_275 ?_
    refine lv_icmp_ge (tgt := 314) hx hb dL_passes_276 (by decide) (fun hc => ?_) (fun hc => ?_)
    · have hw := hw.1 hc
      refine lv_iconst (v := (0)) hx hb dL_passes_314 (by decide) ?_
      refine lv_topi (fun v2 ev2 => ?_)
      have hw := hw v2 ev2
      refine lv_istore (lv' := [(8, .int v2), (0, va_rf x0), (1, va_rf x1), (2, va_rf x2), (3, .int x3), (4, .int x4), (5, va_rf x5), (7, .int x7)]) hx hb dL_passes_315 hl (by decide) rfl (fun ls hl => ?_)
      obtain ⟨n3, hw⟩ := hw
      exact kL_passes_317 hX  n3 hw hI (lv_sub hl [1, 2, 3, 4, 5, 6, 7, 0] rfl) (by omega) (by omega)
    · have hw := hw.2 hc
      refine j_aload (r := x5) hx hb dL_passes_279 (lv_at hl 5 rfl) ?_
      refine j_aload_n (r := x1) hx hb dL_passes_281 rfl (lv_at hl 1 rfl) ?_
      refine lv_iconst (v := (2)) hx hb dL_passes_282 (by decide) ?_
      refine lv_iload hx hb dL_passes_283 (lv_at hl 7 rfl) ?_
      refine lv_imul hx hb dL_passes_285 ?_
      refine lv_bipush (v := (22)) hx hb dL_passes_286 (by decide) ?_
      refine lv_iadd hx hb dL_passes_288 ?_
      obtain ⟨v4, hv4, hw⟩ := hw
      refine j_ialdz (r := x1) hx hb hK hI hv4 dL_passes_289 ?_
      refine lv_dup2_11 hx hb dL_passes_290 rfl (jrc x5) ?_
      obtain ⟨v5, hv5, hw⟩ := hw
      refine j_laldz (r := x5) hx hb hK hI hv5 dL_passes_291 ?_
      refine j_aload_n (r := x0) hx hb dL_passes_292 rfl (lv_at hl 0 rfl) ?_
      refine lv_iload hx hb dL_passes_293 (lv_at hl 7 rfl) ?_
      obtain ⟨b8, ⟨hrb8, hfs⟩, hw⟩ := hw
      refine j_goz hI (va_runV (As := [.int x8]) (rest := [.long v5, .int v4, va_rf x5]) ⟨hx, hb, hml, hown, hts⟩ (kX9_costOf l hfl D z b8 x8 μ H.size _) (cwV 1 hts gL_passes_X9_costOf rfl rfl rfl (by decide +kernel) ⟨Nat.le_of_ble_eq_true rfl, Nat.le_of_ble_eq_true rfl⟩) (j_prV2z hK hG hI hw (ci := 11) rfl hfs) rfl rfl hl.1 (by rw [hrb8]; rfl) (lv_room (by simp only [List.map, List.sum_cons, List.sum_nil, jrc, jci, jcl, jcr, jcn]; exact Nat.le_of_ble_eq_true rfl)) dL_passes_295 ⟨by show _ ≤ 2; omega, by show _ ≤ 20; omega⟩) (fun v6 μ7 H locs hw hI => ?_)
      refine W.eq (g2 := F0 m 298 ls [.long v6, .long v5, .int v4, va_rf x5]) rfl ?_
      refine j_aload_n (r := x0) hx hb dL_passes_298 rfl (lv_at hl 0 rfl) ?_
      refine lv_iload hx hb dL_passes_299 (lv_at hl 7 rfl) ?_
      obtain ⟨b11, ⟨hrb11, hfs⟩, hw⟩ := hw
      refine j_goz hI (va_runV (As := [.int x8]) (rest := [.long v6, .long v5, .int v4, va_rf x5]) ⟨hx, hb, hml, hown, hts⟩ (kX9_drawn l hfl D z b11 x8 μ7 H.size _) (cwV 1 hts gL_passes_X9_drawn rfl rfl rfl (by decide +kernel) ⟨Nat.le_of_ble_eq_true rfl, Nat.le_of_ble_eq_true rfl⟩) (j_prV2z hK hG hI hw (ci := 11) rfl hfs) rfl rfl hl.1 (by rw [hrb11]; rfl) (lv_room (by simp only [List.map, List.sum_cons, List.sum_nil, jrc, jci, jcl, jcr, jcn]; exact Nat.le_of_ble_eq_true rfl)) dL_passes_301 ⟨by show _ ≤ 2; omega, by show _ ≤ 20; omega⟩) (fun v9 μ10 H locs hw hI => ?_)
      refine W.eq (g2 := F0 m 304 ls [.int v9, .long v6, .long v5, .int v4, va_rf x5]) rfl ?_
      refine lv_i2l hx hb dL_passes_304 rfl ?_
      refine lv_lsub hx hb dL_passes_305 ?_
      refine lv_lsub hx hb dL_passes_306 ?_
      obtain ⟨μ12, hμ12, hw⟩ := hw
      refine j_lastz (r := x5) hx hb hK hI hμ12 dL_passes_307 (fun H locs hI => ?_)
      obtain ⟨v13, ev13⟩ : ∃ y : Int32, y = x8 + (1 : Int32) := ⟨_, rfl⟩
      have hw := hw v13 ev13
      refine lv_iinc (v := v13) (lv' := [(8, .int v13), (0, va_rf x0), (1, va_rf x1), (2, va_rf x2), (3, .int x3), (4, .int x4), (5, va_rf x5), (7, .int x7)]) hx hb dL_passes_308 hl (k := 7) rfl (by rw [ev13]; rfl) (by decide) rfl (fun ls hl => ?_)
      refine lv_goto (tgt := 271) hx hb dL_passes_311 (by decide) ?_
      exact ih hw hI (lv_sub hl [1, 2, 3, 4, 5, 6, 7, 0] rfl) (by omega) (by omega)
set_option maxHeartbeats 4000000 in
set_option maxRecDepth 100000 in
theorem kL_passes_187 (hX : jX2 D z A p l s m args meth c yL_passes cL_passes 10 wsL_passes (some .boolean)) {Q : Int32 → jM → Prop}  (n : Nat) : ∀ {x0 : Option Nat} {x1 : Option Nat} {x2 : Option Nat} {x3 : Int32} {x4 : Int32} {x5 : Option Nat} {x6 : Option Nat} {x7 : Int32} {x8 : Int32} {μ : jM} {H : Heap} {locs : List Loc} {ls : Array Slot} {cells slots : Nat}, wL_passes_187 z Q n x0 x1 x2 x3 x4 x5 x6 x7 x8 μ → jIz D z A s.heap μ H locs → lv_has ls 10 [(0, va_rf x0), (1, va_rf x1), (2, va_rf x2), (3, .int x3), (4, .int x4), (5, va_rf x5), (6, va_rf x6), (7, .int x7), (8, .int x8)] → cells + 0 ≤ 2 → slots + 0 ≤ 20 → W p l e rmL_passes s m args below meth c H locs cells slots (MQ below (jRz jfI Q D z A) args s 2 20 A) (F0 m 187 ls []) := by
  induction n with
  | zero =>
    intros
    rename_i hw _ _ _ _
    exact (show False from hw).elim
  | succ n ih =>
    intro x0 x1 x2 x3 x4 x5 x6 x7 x8 μ H locs ls cells slots hw hI hl hcn hsn
    have hw : wL_passes_187_b z Q (wL_passes_187 z Q n) x0 x1 x2 x3 x4 x5 x6 x7 x8 μ := hw
    unfold wL_passes_187_b at hw
    obtain ⟨hx, hb, hml, hown, hts, hr, hlocks, hnm, hK, hG, hfl⟩ := id hX
    have hown : s.vm.findClass RL = some m.cls := hown
    refine lv_iload hx hb dL_passes_187 (lv_at hl 8 rfl) ?_
    refine j_aload_n (r := x1) hx hb dL_passes_189 rfl (lv_at hl 1 rfl) ?_
    refine lv_iconst (v := (0)) hx hb dL_passes_190 (by decide) ?_
    obtain ⟨v1, hv1, hw⟩ := hw
    refine j_ialdz (r := x1) hx hb hK hI hv1 dL_passes_191 ?_
    refine lv_icmp_ge (tgt := 268) hx hb dL_passes_192 (by decide) (fun hc => ?_) (fun hc => ?_)
    · have hw := hw.1 hc
      refine lv_iconst (v := (0)) hx hb dL_passes_268 (by decide) ?_
      refine lv_topi (fun v2 ev2 => ?_)
      have hw := hw v2 ev2
      refine lv_istore (lv' := [(8, .int v2), (0, va_rf x0), (1, va_rf x1), (2, va_rf x2), (3, .int x3), (4, .int x4), (5, va_rf x5), (6, va_rf x6), (7, .int x7)]) hx hb dL_passes_269 hl (by decide) rfl (fun ls hl => ?_)
      obtain ⟨n3, hw⟩ := hw
      exact kL_passes_271 hX  n3 hw hI (lv_sub hl [1, 2, 3, 4, 5, 6, 8, 0] rfl) (by omega) (by omega)
    · have hw := hw.2 hc
      refine j_aload_n (r := x1) hx hb dL_passes_195 rfl (lv_at hl 1 rfl) ?_
      refine lv_iload hx hb dL_passes_196 (lv_at hl 8 rfl) ?_
      refine j_goz hI (va_runS (As := [va_rf x1, .int x8]) (rest := []) ⟨hx, hb, hml, hown, hts⟩ (kL_top l hfl D z x1 x8 μ H.size _) (va_cwS 2 hts gL_passes_L_top rfl rfl rfl (by decide +kernel) ⟨Nat.le_of_ble_eq_true rfl, Nat.le_of_ble_eq_true rfl⟩) (j_prS2z hK hG hI hw) rfl rfl hl.1 rfl (lv_room (Nat.le_of_ble_eq_true rfl)) dL_passes_198 ⟨by show _ ≤ 2; omega, by show _ ≤ 20; omega⟩) (fun v4 μ5 H locs hw hI => ?_)
      refine W.eq (g2 := F0 m 201 ls [.int v4]) rfl ?_
      refine lv_istore (lv' := [(9, .int v4), (0, va_rf x0), (1, va_rf x1), (2, va_rf x2), (3, .int x3), (4, .int x4), (5, va_rf x5), (6, va_rf x6), (7, .int x7), (8, .int x8)]) hx hb dL_passes_201 hl (by decide) rfl (fun ls hl => ?_)
      refine j_aload (r := x5) hx hb dL_passes_203 (lv_at hl 6 rfl) ?_
      refine lv_iload hx hb dL_passes_205 (lv_at hl 0 rfl) ?_
      refine lv_dup2_11 hx hb dL_passes_207 rfl (jrc x5) ?_
      obtain ⟨v6, hv6, hw⟩ := hw
      refine j_laldz (r := x5) hx hb hK hI hv6 dL_passes_208 ?_
      refine j_aload_n (r := x0) hx hb dL_passes_209 rfl (lv_at hl 1 rfl) ?_
      refine lv_iload hx hb dL_passes_210 (lv_at hl 9 rfl) ?_
      obtain ⟨b9, ⟨hrb9, hfs⟩, hw⟩ := hw
      refine j_goz hI (va_runV (As := [.int x8]) (rest := [.long v6, .int v4, va_rf x5]) ⟨hx, hb, hml, hown, hts⟩ (kX9_balance l hfl D z b9 x8 μ5 H.size _) (cwV 1 hts gL_passes_X9_balance rfl rfl rfl (by decide +kernel) ⟨Nat.le_of_ble_eq_true rfl, Nat.le_of_ble_eq_true rfl⟩) (j_prV2z hK hG hI hw (ci := 11) rfl hfs) rfl rfl hl.1 (by rw [hrb9]; rfl) (lv_room (by simp only [List.map, List.sum_cons, List.sum_nil, jrc, jci, jcl, jcr, jcn]; exact Nat.le_of_ble_eq_true rfl)) dL_passes_212 ⟨by show _ ≤ 2; omega, by show _ ≤ 20; omega⟩) (fun v7 μ8 H locs hw hI => ?_)
      refine W.eq (g2 := F0 m 215 ls [.long v7, .long v6, .int v4, va_rf x5]) rfl ?_
      refine lv_iload hx hb dL_passes_215 (lv_at hl 9 rfl) ?_
      refine lv_iload hx hb dL_passes_217 (lv_at hl 0 rfl) ?_
      refine lv_icmp_ne (tgt := 231) hx hb dL_passes_219 (by decide) (fun hc => ?_) (fun hc => ?_)
      · have hw := hw.1 hc
        refine lv_lconst (v := (0)) hx hb dL_passes_231 (by decide) ?_
        exact kL_passes_232 hX ih hw hI (lv_sub hl [1, 2, 3, 4, 5, 6, 7, 8, 9] rfl) (by omega) (by omega)
      · have hw := hw.2 hc
        refine j_aload_n (r := x0) hx hb dL_passes_222 rfl (lv_at hl 1 rfl) ?_
        refine lv_iload hx hb dL_passes_223 (lv_at hl 9 rfl) ?_
        obtain ⟨b12, ⟨hrb12, hfs⟩, hw⟩ := hw
        refine j_goz hI (va_runV (As := [.int x8]) (rest := [.long v7, .long v6, .int v4, va_rf x5]) ⟨hx, hb, hml, hown, hts⟩ (kX9_poolInterest l hfl D z b12 x8 μ8 H.size _) (cwV 1 hts gL_passes_X9_poolInterest rfl rfl rfl (by decide +kernel) ⟨Nat.le_of_ble_eq_true rfl, Nat.le_of_ble_eq_true rfl⟩) (j_prV2z hK hG hI hw (ci := 11) rfl hfs) rfl rfl hl.1 (by rw [hrb12]; rfl) (lv_room (by simp only [List.map, List.sum_cons, List.sum_nil, jrc, jci, jcl, jcr, jcn]; exact Nat.le_of_ble_eq_true rfl)) dL_passes_225 ⟨by show _ ≤ 2; omega, by show _ ≤ 20; omega⟩) (fun v10 μ11 H locs hw hI => ?_)
        refine W.eq (g2 := F0 m 228 ls [.long v10, .long v7, .long v6, .int v4, va_rf x5]) rfl ?_
        refine lv_goto (tgt := 232) hx hb dL_passes_228 (by decide) ?_
        exact kL_passes_232 hX ih hw hI (lv_sub hl [1, 2, 3, 4, 5, 6, 7, 8, 9] rfl) (by omega) (by omega)
set_option maxHeartbeats 4000000 in
set_option maxRecDepth 100000 in
theorem kL_passes_123 (hX : jX2 D z A p l s m args meth c yL_passes cL_passes 10 wsL_passes (some .boolean)) {Q : Int32 → jM → Prop}  (n : Nat) : ∀ {x0 : Option Nat} {x1 : Option Nat} {x2 : Option Nat} {x3 : Int32} {x4 : Int32} {x5 : Option Nat} {x6 : Option Nat} {x7 : Int32} {μ : jM} {H : Heap} {locs : List Loc} {ls : Array Slot} {cells slots : Nat}, wL_passes_123 z Q n x0 x1 x2 x3 x4 x5 x6 x7 μ → jIz D z A s.heap μ H locs → lv_has ls 10 [(0, va_rf x0), (1, va_rf x1), (2, va_rf x2), (3, .int x3), (4, .int x4), (5, va_rf x5), (6, va_rf x6), (7, .int x7)] → cells + 0 ≤ 2 → slots + 0 ≤ 20 → W p l e rmL_passes s m args below meth c H locs cells slots (MQ below (jRz jfI Q D z A) args s 2 20 A) (F0 m 123 ls []) := by
  induction n with
  | zero =>
    intros
    rename_i hw _ _ _ _
    exact (show False from hw).elim
  | succ n ih =>
    intro x0 x1 x2 x3 x4 x5 x6 x7 μ H locs ls cells slots hw hI hl hcn hsn
    have hw : wL_passes_123_b z Q (wL_passes_123 z Q n) x0 x1 x2 x3 x4 x5 x6 x7 μ := hw
    unfold wL_passes_123_b at hw
    obtain ⟨hx, hb, hml, hown, hts, hr, hlocks, hnm, hK, hG, hfl⟩ := id hX
    have hown : s.vm.findClass RL = some m.cls := hown
    refine lv_iload hx hb dL_passes_123 (lv_at hl 7 rfl) ?_
    refine j_aload_n (r := x1) hx hb dL_passes_125 rfl (lv_at hl 1 rfl) ?_
    refine lv_iconst (v := (1)) hx hb dL_passes_126 (by decide) ?_
    obtain ⟨v1, hv1, hw⟩ := hw
    refine j_ialdz (r := x1) hx hb hK hI hv1 dL_passes_127 ?_
    refine lv_icmp_ge (tgt := 166) hx hb dL_passes_128 (by decide) (fun hc => ?_) (fun hc => ?_)
    · have hw := hw.1 hc
      refine j_aload_n (r := x0) hx hb dL_passes_166 rfl (lv_at hl 0 rfl) ?_
      refine lv_iconst (v := (1)) hx hb dL_passes_167 (by decide) ?_
      obtain ⟨b4, ⟨hrb4, hfs⟩, hw⟩ := hw
      refine j_goz hI (va_runV (As := [.int (1 : Int32)]) (rest := []) ⟨hx, hb, hml, hown, hts⟩ (kX9_passDays l hfl D z b4 (1 : Int32) μ H.size _) (cwV 1 hts gL_passes_X9_passDays rfl rfl rfl (by decide +kernel) ⟨Nat.le_of_ble_eq_true rfl, Nat.le_of_ble_eq_true rfl⟩) (j_prV2z hK hG hI hw (ci := 11) rfl hfs) rfl rfl hl.1 (by rw [hrb4]; rfl) (lv_room (Nat.le_of_ble_eq_true rfl)) dL_passes_168 ⟨by show _ ≤ 2; omega, by show _ ≤ 20; omega⟩) (fun v2 μ3 H locs hw hI => ?_)
      refine W.eq (g2 := F0 m 171 ls [.int v2]) rfl ?_
      refine lv_iload_n hx hb dL_passes_171 rfl (lv_at hl 3 rfl) ?_
      refine lv_iconst (v := (1)) hx hb dL_passes_172 (by decide) ?_
      refine lv_iadd hx hb dL_passes_173 ?_
      refine lv_icmp_ne (tgt := 181) hx hb dL_passes_174 (by decide) (fun hc => ?_) (fun hc => ?_)
      · have hw := hw.1 hc
        refine lv_iconst (v := (0)) hx hb dL_passes_181 (by decide) ?_
        refine lv_topi (fun v5 ev5 => ?_)
        have hw := hw v5 ev5
        refine j_istoreA (r := x6) (F := fun w => [(0, va_rf x0), (1, va_rf x1), (2, va_rf x2), (3, .int x3), (4, .int x4), (5, va_rf x5), (6, w), (7, .int x7)]) (F2 := fun w => [(7, .int v5), (0, va_rf x0), (1, va_rf x1), (2, va_rf x2), (3, .int x3), (4, .int x4), (5, va_rf x5), (6, w)]) hx hb dL_passes_182 hl (by decide) (fun w hw => by rcases hw with rfl | ⟨_, rfl⟩ <;> rfl) (fun ls hl => ?_)
        refine lv_iconst (v := (0)) hx hb dL_passes_184 (by decide) ?_
        refine lv_topi (fun v6 ev6 => ?_)
        have hw := hw v6 ev6
        refine lv_istore (lv' := [(8, .int v6), (7, .int v5), (0, va_rf x0), (1, va_rf x1), (2, va_rf x2), (3, .int x3), (4, .int x4), (5, va_rf x5), (6, va_rf x6)]) hx hb dL_passes_185 hl (by decide) rfl (fun ls hl => ?_)
        obtain ⟨n7, hw⟩ := hw
        exact kL_passes_187 hX  n7 hw hI (lv_sub hl [2, 3, 4, 5, 6, 7, 8, 1, 0] rfl) (by omega) (by omega)
      · have hw := hw.2 hc
        refine lv_iconst (v := (1)) hx hb dL_passes_177 (by decide) ?_
        refine lv_goto (tgt := 182) hx hb dL_passes_178 (by decide) ?_
        refine lv_topi (fun v8 ev8 => ?_)
        have hw := hw v8 ev8
        refine j_istoreA (r := x6) (F := fun w => [(0, va_rf x0), (1, va_rf x1), (2, va_rf x2), (3, .int x3), (4, .int x4), (5, va_rf x5), (6, w), (7, .int x7)]) (F2 := fun w => [(7, .int v8), (0, va_rf x0), (1, va_rf x1), (2, va_rf x2), (3, .int x3), (4, .int x4), (5, va_rf x5), (6, w)]) hx hb dL_passes_182 hl (by decide) (fun w hw => by rcases hw with rfl | ⟨_, rfl⟩ <;> rfl) (fun ls hl => ?_)
        refine lv_iconst (v := (0)) hx hb dL_passes_184 (by decide) ?_
        refine lv_topi (fun v9 ev9 => ?_)
        have hw := hw v9 ev9
        refine lv_istore (lv' := [(8, .int v9), (7, .int v8), (0, va_rf x0), (1, va_rf x1), (2, va_rf x2), (3, .int x3), (4, .int x4), (5, va_rf x5), (6, va_rf x6)]) hx hb dL_passes_185 hl (by decide) rfl (fun ls hl => ?_)
        obtain ⟨n10, hw⟩ := hw
        exact kL_passes_187 hX  n10 hw hI (lv_sub hl [2, 3, 4, 5, 6, 7, 8, 1, 0] rfl) (by omega) (by omega)
    · have hw := hw.2 hc
      refine j_aload (r := x5) hx hb dL_passes_131 (lv_at hl 5 rfl) ?_
      refine j_aload_n (r := x1) hx hb dL_passes_133 rfl (lv_at hl 1 rfl) ?_
      refine lv_iconst (v := (2)) hx hb dL_passes_134 (by decide) ?_
      refine lv_iload hx hb dL_passes_135 (lv_at hl 7 rfl) ?_
      refine lv_imul hx hb dL_passes_137 ?_
      refine lv_bipush (v := (22)) hx hb dL_passes_138 (by decide) ?_
      refine lv_iadd hx hb dL_passes_140 ?_
      obtain ⟨v11, hv11, hw⟩ := hw
      refine j_ialdz (r := x1) hx hb hK hI hv11 dL_passes_141 ?_
      refine lv_dup2_11 hx hb dL_passes_142 rfl (jrc x5) ?_
      obtain ⟨v12, hv12, hw⟩ := hw
      refine j_laldz (r := x5) hx hb hK hI hv12 dL_passes_143 ?_
      refine j_aload_n (r := x0) hx hb dL_passes_144 rfl (lv_at hl 0 rfl) ?_
      refine lv_iload hx hb dL_passes_145 (lv_at hl 7 rfl) ?_
      obtain ⟨b15, ⟨hrb15, hfs⟩, hw⟩ := hw
      refine j_goz hI (va_runV (As := [.int x7]) (rest := [.long v12, .int v11, va_rf x5]) ⟨hx, hb, hml, hown, hts⟩ (kX9_costOf l hfl D z b15 x7 μ H.size _) (cwV 1 hts gL_passes_X9_costOf rfl rfl rfl (by decide +kernel) ⟨Nat.le_of_ble_eq_true rfl, Nat.le_of_ble_eq_true rfl⟩) (j_prV2z hK hG hI hw (ci := 11) rfl hfs) rfl rfl hl.1 (by rw [hrb15]; rfl) (lv_room (by simp only [List.map, List.sum_cons, List.sum_nil, jrc, jci, jcl, jcr, jcn]; exact Nat.le_of_ble_eq_true rfl)) dL_passes_147 ⟨by show _ ≤ 2; omega, by show _ ≤ 20; omega⟩) (fun v13 μ14 H locs hw hI => ?_)
      refine W.eq (g2 := F0 m 150 ls [.long v13, .long v12, .int v11, va_rf x5]) rfl ?_
      refine j_aload_n (r := x0) hx hb dL_passes_150 rfl (lv_at hl 0 rfl) ?_
      refine lv_iload hx hb dL_passes_151 (lv_at hl 7 rfl) ?_
      obtain ⟨b18, ⟨hrb18, hfs⟩, hw⟩ := hw
      refine j_goz hI (va_runV (As := [.int x7]) (rest := [.long v13, .long v12, .int v11, va_rf x5]) ⟨hx, hb, hml, hown, hts⟩ (kX9_drawn l hfl D z b18 x7 μ14 H.size _) (cwV 1 hts gL_passes_X9_drawn rfl rfl rfl (by decide +kernel) ⟨Nat.le_of_ble_eq_true rfl, Nat.le_of_ble_eq_true rfl⟩) (j_prV2z hK hG hI hw (ci := 11) rfl hfs) rfl rfl hl.1 (by rw [hrb18]; rfl) (lv_room (by simp only [List.map, List.sum_cons, List.sum_nil, jrc, jci, jcl, jcr, jcn]; exact Nat.le_of_ble_eq_true rfl)) dL_passes_153 ⟨by show _ ≤ 2; omega, by show _ ≤ 20; omega⟩) (fun v16 μ17 H locs hw hI => ?_)
      refine W.eq (g2 := F0 m 156 ls [.int v16, .long v13, .long v12, .int v11, va_rf x5]) rfl ?_
      refine lv_i2l hx hb dL_passes_156 rfl ?_
      refine lv_lsub hx hb dL_passes_157 ?_
      refine lv_ladd hx hb dL_passes_158 ?_
      obtain ⟨μ19, hμ19, hw⟩ := hw
      refine j_lastz (r := x5) hx hb hK hI hμ19 dL_passes_159 (fun H locs hI => ?_)
      obtain ⟨v20, ev20⟩ : ∃ y : Int32, y = x7 + (1 : Int32) := ⟨_, rfl⟩
      have hw := hw v20 ev20
      refine j_iincA (r := x6) (F := fun w => [(0, va_rf x0), (1, va_rf x1), (2, va_rf x2), (3, .int x3), (4, .int x4), (5, va_rf x5), (6, w), (7, .int x7)]) (F2 := fun w => [(7, .int v20), (0, va_rf x0), (1, va_rf x1), (2, va_rf x2), (3, .int x3), (4, .int x4), (5, va_rf x5), (6, w)]) (v := v20) hx hb dL_passes_160 hl (k := 7) (fun _ => rfl) (by rw [ev20]; rfl) (by decide) (fun w hw => by rcases hw with rfl | ⟨_, rfl⟩ <;> rfl) (fun ls hl => ?_)
      refine lv_goto (tgt := 123) hx hb dL_passes_163 (by decide) ?_
      exact ih hw hI (lv_sub hl [1, 2, 3, 4, 5, 6, 7, 0] rfl) (by omega) (by omega)
set_option maxHeartbeats 4000000 in
set_option maxRecDepth 100000 in
theorem kL_passes_45 (hX : jX2 D z A p l s m args meth c yL_passes cL_passes 10 wsL_passes (some .boolean)) {Q : Int32 → jM → Prop}  (n : Nat) : ∀ {x0 : Option Nat} {x1 : Option Nat} {x2 : Option Nat} {x3 : Int32} {x4 : Int32} {x5 : Option Nat} {x6 : Option Nat} {x7 : Int32} {μ : jM} {H : Heap} {locs : List Loc} {ls : Array Slot} {cells slots : Nat}, wL_passes_45 z Q n x0 x1 x2 x3 x4 x5 x6 x7 μ → jIz D z A s.heap μ H locs → lv_has ls 10 [(0, va_rf x0), (1, va_rf x1), (2, va_rf x2), (3, .int x3), (4, .int x4), (5, va_rf x5), (6, va_rf x6), (7, .int x7)] → cells + 0 ≤ 2 → slots + 0 ≤ 20 → W p l e rmL_passes s m args below meth c H locs cells slots (MQ below (jRz jfI Q D z A) args s 2 20 A) (F0 m 45 ls []) := by
  induction n with
  | zero =>
    intros
    rename_i hw _ _ _ _
    exact (show False from hw).elim
  | succ n ih =>
    intro x0 x1 x2 x3 x4 x5 x6 x7 μ H locs ls cells slots hw hI hl hcn hsn
    have hw : wL_passes_45_b z Q (wL_passes_45 z Q n) x0 x1 x2 x3 x4 x5 x6 x7 μ := hw
    unfold wL_passes_45_b at hw
    obtain ⟨hx, hb, hml, hown, hts, hr, hlocks, hnm, hK, hG, hfl⟩ := id hX
    have hown : s.vm.findClass RL = some m.cls := hown
    refine lv_iload hx hb dL_passes_45 (lv_at hl 7 rfl) ?_
    refine j_aload_n (r := x1) hx hb dL_passes_47 rfl (lv_at hl 1 rfl) ?_
    refine lv_iconst (v := (0)) hx hb dL_passes_48 (by decide) ?_
    obtain ⟨v1, hv1, hw⟩ := hw
    refine j_ialdz (r := x1) hx hb hK hI hv1 dL_passes_49 ?_
    refine lv_icmp_ge (tgt := 120) hx hb dL_passes_50 (by decide) (fun hc => ?_) (fun hc => ?_)
    · have hw := hw.1 hc
      refine lv_iconst (v := (0)) hx hb dL_passes_120 (by decide) ?_
      refine lv_topi (fun v2 ev2 => ?_)
      have hw := hw v2 ev2
      refine j_istoreA (r := x6) (F := fun w => [(0, va_rf x0), (1, va_rf x1), (2, va_rf x2), (3, .int x3), (4, .int x4), (5, va_rf x5), (6, w), (7, .int x7)]) (F2 := fun w => [(7, .int v2), (0, va_rf x0), (1, va_rf x1), (2, va_rf x2), (3, .int x3), (4, .int x4), (5, va_rf x5), (6, w)]) hx hb dL_passes_121 hl (by decide) (fun w hw => by rcases hw with rfl | ⟨_, rfl⟩ <;> rfl) (fun ls hl => ?_)
      obtain ⟨n3, hw⟩ := hw
      exact kL_passes_123 hX  n3 hw hI (lv_sub hl [1, 2, 3, 4, 5, 6, 7, 0] rfl) (by omega) (by omega)
    · have hw := hw.2 hc
      refine j_aload_n (r := x1) hx hb dL_passes_53 rfl (lv_at hl 1 rfl) ?_
      refine lv_iload hx hb dL_passes_54 (lv_at hl 7 rfl) ?_
      refine j_goz hI (va_runS (As := [va_rf x1, .int x7]) (rest := []) ⟨hx, hb, hml, hown, hts⟩ (kL_top l hfl D z x1 x7 μ H.size _) (va_cwS 2 hts gL_passes_L_top rfl rfl rfl (by decide +kernel) ⟨Nat.le_of_ble_eq_true rfl, Nat.le_of_ble_eq_true rfl⟩) (j_prS2z hK hG hI hw) rfl rfl hl.1 rfl (lv_room (Nat.le_of_ble_eq_true rfl)) dL_passes_56 ⟨by show _ ≤ 2; omega, by show _ ≤ 20; omega⟩) (fun v4 μ5 H locs hw hI => ?_)
      refine W.eq (g2 := F0 m 59 ls [.int v4]) rfl ?_
      refine lv_istore (lv' := [(8, .int v4), (0, va_rf x0), (1, va_rf x1), (2, va_rf x2), (3, .int x3), (4, .int x4), (5, va_rf x5), (6, va_rf x6), (7, .int x7)]) hx hb dL_passes_59 hl (by decide) rfl (fun ls hl => ?_)
      refine j_aload (r := x6) hx hb dL_passes_61 (lv_at hl 7 rfl) ?_
      refine lv_iload hx hb dL_passes_63 (lv_at hl 8 rfl) ?_
      refine j_aload_n (r := x0) hx hb dL_passes_65 rfl (lv_at hl 1 rfl) ?_
      refine lv_iload hx hb dL_passes_66 (lv_at hl 8 rfl) ?_
      refine lv_iconst (v := (1)) hx hb dL_passes_68 (by decide) ?_
      obtain ⟨b8, ⟨hrb8, hfs⟩, hw⟩ := hw
      refine j_goz hI (va_runV (As := [.int x7, .int (1 : Int32)]) (rest := [.int x7, va_rf x6]) ⟨hx, hb, hml, hown, hts⟩ (kX9_forecast l hfl D z b8 x7 (1 : Int32) μ5 H.size _) (cwV 2 hts gL_passes_X9_forecast rfl rfl rfl (by decide +kernel) ⟨Nat.le_of_ble_eq_true rfl, Nat.le_of_ble_eq_true rfl⟩) (j_prV2z hK hG hI hw (ci := 11) rfl hfs) rfl rfl hl.1 (by rw [hrb8]; rfl) (lv_room (by simp only [List.map, List.sum_cons, List.sum_nil, jrc, jci, jcl, jcr, jcn]; exact Nat.le_of_ble_eq_true rfl)) dL_passes_69 ⟨by show _ ≤ 2; omega, by show _ ≤ 20; omega⟩) (fun v6 μ7 H locs hw hI => ?_)
      refine W.eq (g2 := F0 m 72 ls [.long v6, .int x7, va_rf x6]) rfl ?_
      obtain ⟨μ9, hμ9, hw⟩ := hw
      refine j_lastz (r := x6) hx hb hK hI hμ9 dL_passes_72 (fun H locs hI => ?_)
      refine j_aload (r := x5) hx hb dL_passes_73 (lv_at hl 6 rfl) ?_
      refine lv_iload hx hb dL_passes_75 (lv_at hl 0 rfl) ?_
      refine lv_dup2_11 hx hb dL_passes_77 rfl (jrc x5) ?_
      obtain ⟨v10, hv10, hw⟩ := hw
      refine j_laldz (r := x5) hx hb hK hI hv10 dL_passes_78 ?_
      refine j_aload_n (r := x0) hx hb dL_passes_79 rfl (lv_at hl 1 rfl) ?_
      refine lv_iload hx hb dL_passes_80 (lv_at hl 8 rfl) ?_
      obtain ⟨b13, ⟨hrb13, hfs⟩, hw⟩ := hw
      refine j_goz hI (va_runV (As := [.int x7]) (rest := [.long v10, .int v4, va_rf x5]) ⟨hx, hb, hml, hown, hts⟩ (kX9_balance l hfl D z b13 x7 μ9 H.size _) (cwV 1 hts gL_passes_X9_balance rfl rfl rfl (by decide +kernel) ⟨Nat.le_of_ble_eq_true rfl, Nat.le_of_ble_eq_true rfl⟩) (j_prV2z hK hG hI hw (ci := 11) rfl hfs) rfl rfl hl.1 (by rw [hrb13]; rfl) (lv_room (by simp only [List.map, List.sum_cons, List.sum_nil, jrc, jci, jcl, jcr, jcn]; exact Nat.le_of_ble_eq_true rfl)) dL_passes_82 ⟨by show _ ≤ 2; omega, by show _ ≤ 20; omega⟩) (fun v11 μ12 H locs hw hI => ?_)
      refine W.eq (g2 := F0 m 85 ls [.long v11, .long v10, .int v4, va_rf x5]) rfl ?_
      refine j_aload_n (r := x0) hx hb dL_passes_85 rfl (lv_at hl 1 rfl) ?_
      refine lv_iload hx hb dL_passes_86 (lv_at hl 8 rfl) ?_
      refine lv_iload_n hx hb dL_passes_88 rfl (lv_at hl 4 rfl) ?_
      refine lv_iload_n hx hb dL_passes_89 rfl (lv_at hl 4 rfl) ?_
      obtain ⟨b16, ⟨hrb16, hfs⟩, hw⟩ := hw
      refine j_goz hI (va_runV (As := [.int x7, .int x3, .int x3]) (rest := [.long v11, .long v10, .int v4, va_rf x5]) ⟨hx, hb, hml, hown, hts⟩ (kX9_scheduled l hfl D z b16 x7 x3 x3 μ12 H.size _) (cwV 3 hts gL_passes_X9_scheduled rfl rfl rfl (by decide +kernel) ⟨Nat.le_of_ble_eq_true rfl, Nat.le_of_ble_eq_true rfl⟩) (j_prV2z hK hG hI hw (ci := 11) rfl hfs) rfl rfl hl.1 (by rw [hrb16]; rfl) (lv_room (by simp only [List.map, List.sum_cons, List.sum_nil, jrc, jci, jcl, jcr, jcn]; exact Nat.le_of_ble_eq_true rfl)) dL_passes_90 ⟨by show _ ≤ 2; omega, by show _ ≤ 20; omega⟩) (fun v14 μ15 H locs hw hI => ?_)
      refine W.eq (g2 := F0 m 93 ls [.long v14, .long v11, .long v10, .int v4, va_rf x5]) rfl ?_
      refine lv_ladd hx hb dL_passes_93 ?_
      refine lv_iload hx hb dL_passes_94 (lv_at hl 8 rfl) ?_
      refine lv_iload hx hb dL_passes_96 (lv_at hl 0 rfl) ?_
      refine lv_icmp_ne (tgt := 110) hx hb dL_passes_98 (by decide) (fun hc => ?_) (fun hc => ?_)
      · have hw := hw.1 hc
        refine lv_lconst (v := (0)) hx hb dL_passes_110 (by decide) ?_
        refine lv_lsub hx hb dL_passes_111 ?_
        refine lv_ladd hx hb dL_passes_112 ?_
        obtain ⟨μ17, hμ17, hw⟩ := hw
        refine j_lastz (r := x5) hx hb hK hI hμ17 dL_passes_113 (fun H locs hI => ?_)
        obtain ⟨v18, ev18⟩ : ∃ y : Int32, y = x7 + (1 : Int32) := ⟨_, rfl⟩
        have hw := hw v18 ev18
        refine j_iincA (r := x6) (F := fun w => [(8, .int v4), (0, va_rf x0), (1, va_rf x1), (2, va_rf x2), (3, .int x3), (4, .int x4), (5, va_rf x5), (6, w), (7, .int x7)]) (F2 := fun w => [(7, .int v18), (8, .int v4), (0, va_rf x0), (1, va_rf x1), (2, va_rf x2), (3, .int x3), (4, .int x4), (5, va_rf x5), (6, w)]) (v := v18) hx hb dL_passes_114 hl (k := 8) (fun _ => rfl) (by rw [ev18]; rfl) (by decide) (fun w hw => by rcases hw with rfl | ⟨_, rfl⟩ <;> rfl) (fun ls hl => ?_)
        refine lv_goto (tgt := 45) hx hb dL_passes_117 (by decide) ?_
        exact ih hw hI (lv_sub hl [2, 3, 4, 5, 6, 7, 8, 0] rfl) (by omega) (by omega)
      · have hw := hw.2 hc
        refine j_aload_n (r := x0) hx hb dL_passes_101 rfl (lv_at hl 1 rfl) ?_
        refine lv_iload hx hb dL_passes_102 (lv_at hl 8 rfl) ?_
        obtain ⟨b21, ⟨hrb21, hfs⟩, hw⟩ := hw
        refine j_goz hI (va_runV (As := [.int x7]) (rest := [.long (v11 + v14), .long v10, .int v4, va_rf x5]) ⟨hx, hb, hml, hown, hts⟩ (kX9_poolInterest l hfl D z b21 x7 μ15 H.size _) (cwV 1 hts gL_passes_X9_poolInterest rfl rfl rfl (by decide +kernel) ⟨Nat.le_of_ble_eq_true rfl, Nat.le_of_ble_eq_true rfl⟩) (j_prV2z hK hG hI hw (ci := 11) rfl hfs) rfl rfl hl.1 (by rw [hrb21]; rfl) (lv_room (by simp only [List.map, List.sum_cons, List.sum_nil, jrc, jci, jcl, jcr, jcn]; exact Nat.le_of_ble_eq_true rfl)) dL_passes_104 ⟨by show _ ≤ 2; omega, by show _ ≤ 20; omega⟩) (fun v19 μ20 H locs hw hI => ?_)
        refine W.eq (g2 := F0 m 107 ls [.long v19, .long (v11 + v14), .long v10, .int v4, va_rf x5]) rfl ?_
        refine lv_goto (tgt := 111) hx hb dL_passes_107 (by decide) ?_
        refine lv_lsub hx hb dL_passes_111 ?_
        refine lv_ladd hx hb dL_passes_112 ?_
        obtain ⟨μ22, hμ22, hw⟩ := hw
        refine j_lastz (r := x5) hx hb hK hI hμ22 dL_passes_113 (fun H locs hI => ?_)
        obtain ⟨v23, ev23⟩ : ∃ y : Int32, y = x7 + (1 : Int32) := ⟨_, rfl⟩
        have hw := hw v23 ev23
        refine j_iincA (r := x6) (F := fun w => [(8, .int v4), (0, va_rf x0), (1, va_rf x1), (2, va_rf x2), (3, .int x3), (4, .int x4), (5, va_rf x5), (6, w), (7, .int x7)]) (F2 := fun w => [(7, .int v23), (8, .int v4), (0, va_rf x0), (1, va_rf x1), (2, va_rf x2), (3, .int x3), (4, .int x4), (5, va_rf x5), (6, w)]) (v := v23) hx hb dL_passes_114 hl (k := 8) (fun _ => rfl) (by rw [ev23]; rfl) (by decide) (fun w hw => by rcases hw with rfl | ⟨_, rfl⟩ <;> rfl) (fun ls hl => ?_)
        refine lv_goto (tgt := 45) hx hb dL_passes_117 (by decide) ?_
        exact ih hw hI (lv_sub hl [2, 3, 4, 5, 6, 7, 8, 0] rfl) (by omega) (by omega)
set_option maxHeartbeats 4000000 in
set_option maxRecDepth 100000 in
theorem kL_passes_0 (hX : jX2 D z A p l s m args meth c yL_passes cL_passes 10 wsL_passes (some .boolean)) {Q : Int32 → jM → Prop}  {x0 : Option Nat} {x1 : Option Nat} {x2 : Option Nat} {μ : jM} {H : Heap} {locs : List Loc} {ls : Array Slot} {cells slots : Nat} (hw : wL_passes_0 z Q x0 x1 x2 μ) (hI : jIz D z A s.heap μ H locs) (hl : lv_has ls 10 [(0, va_rf x0), (1, va_rf x1), (2, va_rf x2)]) (hcn : cells + 2 ≤ 2) (hsn : slots + 20 ≤ 20) : W p l e rmL_passes s m args below meth c H locs cells slots (MQ below (jRz jfI Q D z A) args s 2 20 A) (F0 m 0 ls []) := by
  unfold wL_passes_0 at hw
  obtain ⟨hx, hb, hml, hown, hts, hr, hlocks, hnm, hK, hG, hfl⟩ := id hX
  have hown : s.vm.findClass RL = some m.cls := hown
  refine j_aload_n (r := x0) hx hb dL_passes_0 rfl (lv_at hl 0 rfl) ?_
  obtain ⟨b3, ⟨hrb3, hfs⟩, hw⟩ := hw
  refine j_goz hI (va_runV (As := []) (rest := []) ⟨hx, hb, hml, hown, hts⟩ (kX9_today l hfl D z b3  μ H.size _) (cwV 0 hts gL_passes_X9_today rfl rfl rfl (by decide +kernel) ⟨Nat.le_of_ble_eq_true rfl, Nat.le_of_ble_eq_true rfl⟩) (j_prV2z hK hG hI hw (ci := 11) rfl hfs) rfl rfl hl.1 (by rw [hrb3]; rfl) (lv_room (Nat.le_of_ble_eq_true rfl)) dL_passes_1 ⟨by show _ ≤ 2; omega, by show _ ≤ 20; omega⟩) (fun v1 μ2 H locs hw hI => ?_)
  refine W.eq (g2 := F0 m 4 ls [.int v1]) rfl ?_
  refine j_istore_nA (r := x2) (F := fun w => [(0, va_rf x0), (1, va_rf x1), (2, w)]) (F2 := fun w => [(3, .int v1), (0, va_rf x0), (1, va_rf x1), (2, w)]) hx hb dL_passes_4 rfl hl (by decide) (fun w hw => by rcases hw with rfl | ⟨_, rfl⟩ <;> rfl) (fun ls hl => ?_)
  refine lv_iload_n hx hb dL_passes_5 rfl (lv_at hl 0 rfl) ?_
  refine lv_sipush (v := (400)) hx hb dL_passes_6 (by decide) ?_
  refine lv_icmp_lt (tgt := 14) hx hb dL_passes_9 (by decide) (fun hc => ?_) (fun hc => ?_)
  · have hw := hw.1 hc
    refine j_aload_n (r := x0) hx hb dL_passes_14 rfl (lv_at hl 1 rfl) ?_
    refine lv_iload_n hx hb dL_passes_15 rfl (lv_at hl 0 rfl) ?_
    obtain ⟨b6, ⟨hrb6, hfs⟩, hw⟩ := hw
    refine j_goz hI (va_runV (As := [.int v1]) (rest := []) ⟨hx, hb, hml, hown, hts⟩ (kX9_settlementDay l hfl D z b6 v1 μ2 H.size _) (cwV 1 hts gL_passes_X9_settlementDay rfl rfl rfl (by decide +kernel) ⟨Nat.le_of_ble_eq_true rfl, Nat.le_of_ble_eq_true rfl⟩) (j_prV2z hK hG hI hw (ci := 11) rfl hfs) rfl rfl hl.1 (by rw [hrb6]; rfl) (lv_room (Nat.le_of_ble_eq_true rfl)) dL_passes_16 ⟨by show _ ≤ 2; omega, by show _ ≤ 20; omega⟩) (fun v4 μ5 H locs hw hI => ?_)
    refine W.eq (g2 := F0 m 19 ls [.int v4]) rfl ?_
    refine lv_iload_n hx hb dL_passes_19 rfl (lv_at hl 0 rfl) ?_
    refine lv_icmp_ne (tgt := 27) hx hb dL_passes_20 (by decide) (fun hc => ?_) (fun hc => ?_)
    · have hw := hw.1 hc
      refine lv_iconst (v := (0)) hx hb dL_passes_27 (by decide) ?_
      refine lv_topi (fun v7 ev7 => ?_)
      have hw := hw v7 ev7
      refine lv_istore (lv' := [(4, .int v7), (3, .int v1), (0, va_rf x0), (1, va_rf x1), (2, va_rf x2)]) hx hb dL_passes_28 hl (by decide) rfl (fun ls hl => ?_)
      refine lv_bipush (v := (10)) hx hb dL_passes_30 (by decide) ?_
      refine j_newaz (atype := .long) (ty := .long) (t := 1) (N' := 10) (a0 := (10, .inr (.inl (fun _ => 0)))) hx hb (hts (.arrayClass .long) (List.mem_of_getElem? (i := 1) (by decide +kernel))) rfl hK hI (fun cA h => Option.some.inj (h.symm.trans ((hK.2 1 (D.2 1, .long) rfl).2))) (fun cA => rfl) (by decide) (by decide) (by decide) (by show _ ≤ 2; omega) (by show _ ≤ 20; omega) dL_passes_32 (fun q8 H hq8 hI => ?_)
      have hw := hw q8 hq8
      refine j_astore (r := (some q8)) (lv' := [(5, va_rf (some q8)), (4, .int v7), (3, .int v1), (0, va_rf x0), (1, va_rf x1), (2, va_rf x2)]) hx hb dL_passes_34 hl (by decide) rfl (fun ls hl => ?_)
      refine lv_bipush (v := (10)) hx hb dL_passes_36 (by decide) ?_
      refine j_newaz (atype := .long) (ty := .long) (t := 1) (N' := 10) (a0 := (10, .inr (.inl (fun _ => 0)))) hx hb (hts (.arrayClass .long) (List.mem_of_getElem? (i := 1) (by decide +kernel))) rfl hK hI (fun cA h => Option.some.inj (h.symm.trans ((hK.2 1 (D.2 1, .long) rfl).2))) (fun cA => rfl) (by decide) (by decide) (by decide) (by show _ ≤ 2; omega) (by show _ ≤ 20; omega) dL_passes_38 (fun q9 H hq9 hI => ?_)
      have hw := hw q9 hq9
      refine j_astore (r := (some q9)) (lv' := [(6, va_rf (some q9)), (5, va_rf (some q8)), (4, .int v7), (3, .int v1), (0, va_rf x0), (1, va_rf x1), (2, va_rf x2)]) hx hb dL_passes_40 hl (by decide) rfl (fun ls hl => ?_)
      refine lv_iconst (v := (0)) hx hb dL_passes_42 (by decide) ?_
      refine lv_topi (fun v10 ev10 => ?_)
      have hw := hw v10 ev10
      refine lv_istore (lv' := [(7, .int v10), (6, va_rf (some q9)), (5, va_rf (some q8)), (4, .int v7), (3, .int v1), (0, va_rf x0), (1, va_rf x1), (2, va_rf x2)]) hx hb dL_passes_43 hl (by decide) rfl (fun ls hl => ?_)
      obtain ⟨n11, hw⟩ := hw
      exact kL_passes_45 hX  n11 hw hI (lv_sub hl [5, 6, 7, 4, 3, 2, 1, 0] rfl) (by omega) (by omega)
    · have hw := hw.2 hc
      refine lv_iconst (v := (1)) hx hb dL_passes_23 (by decide) ?_
      refine lv_goto (tgt := 28) hx hb dL_passes_24 (by decide) ?_
      refine lv_topi (fun v12 ev12 => ?_)
      have hw := hw v12 ev12
      refine lv_istore (lv' := [(4, .int v12), (3, .int v1), (0, va_rf x0), (1, va_rf x1), (2, va_rf x2)]) hx hb dL_passes_28 hl (by decide) rfl (fun ls hl => ?_)
      refine lv_bipush (v := (10)) hx hb dL_passes_30 (by decide) ?_
      refine j_newaz (atype := .long) (ty := .long) (t := 1) (N' := 10) (a0 := (10, .inr (.inl (fun _ => 0)))) hx hb (hts (.arrayClass .long) (List.mem_of_getElem? (i := 1) (by decide +kernel))) rfl hK hI (fun cA h => Option.some.inj (h.symm.trans ((hK.2 1 (D.2 1, .long) rfl).2))) (fun cA => rfl) (by decide) (by decide) (by decide) (by show _ ≤ 2; omega) (by show _ ≤ 20; omega) dL_passes_32 (fun q13 H hq13 hI => ?_)
      have hw := hw q13 hq13
      refine j_astore (r := (some q13)) (lv' := [(5, va_rf (some q13)), (4, .int v12), (3, .int v1), (0, va_rf x0), (1, va_rf x1), (2, va_rf x2)]) hx hb dL_passes_34 hl (by decide) rfl (fun ls hl => ?_)
      refine lv_bipush (v := (10)) hx hb dL_passes_36 (by decide) ?_
      refine j_newaz (atype := .long) (ty := .long) (t := 1) (N' := 10) (a0 := (10, .inr (.inl (fun _ => 0)))) hx hb (hts (.arrayClass .long) (List.mem_of_getElem? (i := 1) (by decide +kernel))) rfl hK hI (fun cA h => Option.some.inj (h.symm.trans ((hK.2 1 (D.2 1, .long) rfl).2))) (fun cA => rfl) (by decide) (by decide) (by decide) (by show _ ≤ 2; omega) (by show _ ≤ 20; omega) dL_passes_38 (fun q14 H hq14 hI => ?_)
      have hw := hw q14 hq14
      refine j_astore (r := (some q14)) (lv' := [(6, va_rf (some q14)), (5, va_rf (some q13)), (4, .int v12), (3, .int v1), (0, va_rf x0), (1, va_rf x1), (2, va_rf x2)]) hx hb dL_passes_40 hl (by decide) rfl (fun ls hl => ?_)
      refine lv_iconst (v := (0)) hx hb dL_passes_42 (by decide) ?_
      refine lv_topi (fun v15 ev15 => ?_)
      have hw := hw v15 ev15
      refine lv_istore (lv' := [(7, .int v15), (6, va_rf (some q14)), (5, va_rf (some q13)), (4, .int v12), (3, .int v1), (0, va_rf x0), (1, va_rf x1), (2, va_rf x2)]) hx hb dL_passes_43 hl (by decide) rfl (fun ls hl => ?_)
      obtain ⟨n16, hw⟩ := hw
      exact kL_passes_45 hX  n16 hw hI (lv_sub hl [5, 6, 7, 4, 3, 2, 1, 0] rfl) (by omega) (by omega)
  · have hw := hw.2 hc
    refine lv_iconst (v := (1)) hx hb dL_passes_12 (by decide) ?_
    exact j_zretz hx hb hr rfl hlocks hI hw (by omega) (by omega) dL_passes_13
set_option maxHeartbeats 4000000 in
set_option maxRecDepth 100000 in
theorem kL_passes (l : Launch) (hfl : l.stackTraces = false) (D : jD) (z : Nat × Nat) (x0 : Option Nat) (x1 : Option Nat) (x2 : Option Nat) (μ : jM) (sz : Nat) (Q : Int32 → jM → Prop) : Met l yL_passes wsL_passes rmL_passes (jPre2z D z μ sz [va_rf x0, va_rf x1, va_rf x2] (wL_passes z x0 x1 x2 μ Q)) (jRz jfI Q D z (jA z μ sz)) 2 20 (jA z μ sz) := by
  refine Met.ofW (cc := cL_passes) (maxL := 10) (ret := (some .boolean)) (by decide) rfl ?_
  intro p e s m args below meth c s₁ B hml hv
  obtain ⟨rfl, hsz, hH, hz0, hK, hG, hw⟩ := hv
  subst hsz
  have hX : jX2 D z (jA z μ s.heap.size) p l s m _ meth c yL_passes cL_passes 10 wsL_passes (some .boolean) := ⟨B.exec, B.bytes, hml, findClass_of_methodNamed B.named, atoms_spec (ws := wsL_passes) B.pre, B.returns, B.notSynchronized, (name_of_methodNamed B.named B.method).1, hK, hG, hfl⟩
  obtain ⟨ls, hg, hl⟩ : ∃ ls : Array Slot, entryFrame m ([va_rf x0, va_rf x1, va_rf x2] : List Value).toArray 10 = F0 m 0 ls [] ∧ lv_has ls 10 [(0, va_rf x0), (1, va_rf x1), (2, va_rf x2)] := by
    cases x0 <;> cases x1 <;> cases x2 <;> exact ⟨_, lg_entry_eq .., lv_entry _ (n := 10) (Nat.le_of_ble_eq_true rfl)⟩
  rw [hg]
  exact kL_passes_0 hX hw (jIz.start hH hz0) (lv_sub hl [0, 1, 2] rfl) (by decide) (by decide)
end
