section
variable {p : Program} {l : Launch} {e : Env} {s : State} {m : MethodId} {args : Array Value} {below : List Frame} {meth : Method} {c : Code} {D : jD} {z : Nat × Nat} {A : Nat → Prop}
set_option maxHeartbeats 4000000 in
set_option maxRecDepth 100000 in
theorem kL_isSwept_227 (hX : jX2 D z A p l s m args meth c yL_isSwept cL_isSwept 10 wsL_isSwept (some .boolean)) {Q : Int32 → jM → Prop} {K4 : Option Nat → Option Nat → Int32 → Int32 → jM → Prop} (hK4 : ∀ {x0 : Option Nat} {x1 : Option Nat} {x2 : Int32} {x3 : Int32} {μ : jM} {H : Heap} {locs : List Loc} {ls : Array Slot} {cells slots : Nat}, K4 x0 x1 x2 x3 μ → jIz D z A s.heap μ H locs → lv_has ls 10 [(0, va_rf x0), (1, va_rf x1), (2, .int x2), (3, .int x3)] → cells + 0 ≤ 0 → slots + 0 ≤ 0 → W p l e rmL_isSwept s m args below meth c H locs cells slots (MQ below (jRz jfI Q D z A) args s 0 0 A) (F0 m 4 ls [])) {x0 : Option Nat} {x1 : Option Nat} {x3 : Int32} {x8 : Int64} {μ : jM} {H : Heap} {locs : List Loc} {ls : Array Slot} {cells slots : Nat} (hw : wL_isSwept_227 z K4 Q x0 x1 x3 x8 μ) (hI : jIz D z A s.heap μ H locs) (hl : lv_has ls 10 [(0, va_rf x0), (1, va_rf x1), (3, .int x3), (8, .long x8)]) (hcn : cells + 0 ≤ 0) (hsn : slots + 0 ≤ 0) : W p l e rmL_isSwept s m args below meth c H locs cells slots (MQ below (jRz jfI Q D z A) args s 0 0 A) (F0 m 227 ls []) := by
  unfold wL_isSwept_227 at hw
  obtain ⟨hx, hb, hml, hown, hts, hr, hlocks, hnm, hK, hG, hfl⟩ := id hX
  have hown : s.vm.findClass RL = some m.cls := hown
  refine lv_lload hx hb dL_isSwept_227 (lv_at hl 3 rfl) ?_
  refine lv_lconst (v := (0)) hx hb dL_isSwept_229 (by decide) ?_
  refine j_lcmp_ge (tgt := 247) hx hb dL_isSwept_230 dL_isSwept_231 (by decide) (fun hc => ?_) (fun hc => ?_)
  · have hw := hw.1 hc
    refine lv_iconst (v := (1)) hx hb dL_isSwept_247 (by decide) ?_
    refine lv_goto (tgt := 252) hx hb dL_isSwept_248 (by decide) ?_
    refine lv_topi (fun v1 ev1 => ?_)
    have hw := hw v1 ev1
    refine j_istore_nA (r := x1) (F := fun w => [(0, va_rf x0), (1, w), (3, .int x3), (8, .long x8)]) (F2 := fun w => [(2, .int v1), (0, va_rf x0), (1, w), (3, .int x3), (8, .long x8)]) hx hb dL_isSwept_252 rfl hl (by decide) (fun w hw => by rcases hw with rfl | ⟨_, rfl⟩ <;> rfl) (fun ls hl => ?_)
    obtain ⟨v2, ev2⟩ : ∃ y : Int32, y = x3 + (1 : Int32) := ⟨_, rfl⟩
    have hw := hw v2 ev2
    refine lv_iinc (v := v2) (lv' := [(3, .int v2), (2, .int v1), (0, va_rf x0), (1, va_rf x1), (8, .long x8)]) hx hb dL_isSwept_253 hl (k := 3) rfl (by rw [ev2]; rfl) (by decide) rfl (fun ls hl => ?_)
    refine lv_goto (tgt := 4) hx hb dL_isSwept_256 (by decide) ?_
    exact hK4 hw hI (lv_sub hl [2, 3, 1, 0] rfl) (by omega) (by omega)
  · have hw := hw.2 hc
    refine j_aload_n (r := x0) hx hb dL_isSwept_234 rfl (lv_at hl 0 rfl) ?_
    refine j_aload_n (r := x1) hx hb dL_isSwept_235 rfl (lv_at hl 1 rfl) ?_
    refine j_aload_n (r := x1) hx hb dL_isSwept_236 rfl (lv_at hl 1 rfl) ?_
    refine lv_iload_n hx hb dL_isSwept_237 rfl (lv_at hl 2 rfl) ?_
    refine j_goz hI (va_runS (As := [va_rf x1, .int x3]) (rest := [va_rf x1, va_rf x0]) ⟨hx, hb, hml, hown, hts⟩ (kL_parent l hfl D z x1 x3 μ H.size _) (va_cwS 2 hts gL_isSwept_L_parent rfl rfl rfl (by decide +kernel) ⟨Nat.le_of_ble_eq_true rfl, Nat.le_of_ble_eq_true rfl⟩) (j_prS2z hK hG hI hw) rfl rfl hl.1 rfl (lv_room (by simp only [List.map, List.sum_cons, List.sum_nil, jrc, jci, jcl, jcr, jcn]; exact Nat.le_of_ble_eq_true rfl)) dL_isSwept_238 ⟨by show _ ≤ 0; omega, by show _ ≤ 0; omega⟩) (fun v3 μ4 H locs hw hI => ?_)
    refine W.eq (g2 := F0 m 241 ls [.int v3, va_rf x1, va_rf x0]) rfl ?_
    refine j_goz hI (va_runS (As := [va_rf x0, va_rf x1, .int v3]) (rest := []) ⟨hx, hb, hml, hown, hts⟩ (kL_parentIsShort l hfl D z x0 x1 v3 μ4 H.size _) (va_cwS 3 hts gL_isSwept_L_parentIsShort rfl rfl rfl (by decide +kernel) ⟨Nat.le_of_ble_eq_true rfl, Nat.le_of_ble_eq_true rfl⟩) (j_prS2z hK hG hI hw) rfl rfl hl.1 rfl (lv_room (Nat.le_of_ble_eq_true rfl)) dL_isSwept_241 ⟨by show _ ≤ 0; omega, by show _ ≤ 0; omega⟩) (fun v5 μ6 H locs hw hI => ?_)
    refine W.eq (g2 := F0 m 244 ls [.int v5]) rfl ?_
    refine lv_if_eq (tgt := 251) hx hb dL_isSwept_244 (by decide) (fun hc => ?_) (fun hc => ?_)
    · have hw := hw.1 hc
      refine lv_iconst (v := (0)) hx hb dL_isSwept_251 (by decide) ?_
      refine lv_topi (fun v7 ev7 => ?_)
      have hw := hw v7 ev7
      refine j_istore_nA (r := x1) (F := fun w => [(0, va_rf x0), (1, w), (3, .int x3), (8, .long x8)]) (F2 := fun w => [(2, .int v7), (0, va_rf x0), (1, w), (3, .int x3), (8, .long x8)]) hx hb dL_isSwept_252 rfl hl (by decide) (fun w hw => by rcases hw with rfl | ⟨_, rfl⟩ <;> rfl) (fun ls hl => ?_)
      obtain ⟨v8, ev8⟩ : ∃ y : Int32, y = x3 + (1 : Int32) := ⟨_, rfl⟩
      have hw := hw v8 ev8
      refine lv_iinc (v := v8) (lv' := [(3, .int v8), (2, .int v7), (0, va_rf x0), (1, va_rf x1), (8, .long x8)]) hx hb dL_isSwept_253 hl (k := 3) rfl (by rw [ev8]; rfl) (by decide) rfl (fun ls hl => ?_)
      refine lv_goto (tgt := 4) hx hb dL_isSwept_256 (by decide) ?_
      exact hK4 hw hI (lv_sub hl [2, 3, 1, 0] rfl) (by omega) (by omega)
    · have hw := hw.2 hc
      refine lv_iconst (v := (1)) hx hb dL_isSwept_247 (by decide) ?_
      refine lv_goto (tgt := 252) hx hb dL_isSwept_248 (by decide) ?_
      refine lv_topi (fun v9 ev9 => ?_)
      have hw := hw v9 ev9
      refine j_istore_nA (r := x1) (F := fun w => [(0, va_rf x0), (1, w), (3, .int x3), (8, .long x8)]) (F2 := fun w => [(2, .int v9), (0, va_rf x0), (1, w), (3, .int x3), (8, .long x8)]) hx hb dL_isSwept_252 rfl hl (by decide) (fun w hw => by rcases hw with rfl | ⟨_, rfl⟩ <;> rfl) (fun ls hl => ?_)
      obtain ⟨v10, ev10⟩ : ∃ y : Int32, y = x3 + (1 : Int32) := ⟨_, rfl⟩
      have hw := hw v10 ev10
      refine lv_iinc (v := v10) (lv' := [(3, .int v10), (2, .int v9), (0, va_rf x0), (1, va_rf x1), (8, .long x8)]) hx hb dL_isSwept_253 hl (k := 3) rfl (by rw [ev10]; rfl) (by decide) rfl (fun ls hl => ?_)
      refine lv_goto (tgt := 4) hx hb dL_isSwept_256 (by decide) ?_
      exact hK4 hw hI (lv_sub hl [2, 3, 1, 0] rfl) (by omega) (by omega)
set_option maxHeartbeats 4000000 in
set_option maxRecDepth 100000 in
theorem kL_isSwept_210 (hX : jX2 D z A p l s m args meth c yL_isSwept cL_isSwept 10 wsL_isSwept (some .boolean)) {Q : Int32 → jM → Prop} {K4 : Option Nat → Option Nat → Int32 → Int32 → jM → Prop} (hK4 : ∀ {x0 : Option Nat} {x1 : Option Nat} {x2 : Int32} {x3 : Int32} {μ : jM} {H : Heap} {locs : List Loc} {ls : Array Slot} {cells slots : Nat}, K4 x0 x1 x2 x3 μ → jIz D z A s.heap μ H locs → lv_has ls 10 [(0, va_rf x0), (1, va_rf x1), (2, .int x2), (3, .int x3)] → cells + 0 ≤ 0 → slots + 0 ≤ 0 → W p l e rmL_isSwept s m args below meth c H locs cells slots (MQ below (jRz jfI Q D z A) args s 0 0 A) (F0 m 4 ls [])) {x0 : Option Nat} {x1 : Option Nat} {x3 : Int32} {x4 : Int32} {x8 : Int64} {t0 : Int32} {μ : jM} {H : Heap} {locs : List Loc} {ls : Array Slot} {cells slots : Nat} (hw : wL_isSwept_210 z K4 Q x0 x1 x3 x4 x8 t0 μ) (hI : jIz D z A s.heap μ H locs) (hl : lv_has ls 10 [(0, va_rf x0), (1, va_rf x1), (3, .int x3), (4, .int x4), (8, .long x8)]) (hcn : cells + 0 ≤ 0) (hsn : slots + 0 ≤ 0) : W p l e rmL_isSwept s m args below meth c H locs cells slots (MQ below (jRz jfI Q D z A) args s 0 0 A) (F0 m 210 ls [.int t0]) := by
  unfold wL_isSwept_210 at hw
  obtain ⟨hx, hb, hml, hown, hts, hr, hlocks, hnm, hK, hG, hfl⟩ := id hX
  have hown : s.vm.findClass RL = some m.cls := hown
  refine j_istore_nA (r := x1) (F := fun w => [(0, va_rf x0), (1, w), (3, .int x3), (4, .int x4), (8, .long x8)]) (F2 := fun w => [(2, .int t0), (0, va_rf x0), (1, w), (3, .int x3), (4, .int x4), (8, .long x8)]) hx hb dL_isSwept_210 rfl hl (by decide) (fun w hw => by rcases hw with rfl | ⟨_, rfl⟩ <;> rfl) (fun ls hl => ?_)
  refine lv_iload_n hx hb dL_isSwept_211 rfl (lv_at hl 0 rfl) ?_
  refine lv_if_eq (tgt := 251) hx hb dL_isSwept_212 (by decide) (fun hc => ?_) (fun hc => ?_)
  · have hw := hw.1 hc
    refine lv_iconst (v := (0)) hx hb dL_isSwept_251 (by decide) ?_
    refine lv_topi (fun v1 ev1 => ?_)
    have hw := hw v1 ev1
    refine j_istore_nA (r := x1) (F := fun w => [(2, .int t0), (0, va_rf x0), (1, w), (3, .int x3), (4, .int x4), (8, .long x8)]) (F2 := fun w => [(2, .int v1), (0, va_rf x0), (1, w), (3, .int x3), (4, .int x4), (8, .long x8)]) hx hb dL_isSwept_252 rfl hl (by decide) (fun w hw => by rcases hw with rfl | ⟨_, rfl⟩ <;> rfl) (fun ls hl => ?_)
    obtain ⟨v2, ev2⟩ : ∃ y : Int32, y = x3 + (1 : Int32) := ⟨_, rfl⟩
    have hw := hw v2 ev2
    refine lv_iinc (v := v2) (lv' := [(3, .int v2), (2, .int v1), (0, va_rf x0), (1, va_rf x1), (4, .int x4), (8, .long x8)]) hx hb dL_isSwept_253 hl (k := 3) rfl (by rw [ev2]; rfl) (by decide) rfl (fun ls hl => ?_)
    refine lv_goto (tgt := 4) hx hb dL_isSwept_256 (by decide) ?_
    exact hK4 hw hI (lv_sub hl [2, 3, 1, 0] rfl) (by omega) (by omega)
  · have hw := hw.2 hc
    refine lv_iload hx hb dL_isSwept_215 (lv_at hl 4 rfl) ?_
    refine lv_iconst (v := (1)) hx hb dL_isSwept_217 (by decide) ?_
    refine lv_icmp_eq (tgt := 227) hx hb dL_isSwept_218 (by decide) (fun hc => ?_) (fun hc => ?_)
    · have hw := hw.1 hc
      exact kL_isSwept_227 hX hK4 hw hI (lv_sub hl [1, 2, 3, 5] rfl) (by omega) (by omega)
    · have hw := hw.2 hc
      refine lv_iload hx hb dL_isSwept_221 (lv_at hl 4 rfl) ?_
      refine lv_iconst (v := (3)) hx hb dL_isSwept_223 (by decide) ?_
      refine lv_icmp_ne (tgt := 247) hx hb dL_isSwept_224 (by decide) (fun hc => ?_) (fun hc => ?_)
      · have hw := hw.1 hc
        refine lv_iconst (v := (1)) hx hb dL_isSwept_247 (by decide) ?_
        refine lv_goto (tgt := 252) hx hb dL_isSwept_248 (by decide) ?_
        refine lv_topi (fun v3 ev3 => ?_)
        have hw := hw v3 ev3
        refine j_istore_nA (r := x1) (F := fun w => [(2, .int t0), (0, va_rf x0), (1, w), (3, .int x3), (4, .int x4), (8, .long x8)]) (F2 := fun w => [(2, .int v3), (0, va_rf x0), (1, w), (3, .int x3), (4, .int x4), (8, .long x8)]) hx hb dL_isSwept_252 rfl hl (by decide) (fun w hw => by rcases hw with rfl | ⟨_, rfl⟩ <;> rfl) (fun ls hl => ?_)
        obtain ⟨v4, ev4⟩ : ∃ y : Int32, y = x3 + (1 : Int32) := ⟨_, rfl⟩
        have hw := hw v4 ev4
        refine lv_iinc (v := v4) (lv' := [(3, .int v4), (2, .int v3), (0, va_rf x0), (1, va_rf x1), (4, .int x4), (8, .long x8)]) hx hb dL_isSwept_253 hl (k := 3) rfl (by rw [ev4]; rfl) (by decide) rfl (fun ls hl => ?_)
        refine lv_goto (tgt := 4) hx hb dL_isSwept_256 (by decide) ?_
        exact hK4 hw hI (lv_sub hl [2, 3, 1, 0] rfl) (by omega) (by omega)
      · have hw := hw.2 hc
        exact kL_isSwept_227 hX hK4 hw hI (lv_sub hl [1, 2, 3, 5] rfl) (by omega) (by omega)
set_option maxHeartbeats 4000000 in
set_option maxRecDepth 100000 in
theorem kL_isSwept_205 (hX : jX2 D z A p l s m args meth c yL_isSwept cL_isSwept 10 wsL_isSwept (some .boolean)) {Q : Int32 → jM → Prop} {K4 : Option Nat → Option Nat → Int32 → Int32 → jM → Prop} (hK4 : ∀ {x0 : Option Nat} {x1 : Option Nat} {x2 : Int32} {x3 : Int32} {μ : jM} {H : Heap} {locs : List Loc} {ls : Array Slot} {cells slots : Nat}, K4 x0 x1 x2 x3 μ → jIz D z A s.heap μ H locs → lv_has ls 10 [(0, va_rf x0), (1, va_rf x1), (2, .int x2), (3, .int x3)] → cells + 0 ≤ 0 → slots + 0 ≤ 0 → W p l e rmL_isSwept s m args below meth c H locs cells slots (MQ below (jRz jfI Q D z A) args s 0 0 A) (F0 m 4 ls [])) {x0 : Option Nat} {x1 : Option Nat} {x3 : Int32} {x4 : Int32} {x8 : Int64} {μ : jM} {H : Heap} {locs : List Loc} {ls : Array Slot} {cells slots : Nat} (hw : wL_isSwept_205 z K4 Q x0 x1 x3 x4 x8 μ) (hI : jIz D z A s.heap μ H locs) (hl : lv_has ls 10 [(0, va_rf x0), (1, va_rf x1), (3, .int x3), (4, .int x4), (8, .long x8)]) (hcn : cells + 0 ≤ 0) (hsn : slots + 0 ≤ 0) : W p l e rmL_isSwept s m args below meth c H locs cells slots (MQ below (jRz jfI Q D z A) args s 0 0 A) (F0 m 205 ls []) := by
  unfold wL_isSwept_205 at hw
  obtain ⟨hx, hb, hml, hown, hts, hr, hlocks, hnm, hK, hG, hfl⟩ := id hX
  have hown : s.vm.findClass RL = some m.cls := hown
  refine lv_iconst (v := (1)) hx hb dL_isSwept_205 (by decide) ?_
  refine lv_goto (tgt := 210) hx hb dL_isSwept_206 (by decide) ?_
  exact kL_isSwept_210 hX hK4 hw hI (lv_sub hl [0, 1, 2, 3, 4] rfl) (by omega) (by omega)
set_option maxHeartbeats 4000000 in
set_option maxRecDepth 100000 in
theorem kL_isSwept_209 (hX : jX2 D z A p l s m args meth c yL_isSwept cL_isSwept 10 wsL_isSwept (some .boolean)) {Q : Int32 → jM → Prop} {K4 : Option Nat → Option Nat → Int32 → Int32 → jM → Prop} (hK4 : ∀ {x0 : Option Nat} {x1 : Option Nat} {x2 : Int32} {x3 : Int32} {μ : jM} {H : Heap} {locs : List Loc} {ls : Array Slot} {cells slots : Nat}, K4 x0 x1 x2 x3 μ → jIz D z A s.heap μ H locs → lv_has ls 10 [(0, va_rf x0), (1, va_rf x1), (2, .int x2), (3, .int x3)] → cells + 0 ≤ 0 → slots + 0 ≤ 0 → W p l e rmL_isSwept s m args below meth c H locs cells slots (MQ below (jRz jfI Q D z A) args s 0 0 A) (F0 m 4 ls [])) {x0 : Option Nat} {x1 : Option Nat} {x3 : Int32} {x4 : Int32} {x8 : Int64} {μ : jM} {H : Heap} {locs : List Loc} {ls : Array Slot} {cells slots : Nat} (hw : wL_isSwept_209 z K4 Q x0 x1 x3 x4 x8 μ) (hI : jIz D z A s.heap μ H locs) (hl : lv_has ls 10 [(0, va_rf x0), (1, va_rf x1), (3, .int x3), (4, .int x4), (8, .long x8)]) (hcn : cells + 0 ≤ 0) (hsn : slots + 0 ≤ 0) : W p l e rmL_isSwept s m args below meth c H locs cells slots (MQ below (jRz jfI Q D z A) args s 0 0 A) (F0 m 209 ls []) := by
  unfold wL_isSwept_209 at hw
  obtain ⟨hx, hb, hml, hown, hts, hr, hlocks, hnm, hK, hG, hfl⟩ := id hX
  have hown : s.vm.findClass RL = some m.cls := hown
  refine lv_iconst (v := (0)) hx hb dL_isSwept_209 (by decide) ?_
  exact kL_isSwept_210 hX hK4 hw hI (lv_sub hl [0, 1, 2, 3, 4] rfl) (by omega) (by omega)
set_option maxHeartbeats 4000000 in
set_option maxRecDepth 100000 in
theorem kL_isSwept_181 (hX : jX2 D z A p l s m args meth c yL_isSwept cL_isSwept 10 wsL_isSwept (some .boolean)) {Q : Int32 → jM → Prop} {K4 : Option Nat → Option Nat → Int32 → Int32 → jM → Prop} (hK4 : ∀ {x0 : Option Nat} {x1 : Option Nat} {x2 : Int32} {x3 : Int32} {μ : jM} {H : Heap} {locs : List Loc} {ls : Array Slot} {cells slots : Nat}, K4 x0 x1 x2 x3 μ → jIz D z A s.heap μ H locs → lv_has ls 10 [(0, va_rf x0), (1, va_rf x1), (2, .int x2), (3, .int x3)] → cells + 0 ≤ 0 → slots + 0 ≤ 0 → W p l e rmL_isSwept s m args below meth c H locs cells slots (MQ below (jRz jfI Q D z A) args s 0 0 A) (F0 m 4 ls [])) {x0 : Option Nat} {x1 : Option Nat} {x3 : Int32} {x4 : Int32} {x5 : Int64} {x8 : Int64} {μ : jM} {H : Heap} {locs : List Loc} {ls : Array Slot} {cells slots : Nat} (hw : wL_isSwept_181 z K4 Q x0 x1 x3 x4 x5 x8 μ) (hI : jIz D z A s.heap μ H locs) (hl : lv_has ls 10 [(0, va_rf x0), (1, va_rf x1), (3, .int x3), (4, .int x4), (5, .long x5), (8, .long x8)]) (hcn : cells + 0 ≤ 0) (hsn : slots + 0 ≤ 0) : W p l e rmL_isSwept s m args below meth c H locs cells slots (MQ below (jRz jfI Q D z A) args s 0 0 A) (F0 m 181 ls []) := by
  unfold wL_isSwept_181 at hw
  obtain ⟨hx, hb, hml, hown, hts, hr, hlocks, hnm, hK, hG, hfl⟩ := id hX
  have hown : s.vm.findClass RL = some m.cls := hown
  refine lv_iload hx hb dL_isSwept_181 (lv_at hl 3 rfl) ?_
  refine lv_iconst (v := (3)) hx hb dL_isSwept_183 (by decide) ?_
  refine lv_icmp_ne (tgt := 205) hx hb dL_isSwept_184 (by decide) (fun hc => ?_) (fun hc => ?_)
  · have hw := hw.1 hc
    exact kL_isSwept_205 hX hK4 hw hI (lv_sub hl [0, 1, 2, 3, 5] rfl) (by omega) (by omega)
  · have hw := hw.2 hc
    refine lv_lload hx hb dL_isSwept_187 (lv_at hl 5 rfl) ?_
    refine lv_lconst (v := (0)) hx hb dL_isSwept_189 (by decide) ?_
    refine j_lcmp_le (tgt := 205) hx hb dL_isSwept_190 dL_isSwept_191 (by decide) (fun hc => ?_) (fun hc => ?_)
    · have hw := hw.1 hc
      exact kL_isSwept_205 hX hK4 hw hI (lv_sub hl [0, 1, 2, 3, 5] rfl) (by omega) (by omega)
    · have hw := hw.2 hc
      refine lv_lload hx hb dL_isSwept_194 (lv_at hl 4 rfl) ?_
      refine j_aload_n (r := x0) hx hb dL_isSwept_196 rfl (lv_at hl 0 rfl) ?_
      refine lv_iload_n hx hb dL_isSwept_197 rfl (lv_at hl 2 rfl) ?_
      obtain ⟨b3, ⟨hrb3, hfs⟩, hw⟩ := hw
      refine j_goz hI (va_runV (As := [.int x3]) (rest := [.long x5]) ⟨hx, hb, hml, hown, hts⟩ (kX9_balance l hfl D z b3 x3 μ H.size _) (cwV 1 hts gL_isSwept_X9_balance rfl rfl rfl (by decide +kernel) ⟨Nat.le_of_ble_eq_true rfl, Nat.le_of_ble_eq_true rfl⟩) (j_prV2z hK hG hI hw (ci := 11) rfl hfs) rfl rfl hl.1 (by rw [hrb3]; rfl) (lv_room (Nat.le_of_ble_eq_true rfl)) dL_isSwept_198 ⟨by show _ ≤ 0; omega, by show _ ≤ 0; omega⟩) (fun v1 μ2 H locs hw hI => ?_)
      refine W.eq (g2 := F0 m 201 ls [.long v1, .long x5]) rfl ?_
      refine j_lcmp_ne (tgt := 209) hx hb dL_isSwept_201 dL_isSwept_202 (by decide) (fun hc => ?_) (fun hc => ?_)
      · have hw := hw.1 hc
        exact kL_isSwept_209 hX hK4 hw hI (lv_sub hl [0, 1, 2, 3, 5] rfl) (by omega) (by omega)
      · have hw := hw.2 hc
        exact kL_isSwept_205 hX hK4 hw hI (lv_sub hl [0, 1, 2, 3, 5] rfl) (by omega) (by omega)
set_option maxHeartbeats 4000000 in
set_option maxRecDepth 100000 in
theorem kL_isSwept_150 (hX : jX2 D z A p l s m args meth c yL_isSwept cL_isSwept 10 wsL_isSwept (some .boolean)) {Q : Int32 → jM → Prop} {K4 : Option Nat → Option Nat → Int32 → Int32 → jM → Prop} (hK4 : ∀ {x0 : Option Nat} {x1 : Option Nat} {x2 : Int32} {x3 : Int32} {μ : jM} {H : Heap} {locs : List Loc} {ls : Array Slot} {cells slots : Nat}, K4 x0 x1 x2 x3 μ → jIz D z A s.heap μ H locs → lv_has ls 10 [(0, va_rf x0), (1, va_rf x1), (2, .int x2), (3, .int x3)] → cells + 0 ≤ 0 → slots + 0 ≤ 0 → W p l e rmL_isSwept s m args below meth c H locs cells slots (MQ below (jRz jfI Q D z A) args s 0 0 A) (F0 m 4 ls [])) {x0 : Option Nat} {x1 : Option Nat} {x3 : Int32} {x4 : Int32} {x5 : Int64} {x8 : Int64} {μ : jM} {H : Heap} {locs : List Loc} {ls : Array Slot} {cells slots : Nat} (hw : wL_isSwept_150 z K4 Q x0 x1 x3 x4 x5 x8 μ) (hI : jIz D z A s.heap μ H locs) (hl : lv_has ls 10 [(0, va_rf x0), (1, va_rf x1), (3, .int x3), (4, .int x4), (5, .long x5), (8, .long x8)]) (hcn : cells + 0 ≤ 0) (hsn : slots + 0 ≤ 0) : W p l e rmL_isSwept s m args below meth c H locs cells slots (MQ below (jRz jfI Q D z A) args s 0 0 A) (F0 m 150 ls []) := by
  unfold wL_isSwept_150 at hw
  obtain ⟨hx, hb, hml, hown, hts, hr, hlocks, hnm, hK, hG, hfl⟩ := id hX
  have hown : s.vm.findClass RL = some m.cls := hown
  refine lv_lload hx hb dL_isSwept_150 (lv_at hl 4 rfl) ?_
  refine j_aload_n (r := x0) hx hb dL_isSwept_152 rfl (lv_at hl 0 rfl) ?_
  refine lv_iload_n hx hb dL_isSwept_153 rfl (lv_at hl 2 rfl) ?_
  obtain ⟨b3, ⟨hrb3, hfs⟩, hw⟩ := hw
  refine j_goz hI (va_runV (As := [.int x3]) (rest := [.long x5]) ⟨hx, hb, hml, hown, hts⟩ (kX9_balance l hfl D z b3 x3 μ H.size _) (cwV 1 hts gL_isSwept_X9_balance rfl rfl rfl (by decide +kernel) ⟨Nat.le_of_ble_eq_true rfl, Nat.le_of_ble_eq_true rfl⟩) (j_prV2z hK hG hI hw (ci := 11) rfl hfs) rfl rfl hl.1 (by rw [hrb3]; rfl) (lv_room (Nat.le_of_ble_eq_true rfl)) dL_isSwept_154 ⟨by show _ ≤ 0; omega, by show _ ≤ 0; omega⟩) (fun v1 μ2 H locs hw hI => ?_)
  refine W.eq (g2 := F0 m 157 ls [.long v1, .long x5]) rfl ?_
  refine j_lcmp_gt (tgt := 209) hx hb dL_isSwept_157 dL_isSwept_158 (by decide) (fun hc => ?_) (fun hc => ?_)
  · have hw := hw.1 hc
    exact kL_isSwept_209 hX hK4 hw hI (lv_sub hl [0, 1, 2, 3, 5] rfl) (by omega) (by omega)
  · have hw := hw.2 hc
    refine lv_goto (tgt := 181) hx hb dL_isSwept_161 (by decide) ?_
    exact kL_isSwept_181 hX hK4 hw hI (lv_sub hl [0, 1, 2, 3, 4, 5] rfl) (by omega) (by omega)
set_option maxHeartbeats 4000000 in
set_option maxRecDepth 100000 in
theorem kL_isSwept_139 (hX : jX2 D z A p l s m args meth c yL_isSwept cL_isSwept 10 wsL_isSwept (some .boolean)) {Q : Int32 → jM → Prop} {K4 : Option Nat → Option Nat → Int32 → Int32 → jM → Prop} (hK4 : ∀ {x0 : Option Nat} {x1 : Option Nat} {x2 : Int32} {x3 : Int32} {μ : jM} {H : Heap} {locs : List Loc} {ls : Array Slot} {cells slots : Nat}, K4 x0 x1 x2 x3 μ → jIz D z A s.heap μ H locs → lv_has ls 10 [(0, va_rf x0), (1, va_rf x1), (2, .int x2), (3, .int x3)] → cells + 0 ≤ 0 → slots + 0 ≤ 0 → W p l e rmL_isSwept s m args below meth c H locs cells slots (MQ below (jRz jfI Q D z A) args s 0 0 A) (F0 m 4 ls [])) {x0 : Option Nat} {x1 : Option Nat} {x3 : Int32} {x4 : Int32} {x5 : Int64} {x8 : Int64} {μ : jM} {H : Heap} {locs : List Loc} {ls : Array Slot} {cells slots : Nat} (hw : wL_isSwept_139 z K4 Q x0 x1 x3 x4 x5 x8 μ) (hI : jIz D z A s.heap μ H locs) (hl : lv_has ls 10 [(0, va_rf x0), (1, va_rf x1), (3, .int x3), (4, .int x4), (5, .long x5), (8, .long x8)]) (hcn : cells + 0 ≤ 0) (hsn : slots + 0 ≤ 0) : W p l e rmL_isSwept s m args below meth c H locs cells slots (MQ below (jRz jfI Q D z A) args s 0 0 A) (F0 m 139 ls []) := by
  unfold wL_isSwept_139 at hw
  obtain ⟨hx, hb, hml, hown, hts, hr, hlocks, hnm, hK, hG, hfl⟩ := id hX
  have hown : s.vm.findClass RL = some m.cls := hown
  refine lv_iload hx hb dL_isSwept_139 (lv_at hl 3 rfl) ?_
  refine lv_iconst (v := (2)) hx hb dL_isSwept_141 (by decide) ?_
  refine lv_icmp_eq (tgt := 150) hx hb dL_isSwept_142 (by decide) (fun hc => ?_) (fun hc => ?_)
  · have hw := hw.1 hc
    exact kL_isSwept_150 hX hK4 hw hI (lv_sub hl [0, 1, 2, 3, 4, 5] rfl) (by omega) (by omega)
  · have hw := hw.2 hc
    refine lv_iload hx hb dL_isSwept_145 (lv_at hl 3 rfl) ?_
    refine lv_if_ne (tgt := 164) hx hb dL_isSwept_147 (by decide) (fun hc => ?_) (fun hc => ?_)
    · have hw := hw.1 hc
      refine lv_iload hx hb dL_isSwept_164 (lv_at hl 3 rfl) ?_
      refine lv_iconst (v := (1)) hx hb dL_isSwept_166 (by decide) ?_
      refine lv_icmp_eq (tgt := 181) hx hb dL_isSwept_167 (by decide) (fun hc => ?_) (fun hc => ?_)
      · have hw := hw.1 hc
        exact kL_isSwept_181 hX hK4 hw hI (lv_sub hl [0, 1, 2, 3, 4, 5] rfl) (by omega) (by omega)
      · have hw := hw.2 hc
        refine lv_lload hx hb dL_isSwept_170 (lv_at hl 4 rfl) ?_
        refine j_aload_n (r := x0) hx hb dL_isSwept_172 rfl (lv_at hl 0 rfl) ?_
        refine lv_iload_n hx hb dL_isSwept_173 rfl (lv_at hl 2 rfl) ?_
        obtain ⟨b3, ⟨hrb3, hfs⟩, hw⟩ := hw
        refine j_goz hI (va_runV (As := [.int x3]) (rest := [.long x5]) ⟨hx, hb, hml, hown, hts⟩ (kX9_balance l hfl D z b3 x3 μ H.size _) (cwV 1 hts gL_isSwept_X9_balance rfl rfl rfl (by decide +kernel) ⟨Nat.le_of_ble_eq_true rfl, Nat.le_of_ble_eq_true rfl⟩) (j_prV2z hK hG hI hw (ci := 11) rfl hfs) rfl rfl hl.1 (by rw [hrb3]; rfl) (lv_room (Nat.le_of_ble_eq_true rfl)) dL_isSwept_174 ⟨by show _ ≤ 0; omega, by show _ ≤ 0; omega⟩) (fun v1 μ2 H locs hw hI => ?_)
        refine W.eq (g2 := F0 m 177 ls [.long v1, .long x5]) rfl ?_
        refine j_lcmp_lt (tgt := 209) hx hb dL_isSwept_177 dL_isSwept_178 (by decide) (fun hc => ?_) (fun hc => ?_)
        · have hw := hw.1 hc
          exact kL_isSwept_209 hX hK4 hw hI (lv_sub hl [0, 1, 2, 3, 5] rfl) (by omega) (by omega)
        · have hw := hw.2 hc
          exact kL_isSwept_181 hX hK4 hw hI (lv_sub hl [0, 1, 2, 3, 4, 5] rfl) (by omega) (by omega)
    · have hw := hw.2 hc
      exact kL_isSwept_150 hX hK4 hw hI (lv_sub hl [0, 1, 2, 3, 4, 5] rfl) (by omega) (by omega)
set_option maxHeartbeats 4000000 in
set_option maxRecDepth 100000 in
theorem kL_isSwept_113 (hX : jX2 D z A p l s m args meth c yL_isSwept cL_isSwept 10 wsL_isSwept (some .boolean)) {Q : Int32 → jM → Prop} {K4 : Option Nat → Option Nat → Int32 → Int32 → jM → Prop} (hK4 : ∀ {x0 : Option Nat} {x1 : Option Nat} {x2 : Int32} {x3 : Int32} {μ : jM} {H : Heap} {locs : List Loc} {ls : Array Slot} {cells slots : Nat}, K4 x0 x1 x2 x3 μ → jIz D z A s.heap μ H locs → lv_has ls 10 [(0, va_rf x0), (1, va_rf x1), (2, .int x2), (3, .int x3)] → cells + 0 ≤ 0 → slots + 0 ≤ 0 → W p l e rmL_isSwept s m args below meth c H locs cells slots (MQ below (jRz jfI Q D z A) args s 0 0 A) (F0 m 4 ls [])) {x0 : Option Nat} {x1 : Option Nat} {x3 : Int32} {x4 : Int32} {x5 : Int64} {x8 : Int64} {μ : jM} {H : Heap} {locs : List Loc} {ls : Array Slot} {cells slots : Nat} (hw : wL_isSwept_113 z K4 Q x0 x1 x3 x4 x5 x8 μ) (hI : jIz D z A s.heap μ H locs) (hl : lv_has ls 10 [(0, va_rf x0), (1, va_rf x1), (3, .int x3), (4, .int x4), (5, .long x5), (8, .long x8)]) (hcn : cells + 0 ≤ 0) (hsn : slots + 0 ≤ 0) : W p l e rmL_isSwept s m args below meth c H locs cells slots (MQ below (jRz jfI Q D z A) args s 0 0 A) (F0 m 113 ls []) := by
  unfold wL_isSwept_113 at hw
  obtain ⟨hx, hb, hml, hown, hts, hr, hlocks, hnm, hK, hG, hfl⟩ := id hX
  have hown : s.vm.findClass RL = some m.cls := hown
  refine lv_lload hx hb dL_isSwept_113 (lv_at hl 5 rfl) ?_
  refine lv_lconst (v := (0)) hx hb dL_isSwept_115 (by decide) ?_
  refine j_lcmp_gt (tgt := 209) hx hb dL_isSwept_116 dL_isSwept_117 (by decide) (fun hc => ?_) (fun hc => ?_)
  · have hw := hw.1 hc
    exact kL_isSwept_209 hX hK4 hw hI (lv_sub hl [0, 1, 2, 3, 5] rfl) (by omega) (by omega)
  · have hw := hw.2 hc
    refine lv_goto (tgt := 139) hx hb dL_isSwept_120 (by decide) ?_
    exact kL_isSwept_139 hX hK4 hw hI (lv_sub hl [0, 1, 2, 3, 4, 5] rfl) (by omega) (by omega)
set_option maxHeartbeats 4000000 in
set_option maxRecDepth 100000 in
theorem kL_isSwept_34 (hX : jX2 D z A p l s m args meth c yL_isSwept cL_isSwept 10 wsL_isSwept (some .boolean)) {Q : Int32 → jM → Prop} {K4 : Option Nat → Option Nat → Int32 → Int32 → jM → Prop} (hK4 : ∀ {x0 : Option Nat} {x1 : Option Nat} {x2 : Int32} {x3 : Int32} {μ : jM} {H : Heap} {locs : List Loc} {ls : Array Slot} {cells slots : Nat}, K4 x0 x1 x2 x3 μ → jIz D z A s.heap μ H locs → lv_has ls 10 [(0, va_rf x0), (1, va_rf x1), (2, .int x2), (3, .int x3)] → cells + 0 ≤ 0 → slots + 0 ≤ 0 → W p l e rmL_isSwept s m args below meth c H locs cells slots (MQ below (jRz jfI Q D z A) args s 0 0 A) (F0 m 4 ls [])) (n : Nat) : ∀ {x0 : Option Nat} {x1 : Option Nat} {x2 : Int32} {x3 : Int32} {x4 : Int32} {x5 : Int64} {x7 : Int32} {x8 : Int32} {μ : jM} {H : Heap} {locs : List Loc} {ls : Array Slot} {cells slots : Nat}, wL_isSwept_34 z K4 Q n x0 x1 x2 x3 x4 x5 x7 x8 μ → jIz D z A s.heap μ H locs → lv_has ls 10 [(0, va_rf x0), (1, va_rf x1), (2, .int x2), (3, .int x3), (4, .int x4), (5, .long x5), (7, .int x7), (8, .int x8)] → cells + 0 ≤ 0 → slots + 0 ≤ 0 → W p l e rmL_isSwept s m args below meth c H locs cells slots (MQ below (jRz jfI Q D z A) args s 0 0 A) (F0 m 34 ls []) := by
  induction n with
  | zero =>
    intros
    rename_i hw _ _ _ _
    exact (show False from hw).elim
  | succ n ih =>
    intro x0 x1 x2 x3 x4 x5 x7 x8 μ H locs ls cells slots hw hI hl hcn hsn
    have hw : wL_isSwept_34_b z K4 Q (wL_isSwept_34 z K4 Q n) x0 x1 x2 x3 x4 x5 x7 x8 μ := hw
    unfold wL_isSwept_34_b at hw
    obtain ⟨hx, hb, hml, hown, hts, hr, hlocks, hnm, hK, hG, hfl⟩ := id hX
    have hown : s.vm.findClass RL = some m.cls := hown
    refine lv_iload hx hb dL_isSwept_34 (lv_at hl 7 rfl) ?_
    refine j_aload_n (r := x1) hx hb dL_isSwept_36 rfl (lv_at hl 1 rfl) ?_
    refine lv_iconst (v := (0)) hx hb dL_isSwept_37 (by decide) ?_
    obtain ⟨v1, hv1, hw⟩ := hw
    refine j_ialdz (r := x1) hx hb hK hI hv1 dL_isSwept_38 ?_
    refine lv_icmp_ge (tgt := 70) hx hb dL_isSwept_39 (by decide) (fun hc => ?_) (fun hc => ?_)
    · have hw := hw.1 hc
      refine j_aload_n (r := x1) hx hb dL_isSwept_70 rfl (lv_at hl 1 rfl) ?_
      refine lv_iload_n hx hb dL_isSwept_71 rfl (lv_at hl 3 rfl) ?_
      refine j_goz hI (va_runS (As := [va_rf x1, .int x3]) (rest := []) ⟨hx, hb, hml, hown, hts⟩ (kL_parent l hfl D z x1 x3 μ H.size _) (va_cwS 2 hts gL_isSwept_L_parent rfl rfl rfl (by decide +kernel) ⟨Nat.le_of_ble_eq_true rfl, Nat.le_of_ble_eq_true rfl⟩) (j_prS2z hK hG hI hw) rfl rfl hl.1 rfl (lv_room (Nat.le_of_ble_eq_true rfl)) dL_isSwept_72 ⟨by show _ ≤ 0; omega, by show _ ≤ 0; omega⟩) (fun v2 μ3 H locs hw hI => ?_)
      refine W.eq (g2 := F0 m 75 ls [.int v2]) rfl ?_
      refine lv_if_lt (tgt := 253) hx hb dL_isSwept_75 (by decide) (fun hc => ?_) (fun hc => ?_)
      · have hw := hw.1 hc
        obtain ⟨v4, ev4⟩ : ∃ y : Int32, y = x3 + (1 : Int32) := ⟨_, rfl⟩
        have hw := hw v4 ev4
        refine lv_iinc (v := v4) (lv' := [(3, .int v4), (0, va_rf x0), (1, va_rf x1), (2, .int x2), (4, .int x4), (5, .long x5), (7, .int x7), (8, .int x8)]) hx hb dL_isSwept_253 hl (k := 3) rfl (by rw [ev4]; rfl) (by decide) rfl (fun ls hl => ?_)
        refine lv_goto (tgt := 4) hx hb dL_isSwept_256 (by decide) ?_
        exact hK4 hw hI (lv_sub hl [1, 2, 3, 0] rfl) (by omega) (by omega)
      · have hw := hw.2 hc
        refine lv_iload hx hb dL_isSwept_78 (lv_at hl 6 rfl) ?_
        refine lv_if_ne (tgt := 253) hx hb dL_isSwept_80 (by decide) (fun hc => ?_) (fun hc => ?_)
        · have hw := hw.1 hc
          obtain ⟨v5, ev5⟩ : ∃ y : Int32, y = x3 + (1 : Int32) := ⟨_, rfl⟩
          have hw := hw v5 ev5
          refine lv_iinc (v := v5) (lv' := [(3, .int v5), (0, va_rf x0), (1, va_rf x1), (2, .int x2), (4, .int x4), (5, .long x5), (7, .int x7), (8, .int x8)]) hx hb dL_isSwept_253 hl (k := 3) rfl (by rw [ev5]; rfl) (by decide) rfl (fun ls hl => ?_)
          refine lv_goto (tgt := 4) hx hb dL_isSwept_256 (by decide) ?_
          exact hK4 hw hI (lv_sub hl [1, 2, 3, 0] rfl) (by omega) (by omega)
        · have hw := hw.2 hc
          refine lv_lload hx hb dL_isSwept_83 (lv_at hl 5 rfl) ?_
          refine j_aload_n (r := x1) hx hb dL_isSwept_85 rfl (lv_at hl 1 rfl) ?_
          refine lv_iconst (v := (3)) hx hb dL_isSwept_86 (by decide) ?_
          refine lv_iload_n hx hb dL_isSwept_87 rfl (lv_at hl 3 rfl) ?_
          refine lv_imul hx hb dL_isSwept_88 ?_
          refine lv_bipush (v := (35)) hx hb dL_isSwept_89 (by decide) ?_
          refine lv_iadd hx hb dL_isSwept_91 ?_
          obtain ⟨v6, hv6, hw⟩ := hw
          refine j_ialdz (r := x1) hx hb hK hI hv6 dL_isSwept_92 ?_
          refine lv_i2l hx hb dL_isSwept_93 rfl ?_
          refine lv_lsub hx hb dL_isSwept_94 ?_
          refine lv_topl (fun v7 ev7 => ?_)
          have hw := hw v7 ev7
          refine lv_lstore (lv' := [(8, .long v7), (0, va_rf x0), (1, va_rf x1), (2, .int x2), (3, .int x3), (4, .int x4), (5, .long x5), (7, .int x7)]) hx hb dL_isSwept_95 hl (by decide) rfl (fun ls hl => ?_)
          refine lv_iload_n hx hb dL_isSwept_97 rfl (lv_at hl 3 rfl) ?_
          refine lv_if_eq (tgt := 209) hx hb dL_isSwept_98 (by decide) (fun hc => ?_) (fun hc => ?_)
          · have hw := hw.1 hc
            exact kL_isSwept_209 hX hK4 hw hI (lv_sub hl [1, 2, 4, 5, 0] rfl) (by omega) (by omega)
          · have hw := hw.2 hc
            refine lv_iload hx hb dL_isSwept_101 (lv_at hl 5 rfl) ?_
            refine lv_iconst (v := (1)) hx hb dL_isSwept_103 (by decide) ?_
            refine lv_icmp_eq (tgt := 113) hx hb dL_isSwept_104 (by decide) (fun hc => ?_) (fun hc => ?_)
            · have hw := hw.1 hc
              exact kL_isSwept_113 hX hK4 hw hI (lv_sub hl [1, 2, 4, 5, 6, 0] rfl) (by omega) (by omega)
            · have hw := hw.2 hc
              refine lv_iload hx hb dL_isSwept_107 (lv_at hl 5 rfl) ?_
              refine lv_iconst (v := (2)) hx hb dL_isSwept_109 (by decide) ?_
              refine lv_icmp_ne (tgt := 123) hx hb dL_isSwept_110 (by decide) (fun hc => ?_) (fun hc => ?_)
              · have hw := hw.1 hc
                refine lv_iload hx hb dL_isSwept_123 (lv_at hl 5 rfl) ?_
                refine lv_if_ne (tgt := 139) hx hb dL_isSwept_125 (by decide) (fun hc => ?_) (fun hc => ?_)
                · have hw := hw.1 hc
                  exact kL_isSwept_139 hX hK4 hw hI (lv_sub hl [1, 2, 4, 5, 6, 0] rfl) (by omega) (by omega)
                · have hw := hw.2 hc
                  refine lv_lload hx hb dL_isSwept_128 (lv_at hl 6 rfl) ?_
                  refine j_aload_n (r := x0) hx hb dL_isSwept_130 rfl (lv_at hl 1 rfl) ?_
                  refine lv_iload_n hx hb dL_isSwept_131 rfl (lv_at hl 4 rfl) ?_
                  obtain ⟨b10, ⟨hrb10, hfs⟩, hw⟩ := hw
                  refine j_goz hI (va_runV (As := [.int x3]) (rest := [.long x5]) ⟨hx, hb, hml, hown, hts⟩ (kX9_balance l hfl D z b10 x3 μ3 H.size _) (cwV 1 hts gL_isSwept_X9_balance rfl rfl rfl (by decide +kernel) ⟨Nat.le_of_ble_eq_true rfl, Nat.le_of_ble_eq_true rfl⟩) (j_prV2z hK hG hI hw (ci := 11) rfl hfs) rfl rfl hl.1 (by rw [hrb10]; rfl) (lv_room (Nat.le_of_ble_eq_true rfl)) dL_isSwept_132 ⟨by show _ ≤ 0; omega, by show _ ≤ 0; omega⟩) (fun v8 μ9 H locs hw hI => ?_)
                  refine W.eq (g2 := F0 m 135 ls [.long v8, .long x5]) rfl ?_
                  refine j_lcmp_ne (tgt := 209) hx hb dL_isSwept_135 dL_isSwept_136 (by decide) (fun hc => ?_) (fun hc => ?_)
                  · have hw := hw.1 hc
                    exact kL_isSwept_209 hX hK4 hw hI (lv_sub hl [1, 2, 4, 5, 0] rfl) (by omega) (by omega)
                  · have hw := hw.2 hc
                    exact kL_isSwept_139 hX hK4 hw hI (lv_sub hl [1, 2, 4, 5, 6, 0] rfl) (by omega) (by omega)
              · have hw := hw.2 hc
                exact kL_isSwept_113 hX hK4 hw hI (lv_sub hl [1, 2, 4, 5, 6, 0] rfl) (by omega) (by omega)
    · have hw := hw.2 hc
      refine lv_iload hx hb dL_isSwept_42 (lv_at hl 6 rfl) ?_
      refine lv_if_ne (tgt := 57) hx hb dL_isSwept_44 (by decide) (fun hc => ?_) (fun hc => ?_)
      · have hw := hw.1 hc
        refine lv_iconst (v := (1)) hx hb dL_isSwept_57 (by decide) ?_
        refine lv_goto (tgt := 62) hx hb dL_isSwept_58 (by decide) ?_
        refine lv_topi (fun v11 ev11 => ?_)
        have hw := hw v11 ev11
        refine lv_istore (lv' := [(7, .int v11), (0, va_rf x0), (1, va_rf x1), (2, .int x2), (3, .int x3), (4, .int x4), (5, .long x5), (8, .int x8)]) hx hb dL_isSwept_62 hl (by decide) rfl (fun ls hl => ?_)
        obtain ⟨v12, ev12⟩ : ∃ y : Int32, y = x8 + (1 : Int32) := ⟨_, rfl⟩
        have hw := hw v12 ev12
        refine lv_iinc (v := v12) (lv' := [(8, .int v12), (7, .int v11), (0, va_rf x0), (1, va_rf x1), (2, .int x2), (3, .int x3), (4, .int x4), (5, .long x5)]) hx hb dL_isSwept_64 hl (k := 7) rfl (by rw [ev12]; rfl) (by decide) rfl (fun ls hl => ?_)
        refine lv_goto (tgt := 34) hx hb dL_isSwept_67 (by decide) ?_
        exact ih hw hI (lv_sub hl [2, 3, 4, 5, 6, 7, 1, 0] rfl) (by omega) (by omega)
      · have hw := hw.2 hc
        refine j_aload_n (r := x1) hx hb dL_isSwept_47 rfl (lv_at hl 1 rfl) ?_
        refine lv_iload hx hb dL_isSwept_48 (lv_at hl 7 rfl) ?_
        refine j_goz hI (va_runS (As := [va_rf x1, .int x8]) (rest := []) ⟨hx, hb, hml, hown, hts⟩ (kL_parent l hfl D z x1 x8 μ H.size _) (va_cwS 2 hts gL_isSwept_L_parent rfl rfl rfl (by decide +kernel) ⟨Nat.le_of_ble_eq_true rfl, Nat.le_of_ble_eq_true rfl⟩) (j_prS2z hK hG hI hw) rfl rfl hl.1 rfl (lv_room (Nat.le_of_ble_eq_true rfl)) dL_isSwept_50 ⟨by show _ ≤ 0; omega, by show _ ≤ 0; omega⟩) (fun v13 μ14 H locs hw hI => ?_)
        refine W.eq (g2 := F0 m 53 ls [.int v13]) rfl ?_
        refine lv_iload_n hx hb dL_isSwept_53 rfl (lv_at hl 3 rfl) ?_
        refine lv_icmp_ne (tgt := 61) hx hb dL_isSwept_54 (by decide) (fun hc => ?_) (fun hc => ?_)
        · have hw := hw.1 hc
          refine lv_iconst (v := (0)) hx hb dL_isSwept_61 (by decide) ?_
          refine lv_topi (fun v15 ev15 => ?_)
          have hw := hw v15 ev15
          refine lv_istore (lv' := [(7, .int v15), (0, va_rf x0), (1, va_rf x1), (2, .int x2), (3, .int x3), (4, .int x4), (5, .long x5), (8, .int x8)]) hx hb dL_isSwept_62 hl (by decide) rfl (fun ls hl => ?_)
          obtain ⟨v16, ev16⟩ : ∃ y : Int32, y = x8 + (1 : Int32) := ⟨_, rfl⟩
          have hw := hw v16 ev16
          refine lv_iinc (v := v16) (lv' := [(8, .int v16), (7, .int v15), (0, va_rf x0), (1, va_rf x1), (2, .int x2), (3, .int x3), (4, .int x4), (5, .long x5)]) hx hb dL_isSwept_64 hl (k := 7) rfl (by rw [ev16]; rfl) (by decide) rfl (fun ls hl => ?_)
          refine lv_goto (tgt := 34) hx hb dL_isSwept_67 (by decide) ?_
          exact ih hw hI (lv_sub hl [2, 3, 4, 5, 6, 7, 1, 0] rfl) (by omega) (by omega)
        · have hw := hw.2 hc
          refine lv_iconst (v := (1)) hx hb dL_isSwept_57 (by decide) ?_
          refine lv_goto (tgt := 62) hx hb dL_isSwept_58 (by decide) ?_
          refine lv_topi (fun v17 ev17 => ?_)
          have hw := hw v17 ev17
          refine lv_istore (lv' := [(7, .int v17), (0, va_rf x0), (1, va_rf x1), (2, .int x2), (3, .int x3), (4, .int x4), (5, .long x5), (8, .int x8)]) hx hb dL_isSwept_62 hl (by decide) rfl (fun ls hl => ?_)
          obtain ⟨v18, ev18⟩ : ∃ y : Int32, y = x8 + (1 : Int32) := ⟨_, rfl⟩
          have hw := hw v18 ev18
          refine lv_iinc (v := v18) (lv' := [(8, .int v18), (7, .int v17), (0, va_rf x0), (1, va_rf x1), (2, .int x2), (3, .int x3), (4, .int x4), (5, .long x5)]) hx hb dL_isSwept_64 hl (k := 7) rfl (by rw [ev18]; rfl) (by decide) rfl (fun ls hl => ?_)
          refine lv_goto (tgt := 34) hx hb dL_isSwept_67 (by decide) ?_
          exact ih hw hI (lv_sub hl [2, 3, 4, 5, 6, 7, 1, 0] rfl) (by omega) (by omega)
set_option maxHeartbeats 4000000 in
set_option maxRecDepth 100000 in
theorem kL_isSwept_4 (hX : jX2 D z A p l s m args meth c yL_isSwept cL_isSwept 10 wsL_isSwept (some .boolean)) {Q : Int32 → jM → Prop}  (n : Nat) : ∀ {x0 : Option Nat} {x1 : Option Nat} {x2 : Int32} {x3 : Int32} {μ : jM} {H : Heap} {locs : List Loc} {ls : Array Slot} {cells slots : Nat}, wL_isSwept_4 z Q n x0 x1 x2 x3 μ → jIz D z A s.heap μ H locs → lv_has ls 10 [(0, va_rf x0), (1, va_rf x1), (2, .int x2), (3, .int x3)] → cells + 0 ≤ 0 → slots + 0 ≤ 0 → W p l e rmL_isSwept s m args below meth c H locs cells slots (MQ below (jRz jfI Q D z A) args s 0 0 A) (F0 m 4 ls []) := by
  induction n with
  | zero =>
    intros
    rename_i hw _ _ _ _
    exact (show False from hw).elim
  | succ n ih =>
    intro x0 x1 x2 x3 μ H locs ls cells slots hw hI hl hcn hsn
    have hw : wL_isSwept_4_b z Q (wL_isSwept_4 z Q n) x0 x1 x2 x3 μ := hw
    unfold wL_isSwept_4_b at hw
    obtain ⟨hx, hb, hml, hown, hts, hr, hlocks, hnm, hK, hG, hfl⟩ := id hX
    have hown : s.vm.findClass RL = some m.cls := hown
    refine lv_iload_n hx hb dL_isSwept_4 rfl (lv_at hl 3 rfl) ?_
    refine j_aload_n (r := x1) hx hb dL_isSwept_5 rfl (lv_at hl 1 rfl) ?_
    refine lv_iconst (v := (0)) hx hb dL_isSwept_6 (by decide) ?_
    obtain ⟨v1, hv1, hw⟩ := hw
    refine j_ialdz (r := x1) hx hb hK hI hv1 dL_isSwept_7 ?_
    refine lv_icmp_ge (tgt := 259) hx hb dL_isSwept_8 (by decide) (fun hc => ?_) (fun hc => ?_)
    · have hw := hw.1 hc
      refine lv_iload_n hx hb dL_isSwept_259 rfl (lv_at hl 2 rfl) ?_
      obtain ⟨hz, hw⟩ := hw
      exact j_zretz hx hb hr hz hlocks hI hw (by omega) (by omega) dL_isSwept_260
    · have hw := hw.2 hc
      refine j_aload_n (r := x1) hx hb dL_isSwept_11 rfl (lv_at hl 1 rfl) ?_
      refine lv_iconst (v := (3)) hx hb dL_isSwept_12 (by decide) ?_
      refine lv_iload_n hx hb dL_isSwept_13 rfl (lv_at hl 3 rfl) ?_
      refine lv_imul hx hb dL_isSwept_14 ?_
      refine lv_bipush (v := (34)) hx hb dL_isSwept_15 (by decide) ?_
      refine lv_iadd hx hb dL_isSwept_17 ?_
      obtain ⟨v2, hv2, hw⟩ := hw
      refine j_ialdz (r := x1) hx hb hK hI hv2 dL_isSwept_18 ?_
      refine lv_istore (lv' := [(4, .int v2), (0, va_rf x0), (1, va_rf x1), (2, .int x2), (3, .int x3)]) hx hb dL_isSwept_19 hl (by decide) rfl (fun ls hl => ?_)
      refine j_aload_n (r := x0) hx hb dL_isSwept_21 rfl (lv_at hl 1 rfl) ?_
      refine lv_iload_n hx hb dL_isSwept_22 rfl (lv_at hl 4 rfl) ?_
      obtain ⟨b5, ⟨hrb5, hfs⟩, hw⟩ := hw
      refine j_goz hI (va_runV (As := [.int x3]) (rest := []) ⟨hx, hb, hml, hown, hts⟩ (kX9_afterSweep l hfl D z b5 x3 μ H.size _) (cwV 1 hts gL_isSwept_X9_afterSweep rfl rfl rfl (by decide +kernel) ⟨Nat.le_of_ble_eq_true rfl, Nat.le_of_ble_eq_true rfl⟩) (j_prV2z hK hG hI hw (ci := 11) rfl hfs) rfl rfl hl.1 (by rw [hrb5]; rfl) (lv_room (Nat.le_of_ble_eq_true rfl)) dL_isSwept_23 ⟨by show _ ≤ 0; omega, by show _ ≤ 0; omega⟩) (fun v3 μ4 H locs hw hI => ?_)
      refine W.eq (g2 := F0 m 26 ls [.long v3]) rfl ?_
      refine lv_lstore (lv' := [(5, .long v3), (4, .int v2), (0, va_rf x0), (1, va_rf x1), (2, .int x2), (3, .int x3)]) hx hb dL_isSwept_26 hl (by decide) rfl (fun ls hl => ?_)
      refine lv_iconst (v := (0)) hx hb dL_isSwept_28 (by decide) ?_
      refine lv_topi (fun v6 ev6 => ?_)
      have hw := hw v6 ev6
      refine lv_istore (lv' := [(7, .int v6), (5, .long v3), (4, .int v2), (0, va_rf x0), (1, va_rf x1), (2, .int x2), (3, .int x3)]) hx hb dL_isSwept_29 hl (by decide) rfl (fun ls hl => ?_)
      refine lv_iconst (v := (0)) hx hb dL_isSwept_31 (by decide) ?_
      refine lv_topi (fun v7 ev7 => ?_)
      have hw := hw v7 ev7
      refine lv_istore (lv' := [(8, .int v7), (7, .int v6), (5, .long v3), (4, .int v2), (0, va_rf x0), (1, va_rf x1), (2, .int x2), (3, .int x3)]) hx hb dL_isSwept_32 hl (by decide) rfl (fun ls hl => ?_)
      obtain ⟨n8, hw⟩ := hw
      exact kL_isSwept_34 hX ih n8 hw hI (lv_sub hl [4, 5, 6, 7, 3, 2, 1, 0] rfl) (by omega) (by omega)
set_option maxHeartbeats 4000000 in
set_option maxRecDepth 100000 in
theorem kL_isSwept_0 (hX : jX2 D z A p l s m args meth c yL_isSwept cL_isSwept 10 wsL_isSwept (some .boolean)) {Q : Int32 → jM → Prop}  {x0 : Option Nat} {x1 : Option Nat} {μ : jM} {H : Heap} {locs : List Loc} {ls : Array Slot} {cells slots : Nat} (hw : wL_isSwept_0 z Q x0 x1 μ) (hI : jIz D z A s.heap μ H locs) (hl : lv_has ls 10 [(0, va_rf x0), (1, va_rf x1)]) (hcn : cells + 0 ≤ 0) (hsn : slots + 0 ≤ 0) : W p l e rmL_isSwept s m args below meth c H locs cells slots (MQ below (jRz jfI Q D z A) args s 0 0 A) (F0 m 0 ls []) := by
  unfold wL_isSwept_0 at hw
  obtain ⟨hx, hb, hml, hown, hts, hr, hlocks, hnm, hK, hG, hfl⟩ := id hX
  have hown : s.vm.findClass RL = some m.cls := hown
  refine lv_iconst (v := (1)) hx hb dL_isSwept_0 (by decide) ?_
  refine lv_topi (fun v1 ev1 => ?_)
  have hw := hw v1 ev1
  refine j_istore_nA (r := x1) (F := fun w => [(0, va_rf x0), (1, w)]) (F2 := fun w => [(2, .int v1), (0, va_rf x0), (1, w)]) hx hb dL_isSwept_1 rfl hl (by decide) (fun w hw => by rcases hw with rfl | ⟨_, rfl⟩ <;> rfl) (fun ls hl => ?_)
  refine lv_iconst (v := (0)) hx hb dL_isSwept_2 (by decide) ?_
  refine lv_topi (fun v2 ev2 => ?_)
  have hw := hw v2 ev2
  refine lv_istore_n (lv' := [(3, .int v2), (2, .int v1), (0, va_rf x0), (1, va_rf x1)]) hx hb dL_isSwept_3 rfl hl (by decide) rfl (fun ls hl => ?_)
  obtain ⟨n3, hw⟩ := hw
  exact kL_isSwept_4 hX  n3 hw hI (lv_sub hl [2, 3, 1, 0] rfl) (by omega) (by omega)
set_option maxHeartbeats 4000000 in
set_option maxRecDepth 100000 in
theorem kL_isSwept (l : Launch) (hfl : l.stackTraces = false) (D : jD) (z : Nat × Nat) (x0 : Option Nat) (x1 : Option Nat) (μ : jM) (sz : Nat) (Q : Int32 → jM → Prop) : Met l yL_isSwept wsL_isSwept rmL_isSwept (jPre2z D z μ sz [va_rf x0, va_rf x1] (wL_isSwept z x0 x1 μ Q)) (jRz jfI Q D z (jA z μ sz)) 0 0 (jA z μ sz) := by
  refine Met.ofW (cc := cL_isSwept) (maxL := 10) (ret := (some .boolean)) (by decide) rfl ?_
  intro p e s m args below meth c s₁ B hml hv
  obtain ⟨rfl, hsz, hH, hz0, hK, hG, hw⟩ := hv
  subst hsz
  have hX : jX2 D z (jA z μ s.heap.size) p l s m _ meth c yL_isSwept cL_isSwept 10 wsL_isSwept (some .boolean) := ⟨B.exec, B.bytes, hml, findClass_of_methodNamed B.named, atoms_spec (ws := wsL_isSwept) B.pre, B.returns, B.notSynchronized, (name_of_methodNamed B.named B.method).1, hK, hG, hfl⟩
  obtain ⟨ls, hg, hl⟩ : ∃ ls : Array Slot, entryFrame m ([va_rf x0, va_rf x1] : List Value).toArray 10 = F0 m 0 ls [] ∧ lv_has ls 10 [(0, va_rf x0), (1, va_rf x1)] := by
    cases x0 <;> cases x1 <;> exact ⟨_, lg_entry_eq .., lv_entry _ (n := 10) (Nat.le_of_ble_eq_true rfl)⟩
  rw [hg]
  exact kL_isSwept_0 hX hw (jIz.start hH hz0) (lv_sub hl [0, 1] rfl) (by decide) (by decide)
set_option maxHeartbeats 4000000 in
set_option maxRecDepth 100000 in
theorem kL_areDays_92 (hX : jX2 D z A p l s m args meth c yL_areDays cL_areDays 10 wsL_areDays (some .boolean)) {Q : Int32 → jM → Prop}  {x0 : Option Nat} {x1 : Int32} {x2 : Int32} {x3 : Int32} {t0 : Int32} {μ : jM} {H : Heap} {locs : List Loc} {ls : Array Slot} {cells slots : Nat} (hw : wL_areDays_92 z Q x0 x1 x2 x3 t0 μ) (hI : jIz D z A s.heap μ H locs) (hl : lv_has ls 10 [(0, va_rf x0), (1, .int x1), (2, .int x2), (3, .int x3)]) (hcn : cells + 0 ≤ 0) (hsn : slots + 0 ≤ 0) : W p l e rmL_areDays s m args below meth c H locs cells slots (MQ below (jRz jfI Q D z A) args s 0 0 A) (F0 m 92 ls [.int t0]) := by
  unfold wL_areDays_92 at hw
  obtain ⟨hx, hb, hml, hown, hts, hr, hlocks, hnm, hK, hG, hfl⟩ := id hX
  have hown : s.vm.findClass RL = some m.cls := hown
  refine lv_istore (lv' := [(6, .int t0), (0, va_rf x0), (1, .int x1), (2, .int x2), (3, .int x3)]) hx hb dL_areDays_92 hl (by decide) rfl (fun ls hl => ?_)
  refine j_aload_n (r := x0) hx hb dL_areDays_94 rfl (lv_at hl 1 rfl) ?_
  obtain ⟨b3, ⟨hrb3, hfs⟩, hw⟩ := hw
  refine j_goz hI (va_runV (As := []) (rest := []) ⟨hx, hb, hml, hown, hts⟩ (kX9_today l hfl D z b3  μ H.size _) (cwV 0 hts gL_areDays_X9_today rfl rfl rfl (by decide +kernel) ⟨Nat.le_of_ble_eq_true rfl, Nat.le_of_ble_eq_true rfl⟩) (j_prV2z hK hG hI hw (ci := 11) rfl hfs) rfl rfl hl.1 (by rw [hrb3]; rfl) (lv_room (Nat.le_of_ble_eq_true rfl)) dL_areDays_95 ⟨by show _ ≤ 0; omega, by show _ ≤ 0; omega⟩) (fun v1 μ2 H locs hw hI => ?_)
  refine W.eq (g2 := F0 m 98 ls [.int v1]) rfl ?_
  refine lv_iload_n hx hb dL_areDays_98 rfl (lv_at hl 3 rfl) ?_
  refine lv_bipush (v := (30)) hx hb dL_areDays_99 (by decide) ?_
  refine lv_irem hx hb dL_areDays_101 (by decide) ?_
  refine lv_iadd hx hb dL_areDays_102 ?_
  refine lv_topi (fun v4 ev4 => ?_)
  have hw := hw v4 ev4
  refine lv_istore (lv' := [(7, .int v4), (6, .int t0), (0, va_rf x0), (1, .int x1), (2, .int x2), (3, .int x3)]) hx hb dL_areDays_103 hl (by decide) rfl (fun ls hl => ?_)
  refine lv_iload hx hb dL_areDays_105 (lv_at hl 0 rfl) ?_
  refine lv_iload_n hx hb dL_areDays_107 rfl (lv_at hl 5 rfl) ?_
  refine lv_bipush (v := (20)) hx hb dL_areDays_108 (by decide) ?_
  refine lv_irem hx hb dL_areDays_110 (by decide) ?_
  refine lv_iadd hx hb dL_areDays_111 ?_
  refine lv_topi (fun v5 ev5 => ?_)
  have hw := hw v5 ev5
  refine lv_istore (lv' := [(8, .int v5), (7, .int v4), (6, .int t0), (0, va_rf x0), (1, .int x1), (2, .int x2), (3, .int x3)]) hx hb dL_areDays_112 hl (by decide) rfl (fun ls hl => ?_)
  refine lv_iload hx hb dL_areDays_114 (lv_at hl 0 rfl) ?_
  refine lv_iconst (v := (1)) hx hb dL_areDays_116 (by decide) ?_
  refine lv_iadd hx hb dL_areDays_117 ?_
  refine lv_iload_n hx hb dL_areDays_118 rfl (lv_at hl 5 rfl) ?_
  refine lv_bipush (v := (30)) hx hb dL_areDays_119 (by decide) ?_
  refine lv_idiv hx hb dL_areDays_121 (by decide) ?_
  refine lv_bipush (v := (20)) hx hb dL_areDays_122 (by decide) ?_
  refine lv_irem hx hb dL_areDays_124 (by decide) ?_
  refine lv_iadd hx hb dL_areDays_125 ?_
  refine lv_topi (fun v6 ev6 => ?_)
  have hw := hw v6 ev6
  refine lv_istore (lv' := [(9, .int v6), (8, .int v5), (7, .int v4), (6, .int t0), (0, va_rf x0), (1, .int x1), (2, .int x2), (3, .int x3)]) hx hb dL_areDays_126 hl (by decide) rfl (fun ls hl => ?_)
  refine lv_iload hx hb dL_areDays_128 (lv_at hl 0 rfl) ?_
  refine lv_sipush (v := (450)) hx hb dL_areDays_130 (by decide) ?_
  refine lv_icmp_le (tgt := 139) hx hb dL_areDays_133 (by decide) (fun hc => ?_) (fun hc => ?_)
  · have hw := hw.1 hc
    refine lv_iload hx hb dL_areDays_139 (lv_at hl 3 rfl) ?_
    refine lv_if_eq (tgt := 182) hx hb dL_areDays_141 (by decide) (fun hc => ?_) (fun hc => ?_)
    · have hw := hw.1 hc
      refine lv_iconst (v := (0)) hx hb dL_areDays_182 (by decide) ?_
      exact j_zretz hx hb hr rfl hlocks hI hw (by omega) (by omega) dL_areDays_183
    · have hw := hw.2 hc
      refine j_aload_n (r := x0) hx hb dL_areDays_144 rfl (lv_at hl 4 rfl) ?_
      refine lv_iload_n hx hb dL_areDays_145 rfl (lv_at hl 5 rfl) ?_
      refine lv_iload hx hb dL_areDays_146 (lv_at hl 2 rfl) ?_
      refine lv_iload hx hb dL_areDays_148 (lv_at hl 0 rfl) ?_
      obtain ⟨b9, ⟨hrb9, hfs⟩, hw⟩ := hw
      refine j_goz hI (va_runV (As := [.int x1, .int v4, .int v6]) (rest := []) ⟨hx, hb, hml, hown, hts⟩ (kX9_scheduled l hfl D z b9 x1 v4 v6 μ2 H.size _) (cwV 3 hts gL_areDays_X9_scheduled rfl rfl rfl (by decide +kernel) ⟨Nat.le_of_ble_eq_true rfl, Nat.le_of_ble_eq_true rfl⟩) (j_prV2z hK hG hI hw (ci := 11) rfl hfs) rfl rfl hl.1 (by rw [hrb9]; rfl) (lv_room (Nat.le_of_ble_eq_true rfl)) dL_areDays_150 ⟨by show _ ≤ 0; omega, by show _ ≤ 0; omega⟩) (fun v7 μ8 H locs hw hI => ?_)
      refine W.eq (g2 := F0 m 153 ls [.long v7]) rfl ?_
      refine j_aload_n (r := x0) hx hb dL_areDays_153 rfl (lv_at hl 4 rfl) ?_
      refine lv_iload_n hx hb dL_areDays_154 rfl (lv_at hl 5 rfl) ?_
      refine lv_iload hx hb dL_areDays_155 (lv_at hl 2 rfl) ?_
      refine lv_iload hx hb dL_areDays_157 (lv_at hl 1 rfl) ?_
      obtain ⟨b12, ⟨hrb12, hfs⟩, hw⟩ := hw
      refine j_goz hI (va_runV (As := [.int x1, .int v4, .int v5]) (rest := [.long v7]) ⟨hx, hb, hml, hown, hts⟩ (kX9_scheduled l hfl D z b12 x1 v4 v5 μ8 H.size _) (cwV 3 hts gL_areDays_X9_scheduled rfl rfl rfl (by decide +kernel) ⟨Nat.le_of_ble_eq_true rfl, Nat.le_of_ble_eq_true rfl⟩) (j_prV2z hK hG hI hw (ci := 11) rfl hfs) rfl rfl hl.1 (by rw [hrb12]; rfl) (lv_room (Nat.le_of_ble_eq_true rfl)) dL_areDays_159 ⟨by show _ ≤ 0; omega, by show _ ≤ 0; omega⟩) (fun v10 μ11 H locs hw hI => ?_)
      refine W.eq (g2 := F0 m 162 ls [.long v10, .long v7]) rfl ?_
      refine j_aload_n (r := x0) hx hb dL_areDays_162 rfl (lv_at hl 4 rfl) ?_
      refine lv_iload_n hx hb dL_areDays_163 rfl (lv_at hl 5 rfl) ?_
      refine lv_iload hx hb dL_areDays_164 (lv_at hl 1 rfl) ?_
      refine lv_iconst (v := (1)) hx hb dL_areDays_166 (by decide) ?_
      refine lv_iadd hx hb dL_areDays_167 ?_
      refine lv_iload hx hb dL_areDays_168 (lv_at hl 0 rfl) ?_
      obtain ⟨b15, ⟨hrb15, hfs⟩, hw⟩ := hw
      refine j_goz hI (va_runV (As := [.int x1, .int (v5 + (1 : Int32)), .int v6]) (rest := [.long v10, .long v7]) ⟨hx, hb, hml, hown, hts⟩ (kX9_scheduled l hfl D z b15 x1 (v5 + (1 : Int32)) v6 μ11 H.size _) (cwV 3 hts gL_areDays_X9_scheduled rfl rfl rfl (by decide +kernel) ⟨Nat.le_of_ble_eq_true rfl, Nat.le_of_ble_eq_true rfl⟩) (j_prV2z hK hG hI hw (ci := 11) rfl hfs) rfl rfl hl.1 (by rw [hrb15]; rfl) (lv_room (Nat.le_of_ble_eq_true rfl)) dL_areDays_170 ⟨by show _ ≤ 0; omega, by show _ ≤ 0; omega⟩) (fun v13 μ14 H locs hw hI => ?_)
      refine W.eq (g2 := F0 m 173 ls [.long v13, .long v10, .long v7]) rfl ?_
      refine lv_ladd hx hb dL_areDays_173 ?_
      refine j_lcmp_ne (tgt := 182) hx hb dL_areDays_174 dL_areDays_175 (by decide) (fun hc => ?_) (fun hc => ?_)
      · have hw := hw.1 hc
        refine lv_iconst (v := (0)) hx hb dL_areDays_182 (by decide) ?_
        exact j_zretz hx hb hr rfl hlocks hI hw (by omega) (by omega) dL_areDays_183
      · have hw := hw.2 hc
        refine lv_iconst (v := (1)) hx hb dL_areDays_178 (by decide) ?_
        refine lv_goto (tgt := 183) hx hb dL_areDays_179 (by decide) ?_
        exact j_zretz hx hb hr rfl hlocks hI hw (by omega) (by omega) dL_areDays_183
  · have hw := hw.2 hc
    refine lv_iload hx hb dL_areDays_136 (lv_at hl 3 rfl) ?_
    obtain ⟨hz, hw⟩ := hw
    exact j_zretz hx hb hr hz hlocks hI hw (by omega) (by omega) dL_areDays_138
set_option maxHeartbeats 4000000 in
set_option maxRecDepth 100000 in
theorem kL_areDays_87 (hX : jX2 D z A p l s m args meth c yL_areDays cL_areDays 10 wsL_areDays (some .boolean)) {Q : Int32 → jM → Prop}  {x0 : Option Nat} {x1 : Int32} {x2 : Int32} {x3 : Int32} {μ : jM} {H : Heap} {locs : List Loc} {ls : Array Slot} {cells slots : Nat} (hw : wL_areDays_87 z Q x0 x1 x2 x3 μ) (hI : jIz D z A s.heap μ H locs) (hl : lv_has ls 10 [(0, va_rf x0), (1, .int x1), (2, .int x2), (3, .int x3)]) (hcn : cells + 0 ≤ 0) (hsn : slots + 0 ≤ 0) : W p l e rmL_areDays s m args below meth c H locs cells slots (MQ below (jRz jfI Q D z A) args s 0 0 A) (F0 m 87 ls []) := by
  unfold wL_areDays_87 at hw
  obtain ⟨hx, hb, hml, hown, hts, hr, hlocks, hnm, hK, hG, hfl⟩ := id hX
  have hown : s.vm.findClass RL = some m.cls := hown
  refine lv_iconst (v := (1)) hx hb dL_areDays_87 (by decide) ?_
  refine lv_goto (tgt := 92) hx hb dL_areDays_88 (by decide) ?_
  exact kL_areDays_92 hX  hw hI (lv_sub hl [0, 1, 2, 3] rfl) (by omega) (by omega)
set_option maxHeartbeats 4000000 in
set_option maxRecDepth 100000 in
theorem kL_areDays_91 (hX : jX2 D z A p l s m args meth c yL_areDays cL_areDays 10 wsL_areDays (some .boolean)) {Q : Int32 → jM → Prop}  {x0 : Option Nat} {x1 : Int32} {x2 : Int32} {x3 : Int32} {μ : jM} {H : Heap} {locs : List Loc} {ls : Array Slot} {cells slots : Nat} (hw : wL_areDays_91 z Q x0 x1 x2 x3 μ) (hI : jIz D z A s.heap μ H locs) (hl : lv_has ls 10 [(0, va_rf x0), (1, .int x1), (2, .int x2), (3, .int x3)]) (hcn : cells + 0 ≤ 0) (hsn : slots + 0 ≤ 0) : W p l e rmL_areDays s m args below meth c H locs cells slots (MQ below (jRz jfI Q D z A) args s 0 0 A) (F0 m 91 ls []) := by
  unfold wL_areDays_91 at hw
  obtain ⟨hx, hb, hml, hown, hts, hr, hlocks, hnm, hK, hG, hfl⟩ := id hX
  have hown : s.vm.findClass RL = some m.cls := hown
  refine lv_iconst (v := (0)) hx hb dL_areDays_91 (by decide) ?_
  exact kL_areDays_92 hX  hw hI (lv_sub hl [0, 1, 2, 3] rfl) (by omega) (by omega)
set_option maxHeartbeats 4000000 in
set_option maxRecDepth 100000 in
theorem kL_areDays_0 (hX : jX2 D z A p l s m args meth c yL_areDays cL_areDays 10 wsL_areDays (some .boolean)) {Q : Int32 → jM → Prop}  {x0 : Option Nat} {x1 : Int32} {x2 : Int32} {x3 : Int32} {μ : jM} {H : Heap} {locs : List Loc} {ls : Array Slot} {cells slots : Nat} (hw : wL_areDays_0 z Q x0 x1 x2 x3 μ) (hI : jIz D z A s.heap μ H locs) (hl : lv_has ls 10 [(0, va_rf x0), (1, .int x1), (2, .int x2), (3, .int x3)]) (hcn : cells + 0 ≤ 0) (hsn : slots + 0 ≤ 0) : W p l e rmL_areDays s m args below meth c H locs cells slots (MQ below (jRz jfI Q D z A) args s 0 0 A) (F0 m 0 ls []) := by
  unfold wL_areDays_0 at hw
  obtain ⟨hx, hb, hml, hown, hts, hr, hlocks, hnm, hK, hG, hfl⟩ := id hX
  have hown : s.vm.findClass RL = some m.cls := hown
  refine lv_iload_n hx hb dL_areDays_0 rfl (lv_at hl 2 rfl) ?_
  refine lv_sipush (v := (451)) hx hb dL_areDays_1 (by decide) ?_
  refine lv_irem hx hb dL_areDays_4 (by decide) ?_
  refine lv_topi (fun v1 ev1 => ?_)
  have hw := hw v1 ev1
  refine lv_istore (lv' := [(4, .int v1), (0, va_rf x0), (1, .int x1), (2, .int x2), (3, .int x3)]) hx hb dL_areDays_5 hl (by decide) rfl (fun ls hl => ?_)
  refine j_aload_n (r := x0) hx hb dL_areDays_7 rfl (lv_at hl 1 rfl) ?_
  refine lv_iload hx hb dL_areDays_8 (lv_at hl 0 rfl) ?_
  obtain ⟨b4, ⟨hrb4, hfs⟩, hw⟩ := hw
  refine j_goz hI (va_runV (As := [.int v1]) (rest := []) ⟨hx, hb, hml, hown, hts⟩ (kX9_settlementDay l hfl D z b4 v1 μ H.size _) (cwV 1 hts gL_areDays_X9_settlementDay rfl rfl rfl (by decide +kernel) ⟨Nat.le_of_ble_eq_true rfl, Nat.le_of_ble_eq_true rfl⟩) (j_prV2z hK hG hI hw (ci := 11) rfl hfs) rfl rfl hl.1 (by rw [hrb4]; rfl) (lv_room (Nat.le_of_ble_eq_true rfl)) dL_areDays_10 ⟨by show _ ≤ 0; omega, by show _ ≤ 0; omega⟩) (fun v2 μ3 H locs hw hI => ?_)
  refine W.eq (g2 := F0 m 13 ls [.int v2]) rfl ?_
  refine lv_istore (lv' := [(5, .int v2), (4, .int v1), (0, va_rf x0), (1, .int x1), (2, .int x2), (3, .int x3)]) hx hb dL_areDays_13 hl (by decide) rfl (fun ls hl => ?_)
  refine lv_iload hx hb dL_areDays_15 (lv_at hl 0 rfl) ?_
  refine lv_iconst (v := (-1)) hx hb dL_areDays_17 (by decide) ?_
  refine lv_icmp_ne (tgt := 40) hx hb dL_areDays_18 (by decide) (fun hc => ?_) (fun hc => ?_)
  · have hw := hw.1 hc
    refine lv_iload hx hb dL_areDays_40 (lv_at hl 0 rfl) ?_
    refine lv_iload hx hb dL_areDays_42 (lv_at hl 1 rfl) ?_
    refine lv_icmp_lt (tgt := 91) hx hb dL_areDays_44 (by decide) (fun hc => ?_) (fun hc => ?_)
    · have hw := hw.1 hc
      exact kL_areDays_91 hX  hw hI (lv_sub hl [2, 3, 4, 5] rfl) (by omega) (by omega)
    · have hw := hw.2 hc
      refine lv_iload hx hb dL_areDays_47 (lv_at hl 0 rfl) ?_
      refine lv_bipush (v := (7)) hx hb dL_areDays_49 (by decide) ?_
      refine lv_irem hx hb dL_areDays_51 (by decide) ?_
      refine lv_iconst (v := (5)) hx hb dL_areDays_52 (by decide) ?_
      refine lv_icmp_ge (tgt := 91) hx hb dL_areDays_53 (by decide) (fun hc => ?_) (fun hc => ?_)
      · have hw := hw.1 hc
        exact kL_areDays_91 hX  hw hI (lv_sub hl [2, 3, 4, 5] rfl) (by omega) (by omega)
      · have hw := hw.2 hc
        refine j_aload_n (r := x0) hx hb dL_areDays_56 rfl (lv_at hl 2 rfl) ?_
        refine lv_iload hx hb dL_areDays_57 (lv_at hl 0 rfl) ?_
        obtain ⟨b7, ⟨hrb7, hfs⟩, hw⟩ := hw
        refine j_goz hI (va_runV (As := [.int v2]) (rest := []) ⟨hx, hb, hml, hown, hts⟩ (kX9_settlementDay l hfl D z b7 v2 μ3 H.size _) (cwV 1 hts gL_areDays_X9_settlementDay rfl rfl rfl (by decide +kernel) ⟨Nat.le_of_ble_eq_true rfl, Nat.le_of_ble_eq_true rfl⟩) (j_prV2z hK hG hI hw (ci := 11) rfl hfs) rfl rfl hl.1 (by rw [hrb7]; rfl) (lv_room (Nat.le_of_ble_eq_true rfl)) dL_areDays_59 ⟨by show _ ≤ 0; omega, by show _ ≤ 0; omega⟩) (fun v5 μ6 H locs hw hI => ?_)
        refine W.eq (g2 := F0 m 62 ls [.int v5]) rfl ?_
        refine lv_iload hx hb dL_areDays_62 (lv_at hl 0 rfl) ?_
        refine lv_icmp_ne (tgt := 91) hx hb dL_areDays_64 (by decide) (fun hc => ?_) (fun hc => ?_)
        · have hw := hw.1 hc
          exact kL_areDays_91 hX  hw hI (lv_sub hl [2, 3, 4, 5] rfl) (by omega) (by omega)
        · have hw := hw.2 hc
          refine lv_iload hx hb dL_areDays_67 (lv_at hl 0 rfl) ?_
          refine lv_iload hx hb dL_areDays_69 (lv_at hl 1 rfl) ?_
          refine lv_icmp_eq (tgt := 87) hx hb dL_areDays_71 (by decide) (fun hc => ?_) (fun hc => ?_)
          · have hw := hw.1 hc
            exact kL_areDays_87 hX  hw hI (lv_sub hl [2, 3, 4, 5] rfl) (by omega) (by omega)
          · have hw := hw.2 hc
            refine j_aload_n (r := x0) hx hb dL_areDays_74 rfl (lv_at hl 2 rfl) ?_
            refine lv_iload hx hb dL_areDays_75 (lv_at hl 0 rfl) ?_
            refine lv_iconst (v := (1)) hx hb dL_areDays_77 (by decide) ?_
            refine lv_isub hx hb dL_areDays_78 ?_
            obtain ⟨b10, ⟨hrb10, hfs⟩, hw⟩ := hw
            refine j_goz hI (va_runV (As := [.int (v2 - (1 : Int32))]) (rest := []) ⟨hx, hb, hml, hown, hts⟩ (kX9_settlementDay l hfl D z b10 (v2 - (1 : Int32)) μ6 H.size _) (cwV 1 hts gL_areDays_X9_settlementDay rfl rfl rfl (by decide +kernel) ⟨Nat.le_of_ble_eq_true rfl, Nat.le_of_ble_eq_true rfl⟩) (j_prV2z hK hG hI hw (ci := 11) rfl hfs) rfl rfl hl.1 (by rw [hrb10]; rfl) (lv_room (Nat.le_of_ble_eq_true rfl)) dL_areDays_79 ⟨by show _ ≤ 0; omega, by show _ ≤ 0; omega⟩) (fun v8 μ9 H locs hw hI => ?_)
            refine W.eq (g2 := F0 m 82 ls [.int v8]) rfl ?_
            refine lv_iload hx hb dL_areDays_82 (lv_at hl 0 rfl) ?_
            refine lv_icmp_ne (tgt := 91) hx hb dL_areDays_84 (by decide) (fun hc => ?_) (fun hc => ?_)
            · have hw := hw.1 hc
              exact kL_areDays_91 hX  hw hI (lv_sub hl [2, 3, 4, 5] rfl) (by omega) (by omega)
            · have hw := hw.2 hc
              exact kL_areDays_87 hX  hw hI (lv_sub hl [2, 3, 4, 5] rfl) (by omega) (by omega)
  · have hw := hw.2 hc
    refine j_aload_n (r := x0) hx hb dL_areDays_21 rfl (lv_at hl 2 rfl) ?_
    refine lv_sipush (v := (450)) hx hb dL_areDays_22 (by decide) ?_
    obtain ⟨b13, ⟨hrb13, hfs⟩, hw⟩ := hw
    refine j_goz hI (va_runV (As := [.int (450 : Int32)]) (rest := []) ⟨hx, hb, hml, hown, hts⟩ (kX9_settlementDay l hfl D z b13 (450 : Int32) μ3 H.size _) (cwV 1 hts gL_areDays_X9_settlementDay rfl rfl rfl (by decide +kernel) ⟨Nat.le_of_ble_eq_true rfl, Nat.le_of_ble_eq_true rfl⟩) (j_prV2z hK hG hI hw (ci := 11) rfl hfs) rfl rfl hl.1 (by rw [hrb13]; rfl) (lv_room (Nat.le_of_ble_eq_true rfl)) dL_areDays_25 ⟨by show _ ≤ 0; omega, by show _ ≤ 0; omega⟩) (fun v11 μ12 H locs hw hI => ?_)
    refine W.eq (g2 := F0 m 28 ls [.int v11]) rfl ?_
    refine lv_iconst (v := (-1)) hx hb dL_areDays_28 (by decide) ?_
    refine lv_icmp_ne (tgt := 36) hx hb dL_areDays_29 (by decide) (fun hc => ?_) (fun hc => ?_)
    · have hw := hw.1 hc
      refine lv_iconst (v := (0)) hx hb dL_areDays_36 (by decide) ?_
      refine lv_goto (tgt := 92) hx hb dL_areDays_37 (by decide) ?_
      exact kL_areDays_92 hX  hw hI (lv_sub hl [2, 3, 4, 5] rfl) (by omega) (by omega)
    · have hw := hw.2 hc
      refine lv_iconst (v := (1)) hx hb dL_areDays_32 (by decide) ?_
      refine lv_goto (tgt := 92) hx hb dL_areDays_33 (by decide) ?_
      exact kL_areDays_92 hX  hw hI (lv_sub hl [2, 3, 4, 5] rfl) (by omega) (by omega)
set_option maxHeartbeats 4000000 in
set_option maxRecDepth 100000 in
theorem kL_areDays (l : Launch) (hfl : l.stackTraces = false) (D : jD) (z : Nat × Nat) (x0 : Option Nat) (x1 : Int32) (x2 : Int32) (x3 : Int32) (μ : jM) (sz : Nat) (Q : Int32 → jM → Prop) : Met l yL_areDays wsL_areDays rmL_areDays (jPre2z D z μ sz [va_rf x0, .int x1, .int x2, .int x3] (wL_areDays z x0 x1 x2 x3 μ Q)) (jRz jfI Q D z (jA z μ sz)) 0 0 (jA z μ sz) := by
  refine Met.ofW (cc := cL_areDays) (maxL := 10) (ret := (some .boolean)) (by decide) rfl ?_
  intro p e s m args below meth c s₁ B hml hv
  obtain ⟨rfl, hsz, hH, hz0, hK, hG, hw⟩ := hv
  subst hsz
  have hX : jX2 D z (jA z μ s.heap.size) p l s m _ meth c yL_areDays cL_areDays 10 wsL_areDays (some .boolean) := ⟨B.exec, B.bytes, hml, findClass_of_methodNamed B.named, atoms_spec (ws := wsL_areDays) B.pre, B.returns, B.notSynchronized, (name_of_methodNamed B.named B.method).1, hK, hG, hfl⟩
  obtain ⟨ls, hg, hl⟩ : ∃ ls : Array Slot, entryFrame m ([va_rf x0, .int x1, .int x2, .int x3] : List Value).toArray 10 = F0 m 0 ls [] ∧ lv_has ls 10 [(0, va_rf x0), (1, .int x1), (2, .int x2), (3, .int x3)] := by
    cases x0 <;> exact ⟨_, lg_entry_eq .., lv_entry _ (n := 10) (Nat.le_of_ble_eq_true rfl)⟩
  rw [hg]
  exact kL_areDays_0 hX hw (jIz.start hH hz0) (lv_sub hl [0, 1, 2, 3] rfl) (by decide) (by decide)
set_option maxHeartbeats 4000000 in
set_option maxRecDepth 100000 in
theorem kX4_init_0 {b : Nat} (hX : jX2 D z A p l s m args meth c yX4_init cX4_init 6 wsX4_init none) {Q : Unit → jM → Prop}  {x1 : Option Nat} {x2 : Int32} {x3 : Int32} {x4 : Int32} {x5 : Int32} {μ : jM} {H : Heap} {locs : List Loc} {ls : Array Slot} {cells slots : Nat} (hw : wX4_init_0 z b Q x1 x2 x3 x4 x5 μ) (hI : jIz D z A s.heap μ H locs) (hl : lv_has ls 6 [(0, va_rf (some b)), (1, va_rf x1), (2, .int x2), (3, .int x3), (4, .int x4), (5, .int x5)]) (hcn : cells + 0 ≤ 0) (hsn : slots + 0 ≤ 0) : W p l e rmX4_init s m args below meth c H locs cells slots (MQ below (jRz jfV Q D z A) args s 0 0 A) (F0 m 0 ls []) := by
  unfold wX4_init_0 at hw
  obtain ⟨hx, hb, hml, hown, hts, hr, hlocks, hnm, hK, hG, hfl⟩ := id hX
  have hown : s.vm.findClass RX4 = some m.cls := hown
  have hfX4 : ∀ w ∈ wsX40, w.before args s = true := fun w h => hts w (List.mem_cons_of_mem _ (List.mem_append_right _ h))
  refine j_aload_n (r := (some b)) hx hb dX4_init_0 rfl (lv_at hl 0 rfl) ?_
  refine W.objInit hx hb hown (hts (.methodLink RX4 1 objectInit) (List.mem_of_getElem? (i := 1) (by decide +kernel))) (hts (.instanceMethod objectInit) (List.mem_of_getElem? (i := 2) (by decide +kernel))) (hts (.code objectInit ⟨#[0xb1]⟩ 1 none) (List.mem_of_getElem? (i := 3) (by decide +kernel))) rfl (by rw [hml]; exact hl.1) rfl dX4_init_1 (Nat.le_of_ble_eq_true rfl) (Nat.le_of_ble_eq_true rfl) ?_
  refine W.eq (g2 := F0 m 4 ls []) rfl ?_
  refine j_aload_n (r := (some b)) hx hb dX4_init_4 rfl (lv_at hl 0 rfl) ?_
  refine j_aload_n (r := x1) hx hb dX4_init_5 rfl (lv_at hl 1 rfl) ?_
  obtain ⟨μ1, hμ1, hw⟩ := hw
  refine j_putFz (C := RX4) (T := TX4) (N := 7) (ci := 7) (r := (some b)) (v := va_rf x1) hx hb hfX4 tyX4 tyX4_ok nmX4 hown hK hI rfl 0 (by decide) (hts (.fieldLink RX4 7 "CashPools$Flow" "account" "LCashPools$Account;") (List.mem_of_getElem? (i := 4) (by decide +kernel))) (fun _ h => h) rfl hnm rfl (tyX4_ok 0 (by decide)) (jnr _ x1) (jfr _ x1) hμ1 dX4_init_6 (fun H locs hI => ?_)
  refine j_aload_n (r := (some b)) hx hb dX4_init_9 rfl (lv_at hl 0 rfl) ?_
  refine lv_iload_n hx hb dX4_init_10 rfl (lv_at hl 2 rfl) ?_
  obtain ⟨μ2, hμ2, hw⟩ := hw
  refine j_putFz (C := RX4) (T := TX4) (N := 7) (ci := 7) (r := (some b)) (v := .int x2) hx hb hfX4 tyX4 tyX4_ok nmX4 hown hK hI rfl 1 (by decide) (hts (.fieldLink RX4 13 "CashPools$Flow" "amount" "I") (List.mem_of_getElem? (i := 5) (by decide +kernel))) (fun _ h => h) rfl hnm rfl (tyX4_ok 1 (by decide)) rfl rfl hμ2 dX4_init_11 (fun H locs hI => ?_)
  refine j_aload_n (r := (some b)) hx hb dX4_init_14 rfl (lv_at hl 0 rfl) ?_
  refine lv_iload hx hb dX4_init_15 (lv_at hl 4 rfl) ?_
  obtain ⟨μ3, hμ3, hw⟩ := hw
  refine j_putFz (C := RX4) (T := TX4) (N := 7) (ci := 7) (r := (some b)) (v := .int x4) hx hb hfX4 tyX4 tyX4_ok nmX4 hown hK hI rfl 2 (by decide) (hts (.fieldLink RX4 17 "CashPools$Flow" "step" "I") (List.mem_of_getElem? (i := 6) (by decide +kernel))) (fun _ h => h) rfl hnm rfl (tyX4_ok 2 (by decide)) rfl rfl hμ3 dX4_init_17 (fun H locs hI => ?_)
  refine j_aload_n (r := (some b)) hx hb dX4_init_20 rfl (lv_at hl 0 rfl) ?_
  refine lv_iload_n hx hb dX4_init_21 rfl (lv_at hl 3 rfl) ?_
  obtain ⟨μ4, hμ4, hw⟩ := hw
  refine j_putz (C := RX4) (T := TX4) (N := 7) (ci := 7) (r := (some b)) (v := .int x3) hx hb hfX4 tyX4 tyX4_ok nmX4 hown hK hI rfl 3 (by decide) (hts (.fieldLink RX4 20 "CashPools$Flow" "due" "I") (List.mem_of_getElem? (i := 7) (by decide +kernel))) (fun _ h => h) rfl (tyX4_ok 3 (by decide)) rfl rfl hμ4 dX4_init_22 (fun H locs hI => ?_)
  refine j_aload_n (r := (some b)) hx hb dX4_init_25 rfl (lv_at hl 0 rfl) ?_
  refine lv_iload hx hb dX4_init_26 (lv_at hl 5 rfl) ?_
  obtain ⟨μ5, hμ5, hw⟩ := hw
  refine j_putz (C := RX4) (T := TX4) (N := 7) (ci := 7) (r := (some b)) (v := .int x5) hx hb hfX4 tyX4 tyX4_ok nmX4 hown hK hI rfl 4 (by decide) (hts (.fieldLink RX4 23 "CashPools$Flow" "left" "I") (List.mem_of_getElem? (i := 8) (by decide +kernel))) (fun _ h => h) rfl (tyX4_ok 4 (by decide)) rfl rfl hμ5 dX4_init_28 (fun H locs hI => ?_)
  exact j_vretz hx hb hr hlocks hI hw (by omega) (by omega) dX4_init_31
set_option maxHeartbeats 4000000 in
set_option maxRecDepth 100000 in
theorem kX4_init (l : Launch) (hfl : l.stackTraces = false) (D : jD) (z : Nat × Nat) (b : Nat) (x1 : Option Nat) (x2 : Int32) (x3 : Int32) (x4 : Int32) (x5 : Int32) (μ : jM) (sz : Nat) (Q : Unit → jM → Prop) : Met l yX4_init wsX4_init rmX4_init (jPre2z D z μ sz [.ref b, va_rf x1, .int x2, .int x3, .int x4, .int x5] (wX4_init z b x1 x2 x3 x4 x5 μ Q)) (jRz jfV Q D z (jA z μ sz)) 0 0 (jA z μ sz) := by
  refine Met.ofW (cc := cX4_init) (maxL := 6) (ret := none) (by decide) rfl ?_
  intro p e s m args below meth c s₁ B hml hv
  obtain ⟨rfl, hsz, hH, hz0, hK, hG, hw⟩ := hv
  subst hsz
  have hX : jX2 D z (jA z μ s.heap.size) p l s m _ meth c yX4_init cX4_init 6 wsX4_init none := ⟨B.exec, B.bytes, hml, findClass_of_methodNamed B.named, atoms_spec (ws := wsX4_init) B.pre, B.returns, B.notSynchronized, (name_of_methodNamed B.named B.method).1, hK, hG, hfl⟩
  obtain ⟨ls, hg, hl⟩ : ∃ ls : Array Slot, entryFrame m ([.ref b, va_rf x1, .int x2, .int x3, .int x4, .int x5] : List Value).toArray 6 = F0 m 0 ls [] ∧ lv_has ls 6 [(0, va_rf (some b)), (1, va_rf x1), (2, .int x2), (3, .int x3), (4, .int x4), (5, .int x5)] := by
    cases x1 <;> exact ⟨_, lg_entry_eq .., lv_entry _ (n := 6) (Nat.le_of_ble_eq_true rfl)⟩
  rw [hg]
  exact kX4_init_0 hX hw (jIz.start hH hz0) (lv_sub hl [0, 1, 2, 3, 4, 5] rfl) (by decide) (by decide)
set_option maxHeartbeats 4000000 in
set_option maxRecDepth 100000 in
theorem kX9_schedule_0 {b : Nat} (hX : jX2 D z A p l s m args meth c yX9_schedule cX9_schedule 7 wsX9_schedule (some .int)) {Q : Int32 → jM → Prop}  {x1 : Int32} {x2 : Int32} {x3 : Int32} {x4 : Int32} {x5 : Int32} {μ : jM} {H : Heap} {locs : List Loc} {ls : Array Slot} {cells slots : Nat} (hw : wX9_schedule_0 z b Q jN x1 x2 x3 x4 x5 μ) (hI : jIz D z A s.heap μ H locs) (hl : lv_has ls 7 [(0, va_rf (some b)), (1, .int x1), (2, .int x2), (3, .int x3), (4, .int x4), (5, .int x5)]) (hcn : cells + 2 ≤ 2) (hsn : slots + 39 ≤ 39) : W p l e rmX9_schedule s m args below meth c H locs cells slots (MQ below (jRz jfI Q D z A) args s 2 39 A) (F0 m 0 ls []) := by
  unfold wX9_schedule_0 at hw
  obtain ⟨hx, hb, hml, hown, hts, hr, hlocks, hnm, hK, hG, hfl⟩ := id hX
  have hown : s.vm.findClass RX9 = some m.cls := hown
  have hfX3 : ∀ w ∈ wsX30, w.before args s = true := fun w h => hts w (List.mem_cons_of_mem _ (List.mem_append_left _ (List.mem_append_left _ (List.mem_append_left _ (List.mem_append_left _ (List.mem_append_left _ (List.mem_append_right _ h)))))))
  have hfX4 : ∀ w ∈ wsX40, w.before args s = true := fun w h => hts w (List.mem_cons_of_mem _ (List.mem_append_left _ (List.mem_append_left _ (List.mem_append_left _ (List.mem_append_left _ (List.mem_append_right _ h))))))
  have hfX9 : ∀ w ∈ wsX90, w.before args s = true := fun w h => hts w (List.mem_cons_of_mem _ (List.mem_append_left _ (List.mem_append_left _ (List.mem_append_left _ (List.mem_append_left _ (List.mem_append_left _ (List.mem_append_left _ (List.mem_append_right _ h))))))))
  refine j_aload_n (r := (some b)) hx hb dX9_schedule_0 rfl (lv_at hl 0 rfl) ?_
  refine lv_iload_n hx hb dX9_schedule_1 rfl (lv_at hl 1 rfl) ?_
  obtain ⟨hfs, hw⟩ := hw
  refine j_goz hI (va_runV (As := [.int x1]) (rest := []) ⟨hx, hb, hml, hown, hts⟩ (kX9_accountAt l hfl D z b x1 μ H.size _) (cwV 1 hts gX9_schedule_X9_accountAt rfl rfl rfl (by decide +kernel) ⟨Nat.le_of_ble_eq_true rfl, Nat.le_of_ble_eq_true rfl⟩) (j_prV2z hK hG hI hw (ci := 11) rfl hfs) rfl rfl hl.1 rfl (lv_room (Nat.le_of_ble_eq_true rfl)) dX9_schedule_2 ⟨by show _ ≤ 2; omega, by show _ ≤ 39; omega⟩) (fun v1 μ2 H locs hw hI => ?_)
  refine W.eq (g2 := F0 m 5 ls [va_rf v1]) rfl ?_
  refine j_astore (r := v1) (lv' := [(6, va_rf v1), (0, va_rf (some b)), (1, .int x1), (2, .int x2), (3, .int x3), (4, .int x4), (5, .int x5)]) hx hb dX9_schedule_5 hl (by decide) rfl (fun ls hl => ?_)
  refine lv_iload_n hx hb dX9_schedule_7 rfl (lv_at hl 3 rfl) ?_
  refine j_goz hI (va_runS (As := [.int x2]) (rest := []) ⟨hx, hb, hml, hown, hts⟩ (kX9_requireAmount l hfl D z x2 μ2 H.size _) (va_cwS 1 hts gX9_schedule_X9_requireAmount rfl rfl rfl (by decide +kernel) ⟨Nat.le_of_ble_eq_true rfl, Nat.le_of_ble_eq_true rfl⟩) (j_prS2z hK hG hI hw) rfl rfl hl.1 rfl (lv_room (Nat.le_of_ble_eq_true rfl)) dX9_schedule_8 ⟨by show _ ≤ 2; omega, by show _ ≤ 39; omega⟩) (fun u3 μ4 H locs hw hI => ?_)
  refine W.eq (g2 := F0 m 11 ls []) rfl ?_
  refine lv_iload_n hx hb dX9_schedule_11 rfl (lv_at hl 4 rfl) ?_
  refine j_aload_n (r := (some b)) hx hb dX9_schedule_12 rfl (lv_at hl 1 rfl) ?_
  obtain ⟨v5, hv5, hw⟩ := hw
  refine j_getz (C := RX9) (T := TX9) (N := 1) (ci := 11) (r := (some b)) (v := va_rf v5) hx hb hfX9 hown hK hI rfl 0 (by decide) (hts (.fieldLink RX9 10 "CashPools" "desk" "LCashPools$Desk;") (List.mem_of_getElem? (i := 3) (by decide +kernel))) (fun _ h => h) hv5 dX9_schedule_13 ?_
  obtain ⟨v6, hv6, hw⟩ := hw
  refine j_getz (C := RX3) (T := TX3) (N := 8) (ci := 6) (r := v5) (v := .int v6) hx hb hfX3 hown hK hI rfl 6 (by decide) (hts (.fieldLink RX9 91 "CashPools$Desk" "day" "I") (List.mem_of_getElem? (i := 4) (by decide +kernel))) (fun _ h => h) hv6 dX9_schedule_16 ?_
  refine lv_sipush (v := (450)) hx hb dX9_schedule_19 (by decide) ?_
  refine j_goz hI (va_runS (As := [.int x3, .int v6, .int (450 : Int32)]) (rest := []) ⟨hx, hb, hml, hown, hts⟩ (kX9_requireWithin l hfl D z x3 v6 (450 : Int32) μ4 H.size _) (va_cwS 3 hts gX9_schedule_X9_requireWithin rfl rfl rfl (by decide +kernel) ⟨Nat.le_of_ble_eq_true rfl, Nat.le_of_ble_eq_true rfl⟩) (j_prS2z hK hG hI hw) rfl rfl hl.1 rfl (lv_room (Nat.le_of_ble_eq_true rfl)) dX9_schedule_22 ⟨by show _ ≤ 2; omega, by show _ ≤ 39; omega⟩) (fun u7 μ8 H locs hw hI => ?_)
  refine W.eq (g2 := F0 m 25 ls []) rfl ?_
  refine lv_iload hx hb dX9_schedule_25 (lv_at hl 5 rfl) ?_
  refine lv_iconst (v := (1)) hx hb dX9_schedule_27 (by decide) ?_
  refine lv_bipush (v := (100)) hx hb dX9_schedule_28 (by decide) ?_
  refine j_goz hI (va_runS (As := [.int x4, .int (1 : Int32), .int (100 : Int32)]) (rest := []) ⟨hx, hb, hml, hown, hts⟩ (kX9_requireWithin l hfl D z x4 (1 : Int32) (100 : Int32) μ8 H.size _) (va_cwS 3 hts gX9_schedule_X9_requireWithin rfl rfl rfl (by decide +kernel) ⟨Nat.le_of_ble_eq_true rfl, Nat.le_of_ble_eq_true rfl⟩) (j_prS2z hK hG hI hw) rfl rfl hl.1 rfl (lv_room (Nat.le_of_ble_eq_true rfl)) dX9_schedule_30 ⟨by show _ ≤ 2; omega, by show _ ≤ 39; omega⟩) (fun u9 μ10 H locs hw hI => ?_)
  refine W.eq (g2 := F0 m 33 ls []) rfl ?_
  refine lv_iload hx hb dX9_schedule_33 (lv_at hl 6 rfl) ?_
  refine lv_iconst (v := (1)) hx hb dX9_schedule_35 (by decide) ?_
  refine lv_bipush (v := (30)) hx hb dX9_schedule_36 (by decide) ?_
  refine j_goz hI (va_runS (As := [.int x5, .int (1 : Int32), .int (30 : Int32)]) (rest := []) ⟨hx, hb, hml, hown, hts⟩ (kX9_requireWithin l hfl D z x5 (1 : Int32) (30 : Int32) μ10 H.size _) (va_cwS 3 hts gX9_schedule_X9_requireWithin rfl rfl rfl (by decide +kernel) ⟨Nat.le_of_ble_eq_true rfl, Nat.le_of_ble_eq_true rfl⟩) (j_prS2z hK hG hI hw) rfl rfl hl.1 rfl (lv_room (Nat.le_of_ble_eq_true rfl)) dX9_schedule_38 ⟨by show _ ≤ 2; omega, by show _ ≤ 39; omega⟩) (fun u11 μ12 H locs hw hI => ?_)
  refine W.eq (g2 := F0 m 41 ls []) rfl ?_
  refine j_aload_n (r := (some b)) hx hb dX9_schedule_41 rfl (lv_at hl 1 rfl) ?_
  obtain ⟨v13, hv13, hw⟩ := hw
  refine j_getz (C := RX9) (T := TX9) (N := 1) (ci := 11) (r := (some b)) (v := va_rf v13) hx hb hfX9 hown hK hI rfl 0 (by decide) (hts (.fieldLink RX9 10 "CashPools" "desk" "LCashPools$Desk;") (List.mem_of_getElem? (i := 3) (by decide +kernel))) (fun _ h => h) hv13 dX9_schedule_42 ?_
  obtain ⟨v14, hv14, hw⟩ := hw
  refine j_getz (C := RX3) (T := TX3) (N := 8) (ci := 6) (r := v13) (v := va_rf v14) hx hb hfX3 hown hK hI rfl 3 (by decide) (hts (.fieldLink RX9 123 "CashPools$Desk" "everyFlow" "Ljava/util/ArrayList;") (List.mem_of_getElem? (i := 5) (by decide +kernel))) (fun _ h => h) hv14 dX9_schedule_45 ?_
  obtain ⟨b17, ⟨hrb17, hfs⟩, hw⟩ := hw
  refine j_goz hI (va_runV (As := []) (rest := []) ⟨hx, hb, hml, hown, hts⟩ (kJx4a65c_size_8abf5 l hfl D z b17  μ12 H.size _) (cwV 0 hts gX9_schedule_Jx4a65c_size_8abf5 rfl rfl rfl (by decide +kernel) ⟨Nat.le_of_ble_eq_true rfl, Nat.le_of_ble_eq_true rfl⟩) (j_prV2z hK hG hI hw (ci := 2) rfl hfs) rfl rfl hl.1 (by rw [hrb17]; rfl) (lv_room (Nat.le_of_ble_eq_true rfl)) dX9_schedule_48 ⟨by show _ ≤ 2; omega, by show _ ≤ 39; omega⟩) (fun v15 μ16 H locs hw hI => ?_)
  refine W.eq (g2 := F0 m 51 ls [.int v15]) rfl ?_
  refine lv_bipush (v := (20)) hx hb dX9_schedule_51 (by decide) ?_
  refine lv_icmp_lt (tgt := 66) hx hb dX9_schedule_53 (by decide) (fun hc => ?_) (fun hc => ?_)
  · have hw := hw.1 hc
    refine j_aload_n (r := (some b)) hx hb dX9_schedule_66 rfl (lv_at hl 1 rfl) ?_
    obtain ⟨v18, hv18, hw⟩ := hw
    refine j_getz (C := RX9) (T := TX9) (N := 1) (ci := 11) (r := (some b)) (v := va_rf v18) hx hb hfX9 hown hK hI rfl 0 (by decide) (hts (.fieldLink RX9 10 "CashPools" "desk" "LCashPools$Desk;") (List.mem_of_getElem? (i := 3) (by decide +kernel))) (fun _ h => h) hv18 dX9_schedule_67 ?_
    obtain ⟨v19, hv19, hw⟩ := hw
    refine j_getz (C := RX3) (T := TX3) (N := 8) (ci := 6) (r := v18) (v := va_rf v19) hx hb hfX3 hown hK hI rfl 3 (by decide) (hts (.fieldLink RX9 123 "CashPools$Desk" "everyFlow" "Ljava/util/ArrayList;") (List.mem_of_getElem? (i := 5) (by decide +kernel))) (fun _ h => h) hv19 dX9_schedule_70 ?_
    refine j_newz (C := RX4) (T := TX4) (N := 7) (ci := 7) (fs := jfX4) hx hb hfX4 tyX4 tyX4_ok hown (hts (.classLink RX9 128 RX4) (List.mem_of_getElem? (i := 6) (by decide +kernel))) (hts (.instantiable RX4 7) (List.mem_of_getElem? (i := 7) (by decide +kernel))) (hts (.initialized RX4) (List.mem_of_getElem? (i := 8) (by decide +kernel))) hK hI rfl jdX4 (by show _ ≤ 2; omega) (by show _ ≤ 39; omega) dX9_schedule_73 (fun q20 H hq20 hI => ?_)
    have hw := hw q20 hq20
    refine lv_dup hx hb dX9_schedule_76 rfl ?_
    refine j_aload (r := v1) hx hb dX9_schedule_77 (lv_at hl 0 rfl) ?_
    refine lv_iload_n hx hb dX9_schedule_79 rfl (lv_at hl 3 rfl) ?_
    refine lv_iload_n hx hb dX9_schedule_80 rfl (lv_at hl 4 rfl) ?_
    refine lv_iload hx hb dX9_schedule_81 (lv_at hl 5 rfl) ?_
    refine lv_iload hx hb dX9_schedule_83 (lv_at hl 6 rfl) ?_
    refine j_goz hI (va_runI (As := [va_rf v1, .int x2, .int x3, .int x4, .int x5]) (rest := [va_rf (some q20), va_rf v19]) ⟨hx, hb, hml, hown, hts⟩ (kX4_init l hfl D z q20 v1 x2 x3 x4 x5 (va_up μ16 q20 (some (.inr (7, jfX4)))) H.size _) (cwI 5 hts gX9_schedule_X4_init rfl rfl rfl (hts (.initialized RX4) (List.mem_of_getElem? (i := 8) (by decide +kernel))) (hts (.methodLink RX9 130 yX4_init) (List.mem_of_getElem? (i := 51) (by decide +kernel))) (hts (.instanceMethod yX4_init) (List.mem_of_getElem? (i := 52) (by decide +kernel))) rfl (by decide +kernel) ⟨Nat.le_of_ble_eq_true rfl, Nat.le_of_ble_eq_true rfl⟩) (j_prS2z hK hG hI hw) rfl rfl hl.1 rfl (lv_room (by simp only [List.map, List.sum_cons, List.sum_nil, jrc, jci, jcl, jcr, jcn]; exact Nat.le_of_ble_eq_true rfl)) dX9_schedule_85 ⟨by show _ ≤ 2; omega, by show _ ≤ 39; omega⟩) (fun u21 μ22 H locs hw hI => ?_)
    refine W.eq (g2 := F0 m 88 ls [va_rf (some q20), va_rf v19]) rfl ?_
    obtain ⟨b25, ⟨hrb25, hfs⟩, hw⟩ := hw
    refine j_goz hI (va_runV (As := [va_rf (some q20)]) (rest := []) ⟨hx, hb, hml, hown, hts⟩ (kJx4a65c_add_9ea2d l hfl D z b25 (some q20) μ22 H.size _) (cwV 1 hts gX9_schedule_Jx4a65c_add_9ea2d rfl rfl rfl (by decide +kernel) ⟨Nat.le_of_ble_eq_true rfl, Nat.le_of_ble_eq_true rfl⟩) (j_prV2z hK hG hI hw (ci := 2) rfl hfs) rfl rfl hl.1 (by rw [hrb25]; rfl) (lv_room (Nat.le_of_ble_eq_true rfl)) dX9_schedule_88 ⟨by show _ ≤ 2; omega, by show _ ≤ 39; omega⟩) (fun v23 μ24 H locs hw hI => ?_)
    refine W.eq (g2 := F0 m 91 ls [.int v23]) rfl ?_
    refine lv_pop hx hb dX9_schedule_91 rfl ?_
    refine j_aload_n (r := (some b)) hx hb dX9_schedule_92 rfl (lv_at hl 1 rfl) ?_
    obtain ⟨v26, hv26, hw⟩ := hw
    refine j_getz (C := RX9) (T := TX9) (N := 1) (ci := 11) (r := (some b)) (v := va_rf v26) hx hb hfX9 hown hK hI rfl 0 (by decide) (hts (.fieldLink RX9 10 "CashPools" "desk" "LCashPools$Desk;") (List.mem_of_getElem? (i := 3) (by decide +kernel))) (fun _ h => h) hv26 dX9_schedule_93 ?_
    obtain ⟨v27, hv27, hw⟩ := hw
    refine j_getz (C := RX3) (T := TX3) (N := 8) (ci := 6) (r := v26) (v := va_rf v27) hx hb hfX3 hown hK hI rfl 3 (by decide) (hts (.fieldLink RX9 123 "CashPools$Desk" "everyFlow" "Ljava/util/ArrayList;") (List.mem_of_getElem? (i := 5) (by decide +kernel))) (fun _ h => h) hv27 dX9_schedule_96 ?_
    obtain ⟨b30, ⟨hrb30, hfs⟩, hw⟩ := hw
    refine j_goz hI (va_runV (As := []) (rest := []) ⟨hx, hb, hml, hown, hts⟩ (kJx4a65c_size_8abf5 l hfl D z b30  μ24 H.size _) (cwV 0 hts gX9_schedule_Jx4a65c_size_8abf5 rfl rfl rfl (by decide +kernel) ⟨Nat.le_of_ble_eq_true rfl, Nat.le_of_ble_eq_true rfl⟩) (j_prV2z hK hG hI hw (ci := 2) rfl hfs) rfl rfl hl.1 (by rw [hrb30]; rfl) (lv_room (Nat.le_of_ble_eq_true rfl)) dX9_schedule_99 ⟨by show _ ≤ 2; omega, by show _ ≤ 39; omega⟩) (fun v28 μ29 H locs hw hI => ?_)
    refine W.eq (g2 := F0 m 102 ls [.int v28]) rfl ?_
    refine lv_iconst (v := (1)) hx hb dX9_schedule_102 (by decide) ?_
    refine lv_isub hx hb dX9_schedule_103 ?_
    exact j_iretz hx hb hr hlocks hI hw (by omega) (by omega) dX9_schedule_104
  · have hw := hw.2 hc
    exact (show False from hw).elim
set_option maxHeartbeats 4000000 in
set_option maxRecDepth 100000 in
theorem kX9_schedule (l : Launch) (hfl : l.stackTraces = false) (D : jD) (z : Nat × Nat) (b : Nat) (x1 : Int32) (x2 : Int32) (x3 : Int32) (x4 : Int32) (x5 : Int32) (μ : jM) (sz : Nat) (Q : Int32 → jM → Prop) : Met l yX9_schedule wsX9_schedule rmX9_schedule (jPre2z D z μ sz [.ref b, .int x1, .int x2, .int x3, .int x4, .int x5] (wX9_schedule z b x1 x2 x3 x4 x5 μ Q jN)) (jRz jfI Q D z (jA z μ sz)) 2 39 (jA z μ sz) := by
  refine Met.ofW (cc := cX9_schedule) (maxL := 7) (ret := (some .int)) (by decide) rfl ?_
  intro p e s m args below meth c s₁ B hml hv
  obtain ⟨rfl, hsz, hH, hz0, hK, hG, hw⟩ := hv
  subst hsz
  have hX : jX2 D z (jA z μ s.heap.size) p l s m _ meth c yX9_schedule cX9_schedule 7 wsX9_schedule (some .int) := ⟨B.exec, B.bytes, hml, findClass_of_methodNamed B.named, atoms_spec (ws := wsX9_schedule) B.pre, B.returns, B.notSynchronized, (name_of_methodNamed B.named B.method).1, hK, hG, hfl⟩
  obtain ⟨ls, hg, hl⟩ : ∃ ls : Array Slot, entryFrame m ([.ref b, .int x1, .int x2, .int x3, .int x4, .int x5] : List Value).toArray 7 = F0 m 0 ls [] ∧ lv_has ls 7 [(0, va_rf (some b)), (1, .int x1), (2, .int x2), (3, .int x3), (4, .int x4), (5, .int x5)] := by
    exact ⟨_, lg_entry_eq .., lv_entry _ (n := 7) (Nat.le_of_ble_eq_true rfl)⟩
  rw [hg]
  exact kX9_schedule_0 hX hw (jIz.start hH hz0) (lv_sub hl [0, 1, 2, 3, 4, 5] rfl) (by decide) (by decide)
set_option maxHeartbeats 4000000 in
set_option maxRecDepth 100000 in
theorem kX9_flowAt_0 {b : Nat} (hX : jX2 D z A p l s m args meth c yX9_flowAt cX9_flowAt 2 wsX9_flowAt (some (.object "CashPools$Flow"))) {Q : Option Nat → jM → Prop}  {x1 : Int32} {μ : jM} {H : Heap} {locs : List Loc} {ls : Array Slot} {cells slots : Nat} (hw : wX9_flowAt_0 z b Q jN x1 μ) (hI : jIz D z A s.heap μ H locs) (hl : lv_has ls 2 [(0, va_rf (some b)), (1, .int x1)]) (hcn : cells + 0 ≤ 0) (hsn : slots + 0 ≤ 0) : W p l e rmX9_flowAt s m args below meth c H locs cells slots (MQ below (jRz jfR Q D z A) args s 0 0 A) (F0 m 0 ls []) := by
  unfold wX9_flowAt_0 at hw
  obtain ⟨hx, hb, hml, hown, hts, hr, hlocks, hnm, hK, hG, hfl⟩ := id hX
  have hown : s.vm.findClass RX9 = some m.cls := hown
  have hfX3 : ∀ w ∈ wsX30, w.before args s = true := fun w h => hts w (List.mem_cons_of_mem _ (List.mem_append_left _ (List.mem_append_left _ (List.mem_append_right _ h))))
  have hfX9 : ∀ w ∈ wsX90, w.before args s = true := fun w h => hts w (List.mem_cons_of_mem _ (List.mem_append_left _ (List.mem_append_left _ (List.mem_append_left _ (List.mem_append_right _ h)))))
  refine lv_iload_n hx hb dX9_flowAt_0 rfl (lv_at hl 1 rfl) ?_
  refine lv_if_lt (tgt := 18) hx hb dX9_flowAt_1 (by decide) (fun hc => ?_) (fun hc => ?_)
  · have hw := hw.1 hc
    exact (show False from hw).elim
  · have hw := hw.2 hc
    refine lv_iload_n hx hb dX9_flowAt_4 rfl (lv_at hl 1 rfl) ?_
    refine j_aload_n (r := (some b)) hx hb dX9_flowAt_5 rfl (lv_at hl 0 rfl) ?_
    obtain ⟨v1, hv1, hw⟩ := hw
    refine j_getz (C := RX9) (T := TX9) (N := 1) (ci := 11) (r := (some b)) (v := va_rf v1) hx hb hfX9 hown hK hI rfl 0 (by decide) (hts (.fieldLink RX9 10 "CashPools" "desk" "LCashPools$Desk;") (List.mem_of_getElem? (i := 3) (by decide +kernel))) (fun _ h => h) hv1 dX9_flowAt_6 ?_
    obtain ⟨v2, hv2, hw⟩ := hw
    refine j_getz (C := RX3) (T := TX3) (N := 8) (ci := 6) (r := v1) (v := va_rf v2) hx hb hfX3 hown hK hI rfl 3 (by decide) (hts (.fieldLink RX9 123 "CashPools$Desk" "everyFlow" "Ljava/util/ArrayList;") (List.mem_of_getElem? (i := 4) (by decide +kernel))) (fun _ h => h) hv2 dX9_flowAt_9 ?_
    obtain ⟨b5, ⟨hrb5, hfs⟩, hw⟩ := hw
    refine j_goz hI (va_runV (As := []) (rest := [.int x1]) ⟨hx, hb, hml, hown, hts⟩ (kJx4a65c_size_8abf5 l hfl D z b5  μ H.size _) (cwV 0 hts gX9_flowAt_Jx4a65c_size_8abf5 rfl rfl rfl (by decide +kernel) ⟨Nat.le_of_ble_eq_true rfl, Nat.le_of_ble_eq_true rfl⟩) (j_prV2z hK hG hI hw (ci := 2) rfl hfs) rfl rfl hl.1 (by rw [hrb5]; rfl) (lv_room (Nat.le_of_ble_eq_true rfl)) dX9_flowAt_12 ⟨by show _ ≤ 0; omega, by show _ ≤ 0; omega⟩) (fun v3 μ4 H locs hw hI => ?_)
    refine W.eq (g2 := F0 m 15 ls [.int v3, .int x1]) rfl ?_
    refine lv_icmp_lt (tgt := 28) hx hb dX9_flowAt_15 (by decide) (fun hc => ?_) (fun hc => ?_)
    · have hw := hw.1 hc
      refine j_aload_n (r := (some b)) hx hb dX9_flowAt_28 rfl (lv_at hl 0 rfl) ?_
      obtain ⟨v6, hv6, hw⟩ := hw
      refine j_getz (C := RX9) (T := TX9) (N := 1) (ci := 11) (r := (some b)) (v := va_rf v6) hx hb hfX9 hown hK hI rfl 0 (by decide) (hts (.fieldLink RX9 10 "CashPools" "desk" "LCashPools$Desk;") (List.mem_of_getElem? (i := 3) (by decide +kernel))) (fun _ h => h) hv6 dX9_flowAt_29 ?_
      obtain ⟨v7, hv7, hw⟩ := hw
      refine j_getz (C := RX3) (T := TX3) (N := 8) (ci := 6) (r := v6) (v := va_rf v7) hx hb hfX3 hown hK hI rfl 3 (by decide) (hts (.fieldLink RX9 123 "CashPools$Desk" "everyFlow" "Ljava/util/ArrayList;") (List.mem_of_getElem? (i := 4) (by decide +kernel))) (fun _ h => h) hv7 dX9_flowAt_32 ?_
      refine lv_iload_n hx hb dX9_flowAt_35 rfl (lv_at hl 1 rfl) ?_
      obtain ⟨b10, ⟨hrb10, hfs⟩, hw⟩ := hw
      refine j_goz hI (va_runV (As := [.int x1]) (rest := []) ⟨hx, hb, hml, hown, hts⟩ (kJx4a65c_get_915e3 l hfl D z b10 x1 μ4 H.size _) (cwV 1 hts gX9_flowAt_Jx4a65c_get_915e3 rfl rfl rfl (by decide +kernel) ⟨Nat.le_of_ble_eq_true rfl, Nat.le_of_ble_eq_true rfl⟩) (j_prV2z hK hG hI hw (ci := 2) rfl hfs) rfl rfl hl.1 (by rw [hrb10]; rfl) (lv_room (Nat.le_of_ble_eq_true rfl)) dX9_flowAt_36 ⟨by show _ ≤ 0; omega, by show _ ≤ 0; omega⟩) (fun v8 μ9 H locs hw hI => ?_)
      refine W.eq (g2 := F0 m 39 ls [va_rf v8]) rfl ?_
      obtain ⟨h11, hw⟩ := hw
      refine j_castz (C := RX4) (T := TX4) (N := 7) (ci := 7) (r := v8) hx hb hown (hts (.classLink RX9 128 "CashPools$Flow") (List.mem_of_getElem? (i := 5) (by decide +kernel))) hK hI rfl h11 dX9_flowAt_39 ?_
      exact j_aretz (v := v8) hx hb hr (Or.inl ⟨_, rfl⟩) hlocks hI hw (by omega) (by omega) dX9_flowAt_42
    · have hw := hw.2 hc
      exact (show False from hw).elim
set_option maxHeartbeats 4000000 in
set_option maxRecDepth 100000 in
theorem kX9_flowAt (l : Launch) (hfl : l.stackTraces = false) (D : jD) (z : Nat × Nat) (b : Nat) (x1 : Int32) (μ : jM) (sz : Nat) (Q : Option Nat → jM → Prop) : Met l yX9_flowAt wsX9_flowAt rmX9_flowAt (jPre2z D z μ sz [.ref b, .int x1] (wX9_flowAt z b x1 μ Q jN)) (jRz jfR Q D z (jA z μ sz)) 0 0 (jA z μ sz) := by
  refine Met.ofW (cc := cX9_flowAt) (maxL := 2) (ret := (some (.object "CashPools$Flow"))) (by decide) rfl ?_
  intro p e s m args below meth c s₁ B hml hv
  obtain ⟨rfl, hsz, hH, hz0, hK, hG, hw⟩ := hv
  subst hsz
  have hX : jX2 D z (jA z μ s.heap.size) p l s m _ meth c yX9_flowAt cX9_flowAt 2 wsX9_flowAt (some (.object "CashPools$Flow")) := ⟨B.exec, B.bytes, hml, findClass_of_methodNamed B.named, atoms_spec (ws := wsX9_flowAt) B.pre, B.returns, B.notSynchronized, (name_of_methodNamed B.named B.method).1, hK, hG, hfl⟩
  obtain ⟨ls, hg, hl⟩ : ∃ ls : Array Slot, entryFrame m ([.ref b, .int x1] : List Value).toArray 2 = F0 m 0 ls [] ∧ lv_has ls 2 [(0, va_rf (some b)), (1, .int x1)] := by
    exact ⟨_, lg_entry_eq .., lv_entry _ (n := 2) (Nat.le_of_ble_eq_true rfl)⟩
  rw [hg]
  exact kX9_flowAt_0 hX hw (jIz.start hH hz0) (lv_sub hl [0, 1] rfl) (by decide) (by decide)
set_option maxHeartbeats 4000000 in
set_option maxRecDepth 100000 in
theorem kX9_timesLeft_0 {b : Nat} (hX : jX2 D z A p l s m args meth c yX9_timesLeft cX9_timesLeft 2 wsX9_timesLeft (some .int)) {Q : Int32 → jM → Prop}  {x1 : Int32} {μ : jM} {H : Heap} {locs : List Loc} {ls : Array Slot} {cells slots : Nat} (hw : wX9_timesLeft_0 z b Q jN x1 μ) (hI : jIz D z A s.heap μ H locs) (hl : lv_has ls 2 [(0, va_rf (some b)), (1, .int x1)]) (hcn : cells + 0 ≤ 0) (hsn : slots + 0 ≤ 0) : W p l e rmX9_timesLeft s m args below meth c H locs cells slots (MQ below (jRz jfI Q D z A) args s 0 0 A) (F0 m 0 ls []) := by
  unfold wX9_timesLeft_0 at hw
  obtain ⟨hx, hb, hml, hown, hts, hr, hlocks, hnm, hK, hG, hfl⟩ := id hX
  have hown : s.vm.findClass RX9 = some m.cls := hown
  have hfX4 : ∀ w ∈ wsX40, w.before args s = true := fun w h => hts w (List.mem_cons_of_mem _ (List.mem_append_left _ (List.mem_append_left _ (List.mem_append_left _ (List.mem_append_left _ (List.mem_append_right _ h))))))
  refine j_aload_n (r := (some b)) hx hb dX9_timesLeft_0 rfl (lv_at hl 0 rfl) ?_
  refine lv_iload_n hx hb dX9_timesLeft_1 rfl (lv_at hl 1 rfl) ?_
  obtain ⟨hfs, hw⟩ := hw
  refine j_goz hI (va_runV (As := [.int x1]) (rest := []) ⟨hx, hb, hml, hown, hts⟩ (kX9_flowAt l hfl D z b x1 μ H.size _) (cwV 1 hts gX9_timesLeft_X9_flowAt rfl rfl rfl (by decide +kernel) ⟨Nat.le_of_ble_eq_true rfl, Nat.le_of_ble_eq_true rfl⟩) (j_prV2z hK hG hI hw (ci := 11) rfl hfs) rfl rfl hl.1 rfl (lv_room (Nat.le_of_ble_eq_true rfl)) dX9_timesLeft_2 ⟨by show _ ≤ 0; omega, by show _ ≤ 0; omega⟩) (fun v1 μ2 H locs hw hI => ?_)
  refine W.eq (g2 := F0 m 5 ls [va_rf v1]) rfl ?_
  obtain ⟨v3, hv3, hw⟩ := hw
  refine j_getz (C := RX4) (T := TX4) (N := 7) (ci := 7) (r := v1) (v := .int v3) hx hb hfX4 hown hK hI rfl 4 (by decide) (hts (.fieldLink RX9 141 "CashPools$Flow" "left" "I") (List.mem_of_getElem? (i := 1) (by decide +kernel))) (fun _ h => h) hv3 dX9_timesLeft_5 ?_
  exact j_iretz hx hb hr hlocks hI hw (by omega) (by omega) dX9_timesLeft_8
set_option maxHeartbeats 4000000 in
set_option maxRecDepth 100000 in
theorem kX9_timesLeft (l : Launch) (hfl : l.stackTraces = false) (D : jD) (z : Nat × Nat) (b : Nat) (x1 : Int32) (μ : jM) (sz : Nat) (Q : Int32 → jM → Prop) : Met l yX9_timesLeft wsX9_timesLeft rmX9_timesLeft (jPre2z D z μ sz [.ref b, .int x1] (wX9_timesLeft z b x1 μ Q jN)) (jRz jfI Q D z (jA z μ sz)) 0 0 (jA z μ sz) := by
  refine Met.ofW (cc := cX9_timesLeft) (maxL := 2) (ret := (some .int)) (by decide) rfl ?_
  intro p e s m args below meth c s₁ B hml hv
  obtain ⟨rfl, hsz, hH, hz0, hK, hG, hw⟩ := hv
  subst hsz
  have hX : jX2 D z (jA z μ s.heap.size) p l s m _ meth c yX9_timesLeft cX9_timesLeft 2 wsX9_timesLeft (some .int) := ⟨B.exec, B.bytes, hml, findClass_of_methodNamed B.named, atoms_spec (ws := wsX9_timesLeft) B.pre, B.returns, B.notSynchronized, (name_of_methodNamed B.named B.method).1, hK, hG, hfl⟩
  obtain ⟨ls, hg, hl⟩ : ∃ ls : Array Slot, entryFrame m ([.ref b, .int x1] : List Value).toArray 2 = F0 m 0 ls [] ∧ lv_has ls 2 [(0, va_rf (some b)), (1, .int x1)] := by
    exact ⟨_, lg_entry_eq .., lv_entry _ (n := 2) (Nat.le_of_ble_eq_true rfl)⟩
  rw [hg]
  exact kX9_timesLeft_0 hX hw (jIz.start hH hz0) (lv_sub hl [0, 1] rfl) (by decide) (by decide)
set_option maxHeartbeats 4000000 in
set_option maxRecDepth 100000 in
theorem kX9_cancel_0 {b : Nat} (hX : jX2 D z A p l s m args meth c yX9_cancel cX9_cancel 4 wsX9_cancel (some .int)) {Q : Int32 → jM → Prop}  {x1 : Int32} {μ : jM} {H : Heap} {locs : List Loc} {ls : Array Slot} {cells slots : Nat} (hw : wX9_cancel_0 z b Q jN x1 μ) (hI : jIz D z A s.heap μ H locs) (hl : lv_has ls 4 [(0, va_rf (some b)), (1, .int x1)]) (hcn : cells + 0 ≤ 0) (hsn : slots + 0 ≤ 0) : W p l e rmX9_cancel s m args below meth c H locs cells slots (MQ below (jRz jfI Q D z A) args s 0 0 A) (F0 m 0 ls []) := by
  unfold wX9_cancel_0 at hw
  obtain ⟨hx, hb, hml, hown, hts, hr, hlocks, hnm, hK, hG, hfl⟩ := id hX
  have hown : s.vm.findClass RX9 = some m.cls := hown
  have hfX4 : ∀ w ∈ wsX40, w.before args s = true := fun w h => hts w (List.mem_cons_of_mem _ (List.mem_append_left _ (List.mem_append_left _ (List.mem_append_left _ (List.mem_append_left _ (List.mem_append_right _ h))))))
  refine j_aload_n (r := (some b)) hx hb dX9_cancel_0 rfl (lv_at hl 0 rfl) ?_
  refine lv_iload_n hx hb dX9_cancel_1 rfl (lv_at hl 1 rfl) ?_
  obtain ⟨hfs, hw⟩ := hw
  refine j_goz hI (va_runV (As := [.int x1]) (rest := []) ⟨hx, hb, hml, hown, hts⟩ (kX9_flowAt l hfl D z b x1 μ H.size _) (cwV 1 hts gX9_cancel_X9_flowAt rfl rfl rfl (by decide +kernel) ⟨Nat.le_of_ble_eq_true rfl, Nat.le_of_ble_eq_true rfl⟩) (j_prV2z hK hG hI hw (ci := 11) rfl hfs) rfl rfl hl.1 rfl (lv_room (Nat.le_of_ble_eq_true rfl)) dX9_cancel_2 ⟨by show _ ≤ 0; omega, by show _ ≤ 0; omega⟩) (fun v1 μ2 H locs hw hI => ?_)
  refine W.eq (g2 := F0 m 5 ls [va_rf v1]) rfl ?_
  refine j_astore_n (r := v1) (lv' := [(2, va_rf v1), (0, va_rf (some b)), (1, .int x1)]) hx hb dX9_cancel_5 rfl hl (by decide) rfl (fun ls hl => ?_)
  refine j_aload_n (r := v1) hx hb dX9_cancel_6 rfl (lv_at hl 0 rfl) ?_
  obtain ⟨v3, hv3, hw⟩ := hw
  refine j_getz (C := RX4) (T := TX4) (N := 7) (ci := 7) (r := v1) (v := .int v3) hx hb hfX4 hown hK hI rfl 4 (by decide) (hts (.fieldLink RX9 141 "CashPools$Flow" "left" "I") (List.mem_of_getElem? (i := 1) (by decide +kernel))) (fun _ h => h) hv3 dX9_cancel_7 ?_
  refine j_istore_nA (r := v1) (F := fun w => [(2, w), (0, va_rf (some b)), (1, .int x1)]) (F2 := fun w => [(3, .int v3), (2, w), (0, va_rf (some b)), (1, .int x1)]) hx hb dX9_cancel_10 rfl hl (by decide) (fun w hw => by rcases hw with rfl | ⟨_, rfl⟩ <;> rfl) (fun ls hl => ?_)
  refine j_aload_n (r := v1) hx hb dX9_cancel_11 rfl (lv_at hl 1 rfl) ?_
  refine lv_iconst (v := (0)) hx hb dX9_cancel_12 (by decide) ?_
  obtain ⟨μ4, hμ4, hw⟩ := hw
  refine j_putz (C := RX4) (T := TX4) (N := 7) (ci := 7) (r := v1) (v := .int (0 : Int32)) hx hb hfX4 tyX4 tyX4_ok nmX4 hown hK hI rfl 4 (by decide) (hts (.fieldLink RX9 141 "CashPools$Flow" "left" "I") (List.mem_of_getElem? (i := 1) (by decide +kernel))) (fun _ h => h) rfl (tyX4_ok 4 (by decide)) rfl rfl hμ4 dX9_cancel_13 (fun H locs hI => ?_)
  refine lv_iload_n hx hb dX9_cancel_16 rfl (lv_at hl 0 rfl) ?_
  exact j_iretz hx hb hr hlocks hI hw (by omega) (by omega) dX9_cancel_17
set_option maxHeartbeats 4000000 in
set_option maxRecDepth 100000 in
theorem kX9_cancel (l : Launch) (hfl : l.stackTraces = false) (D : jD) (z : Nat × Nat) (b : Nat) (x1 : Int32) (μ : jM) (sz : Nat) (Q : Int32 → jM → Prop) : Met l yX9_cancel wsX9_cancel rmX9_cancel (jPre2z D z μ sz [.ref b, .int x1] (wX9_cancel z b x1 μ Q jN)) (jRz jfI Q D z (jA z μ sz)) 0 0 (jA z μ sz) := by
  refine Met.ofW (cc := cX9_cancel) (maxL := 4) (ret := (some .int)) (by decide) rfl ?_
  intro p e s m args below meth c s₁ B hml hv
  obtain ⟨rfl, hsz, hH, hz0, hK, hG, hw⟩ := hv
  subst hsz
  have hX : jX2 D z (jA z μ s.heap.size) p l s m _ meth c yX9_cancel cX9_cancel 4 wsX9_cancel (some .int) := ⟨B.exec, B.bytes, hml, findClass_of_methodNamed B.named, atoms_spec (ws := wsX9_cancel) B.pre, B.returns, B.notSynchronized, (name_of_methodNamed B.named B.method).1, hK, hG, hfl⟩
  obtain ⟨ls, hg, hl⟩ : ∃ ls : Array Slot, entryFrame m ([.ref b, .int x1] : List Value).toArray 4 = F0 m 0 ls [] ∧ lv_has ls 4 [(0, va_rf (some b)), (1, .int x1)] := by
    exact ⟨_, lg_entry_eq .., lv_entry _ (n := 4) (Nat.le_of_ble_eq_true rfl)⟩
  rw [hg]
  exact kX9_cancel_0 hX hw (jIz.start hH hz0) (lv_sub hl [0, 1] rfl) (by decide) (by decide)
end
