section
variable {p : Program} {l : Launch} {e : Env} {s : State} {m : MethodId} {args : Array Value} {below : List Frame} {meth : Method} {c : Code} {D : jD} {z : Nat × Nat} {A : Nat → Prop}
set_option maxHeartbeats 4000000 in
set_option maxRecDepth 100000 in
theorem kL_isSettled_137 (hX : jX2 D z A p l s m args meth c yL_isSettled cL_isSettled 10 wsL_isSettled (some .boolean)) {Q : Int32 → jM → Prop} {K5 : Option Nat → Option Nat → Option Nat → Int32 → Int32 → jM → Prop} (hK5 : ∀ {x0 : Option Nat} {x1 : Option Nat} {x2 : Option Nat} {x3 : Int32} {x4 : Int32} {μ : jM} {H : Heap} {locs : List Loc} {ls : Array Slot} {cells slots : Nat}, K5 x0 x1 x2 x3 x4 μ → jIz D z A s.heap μ H locs → lv_has ls 10 [(0, va_rf x0), (1, va_rf x1), (2, va_rf x2), (3, .int x3), (4, .int x4)] → cells + 0 ≤ 0 → slots + 0 ≤ 0 → W p l e rmL_isSettled s m args below meth c H locs cells slots (MQ below (jRz jfI Q D z A) args s 0 0 A) (F0 m 5 ls [])) {K66 : Option Nat → Option Nat → Option Nat → Int32 → Int32 → Int32 → Int32 → jM → Prop} (hK66 : ∀ {x0 : Option Nat} {x1 : Option Nat} {x2 : Option Nat} {x3 : Int32} {x4 : Int32} {x6 : Int32} {x7 : Int32} {μ : jM} {H : Heap} {locs : List Loc} {ls : Array Slot} {cells slots : Nat}, K66 x0 x1 x2 x3 x4 x6 x7 μ → jIz D z A s.heap μ H locs → lv_has ls 10 [(0, va_rf x0), (1, va_rf x1), (2, va_rf x2), (3, .int x3), (4, .int x4), (6, .int x6), (7, .int x7)] → cells + 0 ≤ 0 → slots + 0 ≤ 0 → W p l e rmL_isSettled s m args below meth c H locs cells slots (MQ below (jRz jfI Q D z A) args s 0 0 A) (F0 m 66 ls [])) {x0 : Option Nat} {x1 : Option Nat} {x2 : Option Nat} {x3 : Int32} {x4 : Int32} {x6 : Int32} {x7 : Int32} {t0 : Int32} {μ : jM} {H : Heap} {locs : List Loc} {ls : Array Slot} {cells slots : Nat} (hw : wL_isSettled_137 z K5 K66 Q x0 x1 x2 x3 x4 x6 x7 t0 μ) (hI : jIz D z A s.heap μ H locs) (hl : lv_has ls 10 [(0, va_rf x0), (1, va_rf x1), (2, va_rf x2), (3, .int x3), (4, .int x4), (6, .int x6), (7, .int x7)]) (hcn : cells + 0 ≤ 0) (hsn : slots + 0 ≤ 0) : W p l e rmL_isSettled s m args below meth c H locs cells slots (MQ below (jRz jfI Q D z A) args s 0 0 A) (F0 m 137 ls [.int t0]) := by
  unfold wL_isSettled_137 at hw
  obtain ⟨hx, hb, hml, hown, hts, hr, hlocks, hnm, hK, hG, hfl⟩ := id hX
  have hown : s.vm.findClass RL = some m.cls := hown
  refine lv_istore (lv' := [(9, .int t0), (0, va_rf x0), (1, va_rf x1), (2, va_rf x2), (3, .int x3), (4, .int x4), (6, .int x6), (7, .int x7)]) hx hb dL_isSettled_137 hl (by decide) rfl (fun ls hl => ?_)
  refine lv_iload_n hx hb dL_isSettled_139 rfl (lv_at hl 4 rfl) ?_
  refine lv_if_eq (tgt := 157) hx hb dL_isSettled_140 (by decide) (fun hc => ?_) (fun hc => ?_)
  · have hw := hw.1 hc
    refine lv_iconst (v := (0)) hx hb dL_isSettled_157 (by decide) ?_
    refine lv_topi (fun v1 ev1 => ?_)
    have hw := hw v1 ev1
    refine j_istore_nA (r := x2) (F := fun w => [(9, .int t0), (0, va_rf x0), (1, va_rf x1), (2, w), (3, .int x3), (4, .int x4), (6, .int x6), (7, .int x7)]) (F2 := fun w => [(3, .int v1), (9, .int t0), (0, va_rf x0), (1, va_rf x1), (2, w), (4, .int x4), (6, .int x6), (7, .int x7)]) hx hb dL_isSettled_158 rfl hl (by decide) (fun w hw => by rcases hw with rfl | ⟨_, rfl⟩ <;> rfl) (fun ls hl => ?_)
    obtain ⟨v2, ev2⟩ : ∃ y : Int32, y = x7 + (1 : Int32) := ⟨_, rfl⟩
    have hw := hw v2 ev2
    refine lv_iinc (v := v2) (lv' := [(7, .int v2), (3, .int v1), (9, .int t0), (0, va_rf x0), (1, va_rf x1), (2, va_rf x2), (4, .int x4), (6, .int x6)]) hx hb dL_isSettled_159 hl (k := 7) rfl (by rw [ev2]; rfl) (by decide) rfl (fun ls hl => ?_)
    refine lv_goto (tgt := 66) hx hb dL_isSettled_162 (by decide) ?_
    exact hK66 hw hI (lv_sub hl [3, 4, 5, 1, 6, 7, 0] rfl) (by omega) (by omega)
  · have hw := hw.2 hc
    refine lv_iload hx hb dL_isSettled_143 (lv_at hl 6 rfl) ?_
    refine lv_if_eq (tgt := 153) hx hb dL_isSettled_145 (by decide) (fun hc => ?_) (fun hc => ?_)
    · have hw := hw.1 hc
      refine lv_iconst (v := (1)) hx hb dL_isSettled_153 (by decide) ?_
      refine lv_goto (tgt := 158) hx hb dL_isSettled_154 (by decide) ?_
      refine lv_topi (fun v3 ev3 => ?_)
      have hw := hw v3 ev3
      refine j_istore_nA (r := x2) (F := fun w => [(9, .int t0), (0, va_rf x0), (1, va_rf x1), (2, w), (3, .int x3), (4, .int x4), (6, .int x6), (7, .int x7)]) (F2 := fun w => [(3, .int v3), (9, .int t0), (0, va_rf x0), (1, va_rf x1), (2, w), (4, .int x4), (6, .int x6), (7, .int x7)]) hx hb dL_isSettled_158 rfl hl (by decide) (fun w hw => by rcases hw with rfl | ⟨_, rfl⟩ <;> rfl) (fun ls hl => ?_)
      obtain ⟨v4, ev4⟩ : ∃ y : Int32, y = x7 + (1 : Int32) := ⟨_, rfl⟩
      have hw := hw v4 ev4
      refine lv_iinc (v := v4) (lv' := [(7, .int v4), (3, .int v3), (9, .int t0), (0, va_rf x0), (1, va_rf x1), (2, va_rf x2), (4, .int x4), (6, .int x6)]) hx hb dL_isSettled_159 hl (k := 7) rfl (by rw [ev4]; rfl) (by decide) rfl (fun ls hl => ?_)
      refine lv_goto (tgt := 66) hx hb dL_isSettled_162 (by decide) ?_
      exact hK66 hw hI (lv_sub hl [3, 4, 5, 1, 6, 7, 0] rfl) (by omega) (by omega)
    · have hw := hw.2 hc
      refine lv_iload hx hb dL_isSettled_148 (lv_at hl 0 rfl) ?_
      refine lv_if_ne (tgt := 157) hx hb dL_isSettled_150 (by decide) (fun hc => ?_) (fun hc => ?_)
      · have hw := hw.1 hc
        refine lv_iconst (v := (0)) hx hb dL_isSettled_157 (by decide) ?_
        refine lv_topi (fun v5 ev5 => ?_)
        have hw := hw v5 ev5
        refine j_istore_nA (r := x2) (F := fun w => [(9, .int t0), (0, va_rf x0), (1, va_rf x1), (2, w), (3, .int x3), (4, .int x4), (6, .int x6), (7, .int x7)]) (F2 := fun w => [(3, .int v5), (9, .int t0), (0, va_rf x0), (1, va_rf x1), (2, w), (4, .int x4), (6, .int x6), (7, .int x7)]) hx hb dL_isSettled_158 rfl hl (by decide) (fun w hw => by rcases hw with rfl | ⟨_, rfl⟩ <;> rfl) (fun ls hl => ?_)
        obtain ⟨v6, ev6⟩ : ∃ y : Int32, y = x7 + (1 : Int32) := ⟨_, rfl⟩
        have hw := hw v6 ev6
        refine lv_iinc (v := v6) (lv' := [(7, .int v6), (3, .int v5), (9, .int t0), (0, va_rf x0), (1, va_rf x1), (2, va_rf x2), (4, .int x4), (6, .int x6)]) hx hb dL_isSettled_159 hl (k := 7) rfl (by rw [ev6]; rfl) (by decide) rfl (fun ls hl => ?_)
        refine lv_goto (tgt := 66) hx hb dL_isSettled_162 (by decide) ?_
        exact hK66 hw hI (lv_sub hl [3, 4, 5, 1, 6, 7, 0] rfl) (by omega) (by omega)
      · have hw := hw.2 hc
        refine lv_iconst (v := (1)) hx hb dL_isSettled_153 (by decide) ?_
        refine lv_goto (tgt := 158) hx hb dL_isSettled_154 (by decide) ?_
        refine lv_topi (fun v7 ev7 => ?_)
        have hw := hw v7 ev7
        refine j_istore_nA (r := x2) (F := fun w => [(9, .int t0), (0, va_rf x0), (1, va_rf x1), (2, w), (3, .int x3), (4, .int x4), (6, .int x6), (7, .int x7)]) (F2 := fun w => [(3, .int v7), (9, .int t0), (0, va_rf x0), (1, va_rf x1), (2, w), (4, .int x4), (6, .int x6), (7, .int x7)]) hx hb dL_isSettled_158 rfl hl (by decide) (fun w hw => by rcases hw with rfl | ⟨_, rfl⟩ <;> rfl) (fun ls hl => ?_)
        obtain ⟨v8, ev8⟩ : ∃ y : Int32, y = x7 + (1 : Int32) := ⟨_, rfl⟩
        have hw := hw v8 ev8
        refine lv_iinc (v := v8) (lv' := [(7, .int v8), (3, .int v7), (9, .int t0), (0, va_rf x0), (1, va_rf x1), (2, va_rf x2), (4, .int x4), (6, .int x6)]) hx hb dL_isSettled_159 hl (k := 7) rfl (by rw [ev8]; rfl) (by decide) rfl (fun ls hl => ?_)
        refine lv_goto (tgt := 66) hx hb dL_isSettled_162 (by decide) ?_
        exact hK66 hw hI (lv_sub hl [3, 4, 5, 1, 6, 7, 0] rfl) (by omega) (by omega)
set_option maxHeartbeats 4000000 in
set_option maxRecDepth 100000 in
theorem kL_isSettled_132 (hX : jX2 D z A p l s m args meth c yL_isSettled cL_isSettled 10 wsL_isSettled (some .boolean)) {Q : Int32 → jM → Prop} {K5 : Option Nat → Option Nat → Option Nat → Int32 → Int32 → jM → Prop} (hK5 : ∀ {x0 : Option Nat} {x1 : Option Nat} {x2 : Option Nat} {x3 : Int32} {x4 : Int32} {μ : jM} {H : Heap} {locs : List Loc} {ls : Array Slot} {cells slots : Nat}, K5 x0 x1 x2 x3 x4 μ → jIz D z A s.heap μ H locs → lv_has ls 10 [(0, va_rf x0), (1, va_rf x1), (2, va_rf x2), (3, .int x3), (4, .int x4)] → cells + 0 ≤ 0 → slots + 0 ≤ 0 → W p l e rmL_isSettled s m args below meth c H locs cells slots (MQ below (jRz jfI Q D z A) args s 0 0 A) (F0 m 5 ls [])) {K66 : Option Nat → Option Nat → Option Nat → Int32 → Int32 → Int32 → Int32 → jM → Prop} (hK66 : ∀ {x0 : Option Nat} {x1 : Option Nat} {x2 : Option Nat} {x3 : Int32} {x4 : Int32} {x6 : Int32} {x7 : Int32} {μ : jM} {H : Heap} {locs : List Loc} {ls : Array Slot} {cells slots : Nat}, K66 x0 x1 x2 x3 x4 x6 x7 μ → jIz D z A s.heap μ H locs → lv_has ls 10 [(0, va_rf x0), (1, va_rf x1), (2, va_rf x2), (3, .int x3), (4, .int x4), (6, .int x6), (7, .int x7)] → cells + 0 ≤ 0 → slots + 0 ≤ 0 → W p l e rmL_isSettled s m args below meth c H locs cells slots (MQ below (jRz jfI Q D z A) args s 0 0 A) (F0 m 66 ls [])) {x0 : Option Nat} {x1 : Option Nat} {x2 : Option Nat} {x3 : Int32} {x4 : Int32} {x6 : Int32} {x7 : Int32} {μ : jM} {H : Heap} {locs : List Loc} {ls : Array Slot} {cells slots : Nat} (hw : wL_isSettled_132 z K5 K66 Q x0 x1 x2 x3 x4 x6 x7 μ) (hI : jIz D z A s.heap μ H locs) (hl : lv_has ls 10 [(0, va_rf x0), (1, va_rf x1), (2, va_rf x2), (3, .int x3), (4, .int x4), (6, .int x6), (7, .int x7)]) (hcn : cells + 0 ≤ 0) (hsn : slots + 0 ≤ 0) : W p l e rmL_isSettled s m args below meth c H locs cells slots (MQ below (jRz jfI Q D z A) args s 0 0 A) (F0 m 132 ls []) := by
  unfold wL_isSettled_132 at hw
  obtain ⟨hx, hb, hml, hown, hts, hr, hlocks, hnm, hK, hG, hfl⟩ := id hX
  have hown : s.vm.findClass RL = some m.cls := hown
  refine lv_iconst (v := (1)) hx hb dL_isSettled_132 (by decide) ?_
  refine lv_goto (tgt := 137) hx hb dL_isSettled_133 (by decide) ?_
  exact kL_isSettled_137 hX hK5 hK66 hw hI (lv_sub hl [0, 1, 2, 3, 4, 5, 6] rfl) (by omega) (by omega)
set_option maxHeartbeats 4000000 in
set_option maxRecDepth 100000 in
theorem kL_isSettled_136 (hX : jX2 D z A p l s m args meth c yL_isSettled cL_isSettled 10 wsL_isSettled (some .boolean)) {Q : Int32 → jM → Prop} {K5 : Option Nat → Option Nat → Option Nat → Int32 → Int32 → jM → Prop} (hK5 : ∀ {x0 : Option Nat} {x1 : Option Nat} {x2 : Option Nat} {x3 : Int32} {x4 : Int32} {μ : jM} {H : Heap} {locs : List Loc} {ls : Array Slot} {cells slots : Nat}, K5 x0 x1 x2 x3 x4 μ → jIz D z A s.heap μ H locs → lv_has ls 10 [(0, va_rf x0), (1, va_rf x1), (2, va_rf x2), (3, .int x3), (4, .int x4)] → cells + 0 ≤ 0 → slots + 0 ≤ 0 → W p l e rmL_isSettled s m args below meth c H locs cells slots (MQ below (jRz jfI Q D z A) args s 0 0 A) (F0 m 5 ls [])) {K66 : Option Nat → Option Nat → Option Nat → Int32 → Int32 → Int32 → Int32 → jM → Prop} (hK66 : ∀ {x0 : Option Nat} {x1 : Option Nat} {x2 : Option Nat} {x3 : Int32} {x4 : Int32} {x6 : Int32} {x7 : Int32} {μ : jM} {H : Heap} {locs : List Loc} {ls : Array Slot} {cells slots : Nat}, K66 x0 x1 x2 x3 x4 x6 x7 μ → jIz D z A s.heap μ H locs → lv_has ls 10 [(0, va_rf x0), (1, va_rf x1), (2, va_rf x2), (3, .int x3), (4, .int x4), (6, .int x6), (7, .int x7)] → cells + 0 ≤ 0 → slots + 0 ≤ 0 → W p l e rmL_isSettled s m args below meth c H locs cells slots (MQ below (jRz jfI Q D z A) args s 0 0 A) (F0 m 66 ls [])) {x0 : Option Nat} {x1 : Option Nat} {x2 : Option Nat} {x3 : Int32} {x4 : Int32} {x6 : Int32} {x7 : Int32} {μ : jM} {H : Heap} {locs : List Loc} {ls : Array Slot} {cells slots : Nat} (hw : wL_isSettled_136 z K5 K66 Q x0 x1 x2 x3 x4 x6 x7 μ) (hI : jIz D z A s.heap μ H locs) (hl : lv_has ls 10 [(0, va_rf x0), (1, va_rf x1), (2, va_rf x2), (3, .int x3), (4, .int x4), (6, .int x6), (7, .int x7)]) (hcn : cells + 0 ≤ 0) (hsn : slots + 0 ≤ 0) : W p l e rmL_isSettled s m args below meth c H locs cells slots (MQ below (jRz jfI Q D z A) args s 0 0 A) (F0 m 136 ls []) := by
  unfold wL_isSettled_136 at hw
  obtain ⟨hx, hb, hml, hown, hts, hr, hlocks, hnm, hK, hG, hfl⟩ := id hX
  have hown : s.vm.findClass RL = some m.cls := hown
  refine lv_iconst (v := (0)) hx hb dL_isSettled_136 (by decide) ?_
  exact kL_isSettled_137 hX hK5 hK66 hw hI (lv_sub hl [0, 1, 2, 3, 4, 5, 6] rfl) (by omega) (by omega)
set_option maxHeartbeats 4000000 in
set_option maxRecDepth 100000 in
theorem kL_isSettled_168 (hX : jX2 D z A p l s m args meth c yL_isSettled cL_isSettled 10 wsL_isSettled (some .boolean)) {Q : Int32 → jM → Prop} {K5 : Option Nat → Option Nat → Option Nat → Int32 → Int32 → jM → Prop} (hK5 : ∀ {x0 : Option Nat} {x1 : Option Nat} {x2 : Option Nat} {x3 : Int32} {x4 : Int32} {μ : jM} {H : Heap} {locs : List Loc} {ls : Array Slot} {cells slots : Nat}, K5 x0 x1 x2 x3 x4 μ → jIz D z A s.heap μ H locs → lv_has ls 10 [(0, va_rf x0), (1, va_rf x1), (2, va_rf x2), (3, .int x3), (4, .int x4)] → cells + 0 ≤ 0 → slots + 0 ≤ 0 → W p l e rmL_isSettled s m args below meth c H locs cells slots (MQ below (jRz jfI Q D z A) args s 0 0 A) (F0 m 5 ls [])) (n : Nat) : ∀ {x0 : Option Nat} {x1 : Option Nat} {x2 : Option Nat} {x3 : Int32} {x4 : Int32} {x7 : Int32} {μ : jM} {H : Heap} {locs : List Loc} {ls : Array Slot} {cells slots : Nat}, wL_isSettled_168 z K5 Q n x0 x1 x2 x3 x4 x7 μ → jIz D z A s.heap μ H locs → lv_has ls 10 [(0, va_rf x0), (1, va_rf x1), (2, va_rf x2), (3, .int x3), (4, .int x4), (7, .int x7)] → cells + 0 ≤ 0 → slots + 0 ≤ 0 → W p l e rmL_isSettled s m args below meth c H locs cells slots (MQ below (jRz jfI Q D z A) args s 0 0 A) (F0 m 168 ls []) := by
  induction n with
  | zero =>
    intros
    rename_i hw _ _ _ _
    exact (show False from hw).elim
  | succ n ih =>
    intro x0 x1 x2 x3 x4 x7 μ H locs ls cells slots hw hI hl hcn hsn
    have hw : wL_isSettled_168_b z K5 Q (wL_isSettled_168 z K5 Q n) x0 x1 x2 x3 x4 x7 μ := hw
    unfold wL_isSettled_168_b at hw
    obtain ⟨hx, hb, hml, hown, hts, hr, hlocks, hnm, hK, hG, hfl⟩ := id hX
    have hown : s.vm.findClass RL = some m.cls := hown
    refine lv_iload hx hb dL_isSettled_168 (lv_at hl 5 rfl) ?_
    refine j_aload_n (r := x1) hx hb dL_isSettled_170 rfl (lv_at hl 1 rfl) ?_
    refine lv_iconst (v := (1)) hx hb dL_isSettled_171 (by decide) ?_
    obtain ⟨v1, hv1, hw⟩ := hw
    refine j_ialdz (r := x1) hx hb hK hI hv1 dL_isSettled_172 ?_
    refine lv_icmp_ge (tgt := 235) hx hb dL_isSettled_173 (by decide) (fun hc => ?_) (fun hc => ?_)
    · have hw := hw.1 hc
      obtain ⟨v2, ev2⟩ : ∃ y : Int32, y = x4 + (1 : Int32) := ⟨_, rfl⟩
      have hw := hw v2 ev2
      refine lv_iinc (v := v2) (lv' := [(4, .int v2), (0, va_rf x0), (1, va_rf x1), (2, va_rf x2), (3, .int x3), (7, .int x7)]) hx hb dL_isSettled_235 hl (k := 4) rfl (by rw [ev2]; rfl) (by decide) rfl (fun ls hl => ?_)
      refine lv_goto (tgt := 5) hx hb dL_isSettled_238 (by decide) ?_
      exact hK5 hw hI (lv_sub hl [1, 2, 3, 4, 0] rfl) (by omega) (by omega)
    · have hw := hw.2 hc
      refine lv_iload_n hx hb dL_isSettled_176 rfl (lv_at hl 3 rfl) ?_
      refine lv_if_eq (tgt := 227) hx hb dL_isSettled_177 (by decide) (fun hc => ?_) (fun hc => ?_)
      · have hw := hw.1 hc
        refine lv_iconst (v := (0)) hx hb dL_isSettled_227 (by decide) ?_
        refine lv_topi (fun v3 ev3 => ?_)
        have hw := hw v3 ev3
        refine j_istore_nA (r := x2) (F := fun w => [(0, va_rf x0), (1, va_rf x1), (2, w), (3, .int x3), (4, .int x4), (7, .int x7)]) (F2 := fun w => [(3, .int v3), (0, va_rf x0), (1, va_rf x1), (2, w), (4, .int x4), (7, .int x7)]) hx hb dL_isSettled_228 rfl hl (by decide) (fun w hw => by rcases hw with rfl | ⟨_, rfl⟩ <;> rfl) (fun ls hl => ?_)
        obtain ⟨v4, ev4⟩ : ∃ y : Int32, y = x7 + (1 : Int32) := ⟨_, rfl⟩
        have hw := hw v4 ev4
        refine lv_iinc (v := v4) (lv' := [(7, .int v4), (3, .int v3), (0, va_rf x0), (1, va_rf x1), (2, va_rf x2), (4, .int x4)]) hx hb dL_isSettled_229 hl (k := 5) rfl (by rw [ev4]; rfl) (by decide) rfl (fun ls hl => ?_)
        refine lv_goto (tgt := 168) hx hb dL_isSettled_232 (by decide) ?_
        exact ih hw hI (lv_sub hl [2, 3, 4, 1, 5, 0] rfl) (by omega) (by omega)
      · have hw := hw.2 hc
        refine j_aload_n (r := x1) hx hb dL_isSettled_180 rfl (lv_at hl 1 rfl) ?_
        refine lv_iconst (v := (2)) hx hb dL_isSettled_181 (by decide) ?_
        refine lv_iload hx hb dL_isSettled_182 (lv_at hl 5 rfl) ?_
        refine lv_imul hx hb dL_isSettled_184 ?_
        refine lv_bipush (v := (22)) hx hb dL_isSettled_185 (by decide) ?_
        refine lv_iadd hx hb dL_isSettled_187 ?_
        obtain ⟨v5, hv5, hw⟩ := hw
        refine j_ialdz (r := x1) hx hb hK hI hv5 dL_isSettled_188 ?_
        refine lv_iload hx hb dL_isSettled_189 (lv_at hl 4 rfl) ?_
        refine lv_icmp_ne (tgt := 223) hx hb dL_isSettled_191 (by decide) (fun hc => ?_) (fun hc => ?_)
        · have hw := hw.1 hc
          refine lv_iconst (v := (1)) hx hb dL_isSettled_223 (by decide) ?_
          refine lv_goto (tgt := 228) hx hb dL_isSettled_224 (by decide) ?_
          refine lv_topi (fun v6 ev6 => ?_)
          have hw := hw v6 ev6
          refine j_istore_nA (r := x2) (F := fun w => [(0, va_rf x0), (1, va_rf x1), (2, w), (3, .int x3), (4, .int x4), (7, .int x7)]) (F2 := fun w => [(3, .int v6), (0, va_rf x0), (1, va_rf x1), (2, w), (4, .int x4), (7, .int x7)]) hx hb dL_isSettled_228 rfl hl (by decide) (fun w hw => by rcases hw with rfl | ⟨_, rfl⟩ <;> rfl) (fun ls hl => ?_)
          obtain ⟨v7, ev7⟩ : ∃ y : Int32, y = x7 + (1 : Int32) := ⟨_, rfl⟩
          have hw := hw v7 ev7
          refine lv_iinc (v := v7) (lv' := [(7, .int v7), (3, .int v6), (0, va_rf x0), (1, va_rf x1), (2, va_rf x2), (4, .int x4)]) hx hb dL_isSettled_229 hl (k := 5) rfl (by rw [ev7]; rfl) (by decide) rfl (fun ls hl => ?_)
          refine lv_goto (tgt := 168) hx hb dL_isSettled_232 (by decide) ?_
          exact ih hw hI (lv_sub hl [2, 3, 4, 1, 5, 0] rfl) (by omega) (by omega)
        · have hw := hw.2 hc
          refine j_aload_n (r := x0) hx hb dL_isSettled_194 rfl (lv_at hl 0 rfl) ?_
          refine lv_iload hx hb dL_isSettled_195 (lv_at hl 4 rfl) ?_
          obtain ⟨b10, ⟨hrb10, hfs⟩, hw⟩ := hw
          refine j_goz hI (va_runV (As := [.int x4]) (rest := []) ⟨hx, hb, hml, hown, hts⟩ (kX9_balance l hfl D z b10 x4 μ H.size _) (cwV 1 hts gL_isSettled_X9_balance rfl rfl rfl (by decide +kernel) ⟨Nat.le_of_ble_eq_true rfl, Nat.le_of_ble_eq_true rfl⟩) (j_prV2z hK hG hI hw (ci := 11) rfl hfs) rfl rfl hl.1 (by rw [hrb10]; rfl) (lv_room (Nat.le_of_ble_eq_true rfl)) dL_isSettled_197 ⟨by show _ ≤ 0; omega, by show _ ≤ 0; omega⟩) (fun v8 μ9 H locs hw hI => ?_)
          refine W.eq (g2 := F0 m 200 ls [.long v8]) rfl ?_
          refine lv_lconst (v := (0)) hx hb dL_isSettled_200 (by decide) ?_
          refine j_lcmp_ge (tgt := 223) hx hb dL_isSettled_201 dL_isSettled_202 (by decide) (fun hc => ?_) (fun hc => ?_)
          · have hw := hw.1 hc
            refine lv_iconst (v := (1)) hx hb dL_isSettled_223 (by decide) ?_
            refine lv_goto (tgt := 228) hx hb dL_isSettled_224 (by decide) ?_
            refine lv_topi (fun v11 ev11 => ?_)
            have hw := hw v11 ev11
            refine j_istore_nA (r := x2) (F := fun w => [(0, va_rf x0), (1, va_rf x1), (2, w), (3, .int x3), (4, .int x4), (7, .int x7)]) (F2 := fun w => [(3, .int v11), (0, va_rf x0), (1, va_rf x1), (2, w), (4, .int x4), (7, .int x7)]) hx hb dL_isSettled_228 rfl hl (by decide) (fun w hw => by rcases hw with rfl | ⟨_, rfl⟩ <;> rfl) (fun ls hl => ?_)
            obtain ⟨v12, ev12⟩ : ∃ y : Int32, y = x7 + (1 : Int32) := ⟨_, rfl⟩
            have hw := hw v12 ev12
            refine lv_iinc (v := v12) (lv' := [(7, .int v12), (3, .int v11), (0, va_rf x0), (1, va_rf x1), (2, va_rf x2), (4, .int x4)]) hx hb dL_isSettled_229 hl (k := 5) rfl (by rw [ev12]; rfl) (by decide) rfl (fun ls hl => ?_)
            refine lv_goto (tgt := 168) hx hb dL_isSettled_232 (by decide) ?_
            exact ih hw hI (lv_sub hl [2, 3, 4, 1, 5, 0] rfl) (by omega) (by omega)
          · have hw := hw.2 hc
            refine j_aload_n (r := x0) hx hb dL_isSettled_205 rfl (lv_at hl 0 rfl) ?_
            refine lv_iload hx hb dL_isSettled_206 (lv_at hl 5 rfl) ?_
            obtain ⟨b15, ⟨hrb15, hfs⟩, hw⟩ := hw
            refine j_goz hI (va_runV (As := [.int x7]) (rest := []) ⟨hx, hb, hml, hown, hts⟩ (kX9_drawn l hfl D z b15 x7 μ9 H.size _) (cwV 1 hts gL_isSettled_X9_drawn rfl rfl rfl (by decide +kernel) ⟨Nat.le_of_ble_eq_true rfl, Nat.le_of_ble_eq_true rfl⟩) (j_prV2z hK hG hI hw (ci := 11) rfl hfs) rfl rfl hl.1 (by rw [hrb15]; rfl) (lv_room (Nat.le_of_ble_eq_true rfl)) dL_isSettled_208 ⟨by show _ ≤ 0; omega, by show _ ≤ 0; omega⟩) (fun v13 μ14 H locs hw hI => ?_)
            refine W.eq (g2 := F0 m 211 ls [.int v13]) rfl ?_
            refine j_aload_n (r := x1) hx hb dL_isSettled_211 rfl (lv_at hl 1 rfl) ?_
            refine lv_iconst (v := (2)) hx hb dL_isSettled_212 (by decide) ?_
            refine lv_iload hx hb dL_isSettled_213 (lv_at hl 5 rfl) ?_
            refine lv_imul hx hb dL_isSettled_215 ?_
            refine lv_bipush (v := (23)) hx hb dL_isSettled_216 (by decide) ?_
            refine lv_iadd hx hb dL_isSettled_218 ?_
            obtain ⟨v16, hv16, hw⟩ := hw
            refine j_ialdz (r := x1) hx hb hK hI hv16 dL_isSettled_219 ?_
            refine lv_icmp_ne (tgt := 227) hx hb dL_isSettled_220 (by decide) (fun hc => ?_) (fun hc => ?_)
            · have hw := hw.1 hc
              refine lv_iconst (v := (0)) hx hb dL_isSettled_227 (by decide) ?_
              refine lv_topi (fun v17 ev17 => ?_)
              have hw := hw v17 ev17
              refine j_istore_nA (r := x2) (F := fun w => [(0, va_rf x0), (1, va_rf x1), (2, w), (3, .int x3), (4, .int x4), (7, .int x7)]) (F2 := fun w => [(3, .int v17), (0, va_rf x0), (1, va_rf x1), (2, w), (4, .int x4), (7, .int x7)]) hx hb dL_isSettled_228 rfl hl (by decide) (fun w hw => by rcases hw with rfl | ⟨_, rfl⟩ <;> rfl) (fun ls hl => ?_)
              obtain ⟨v18, ev18⟩ : ∃ y : Int32, y = x7 + (1 : Int32) := ⟨_, rfl⟩
              have hw := hw v18 ev18
              refine lv_iinc (v := v18) (lv' := [(7, .int v18), (3, .int v17), (0, va_rf x0), (1, va_rf x1), (2, va_rf x2), (4, .int x4)]) hx hb dL_isSettled_229 hl (k := 5) rfl (by rw [ev18]; rfl) (by decide) rfl (fun ls hl => ?_)
              refine lv_goto (tgt := 168) hx hb dL_isSettled_232 (by decide) ?_
              exact ih hw hI (lv_sub hl [2, 3, 4, 1, 5, 0] rfl) (by omega) (by omega)
            · have hw := hw.2 hc
              refine lv_iconst (v := (1)) hx hb dL_isSettled_223 (by decide) ?_
              refine lv_goto (tgt := 228) hx hb dL_isSettled_224 (by decide) ?_
              refine lv_topi (fun v19 ev19 => ?_)
              have hw := hw v19 ev19
              refine j_istore_nA (r := x2) (F := fun w => [(0, va_rf x0), (1, va_rf x1), (2, w), (3, .int x3), (4, .int x4), (7, .int x7)]) (F2 := fun w => [(3, .int v19), (0, va_rf x0), (1, va_rf x1), (2, w), (4, .int x4), (7, .int x7)]) hx hb dL_isSettled_228 rfl hl (by decide) (fun w hw => by rcases hw with rfl | ⟨_, rfl⟩ <;> rfl) (fun ls hl => ?_)
              obtain ⟨v20, ev20⟩ : ∃ y : Int32, y = x7 + (1 : Int32) := ⟨_, rfl⟩
              have hw := hw v20 ev20
              refine lv_iinc (v := v20) (lv' := [(7, .int v20), (3, .int v19), (0, va_rf x0), (1, va_rf x1), (2, va_rf x2), (4, .int x4)]) hx hb dL_isSettled_229 hl (k := 5) rfl (by rw [ev20]; rfl) (by decide) rfl (fun ls hl => ?_)
              refine lv_goto (tgt := 168) hx hb dL_isSettled_232 (by decide) ?_
              exact ih hw hI (lv_sub hl [2, 3, 4, 1, 5, 0] rfl) (by omega) (by omega)
set_option maxHeartbeats 4000000 in
set_option maxRecDepth 100000 in
theorem kL_isSettled_66 (hX : jX2 D z A p l s m args meth c yL_isSettled cL_isSettled 10 wsL_isSettled (some .boolean)) {Q : Int32 → jM → Prop} {K5 : Option Nat → Option Nat → Option Nat → Int32 → Int32 → jM → Prop} (hK5 : ∀ {x0 : Option Nat} {x1 : Option Nat} {x2 : Option Nat} {x3 : Int32} {x4 : Int32} {μ : jM} {H : Heap} {locs : List Loc} {ls : Array Slot} {cells slots : Nat}, K5 x0 x1 x2 x3 x4 μ → jIz D z A s.heap μ H locs → lv_has ls 10 [(0, va_rf x0), (1, va_rf x1), (2, va_rf x2), (3, .int x3), (4, .int x4)] → cells + 0 ≤ 0 → slots + 0 ≤ 0 → W p l e rmL_isSettled s m args below meth c H locs cells slots (MQ below (jRz jfI Q D z A) args s 0 0 A) (F0 m 5 ls [])) (n : Nat) : ∀ {x0 : Option Nat} {x1 : Option Nat} {x2 : Option Nat} {x3 : Int32} {x4 : Int32} {x6 : Int32} {x7 : Int32} {μ : jM} {H : Heap} {locs : List Loc} {ls : Array Slot} {cells slots : Nat}, wL_isSettled_66 z K5 Q n x0 x1 x2 x3 x4 x6 x7 μ → jIz D z A s.heap μ H locs → lv_has ls 10 [(0, va_rf x0), (1, va_rf x1), (2, va_rf x2), (3, .int x3), (4, .int x4), (6, .int x6), (7, .int x7)] → cells + 0 ≤ 0 → slots + 0 ≤ 0 → W p l e rmL_isSettled s m args below meth c H locs cells slots (MQ below (jRz jfI Q D z A) args s 0 0 A) (F0 m 66 ls []) := by
  induction n with
  | zero =>
    intros
    rename_i hw _ _ _ _
    exact (show False from hw).elim
  | succ n ih =>
    intro x0 x1 x2 x3 x4 x6 x7 μ H locs ls cells slots hw hI hl hcn hsn
    have hw : wL_isSettled_66_b z K5 Q (wL_isSettled_66 z K5 Q n) x0 x1 x2 x3 x4 x6 x7 μ := hw
    unfold wL_isSettled_66_b at hw
    obtain ⟨hx, hb, hml, hown, hts, hr, hlocks, hnm, hK, hG, hfl⟩ := id hX
    have hown : s.vm.findClass RL = some m.cls := hown
    refine lv_iload hx hb dL_isSettled_66 (lv_at hl 6 rfl) ?_
    refine j_aload_n (r := x1) hx hb dL_isSettled_68 rfl (lv_at hl 1 rfl) ?_
    refine lv_iconst (v := (0)) hx hb dL_isSettled_69 (by decide) ?_
    obtain ⟨v1, hv1, hw⟩ := hw
    refine j_ialdz (r := x1) hx hb hK hI hv1 dL_isSettled_70 ?_
    refine lv_icmp_ge (tgt := 165) hx hb dL_isSettled_71 (by decide) (fun hc => ?_) (fun hc => ?_)
    · have hw := hw.1 hc
      refine lv_iconst (v := (0)) hx hb dL_isSettled_165 (by decide) ?_
      refine lv_topi (fun v2 ev2 => ?_)
      have hw := hw v2 ev2
      refine lv_istore (lv' := [(7, .int v2), (0, va_rf x0), (1, va_rf x1), (2, va_rf x2), (3, .int x3), (4, .int x4), (6, .int x6)]) hx hb dL_isSettled_166 hl (by decide) rfl (fun ls hl => ?_)
      obtain ⟨n3, hw⟩ := hw
      exact kL_isSettled_168 hX hK5 n3 hw hI (lv_sub hl [1, 2, 3, 4, 5, 0] rfl) (by omega) (by omega)
    · have hw := hw.2 hc
      refine j_aload_n (r := x1) hx hb dL_isSettled_74 rfl (lv_at hl 1 rfl) ?_
      refine lv_iconst (v := (2)) hx hb dL_isSettled_75 (by decide) ?_
      refine lv_iload hx hb dL_isSettled_76 (lv_at hl 6 rfl) ?_
      refine lv_imul hx hb dL_isSettled_78 ?_
      refine lv_iconst (v := (2)) hx hb dL_isSettled_79 (by decide) ?_
      refine lv_iadd hx hb dL_isSettled_80 ?_
      obtain ⟨v4, hv4, hw⟩ := hw
      refine j_ialdz (r := x1) hx hb hK hI hv4 dL_isSettled_81 ?_
      refine lv_istore (lv' := [(8, .int v4), (0, va_rf x0), (1, va_rf x1), (2, va_rf x2), (3, .int x3), (4, .int x4), (6, .int x6), (7, .int x7)]) hx hb dL_isSettled_82 hl (by decide) rfl (fun ls hl => ?_)
      refine j_aload_n (r := x1) hx hb dL_isSettled_84 rfl (lv_at hl 2 rfl) ?_
      refine lv_iload hx hb dL_isSettled_85 (lv_at hl 7 rfl) ?_
      refine j_goz hI (va_runS (As := [va_rf x1, .int x7]) (rest := []) ⟨hx, hb, hml, hown, hts⟩ (kL_top l hfl D z x1 x7 μ H.size _) (va_cwS 2 hts gL_isSettled_L_top rfl rfl rfl (by decide +kernel) ⟨Nat.le_of_ble_eq_true rfl, Nat.le_of_ble_eq_true rfl⟩) (j_prS2z hK hG hI hw) rfl rfl hl.1 rfl (lv_room (Nat.le_of_ble_eq_true rfl)) dL_isSettled_87 ⟨by show _ ≤ 0; omega, by show _ ≤ 0; omega⟩) (fun v5 μ6 H locs hw hI => ?_)
      refine W.eq (g2 := F0 m 90 ls [.int v5]) rfl ?_
      refine j_aload_n (r := x1) hx hb dL_isSettled_90 rfl (lv_at hl 2 rfl) ?_
      refine lv_iload hx hb dL_isSettled_91 (lv_at hl 5 rfl) ?_
      refine j_goz hI (va_runS (As := [va_rf x1, .int x4]) (rest := [.int v5]) ⟨hx, hb, hml, hown, hts⟩ (kL_top l hfl D z x1 x4 μ6 H.size _) (va_cwS 2 hts gL_isSettled_L_top rfl rfl rfl (by decide +kernel) ⟨Nat.le_of_ble_eq_true rfl, Nat.le_of_ble_eq_true rfl⟩) (j_prS2z hK hG hI hw) rfl rfl hl.1 rfl (lv_room (Nat.le_of_ble_eq_true rfl)) dL_isSettled_93 ⟨by show _ ≤ 0; omega, by show _ ≤ 0; omega⟩) (fun v7 μ8 H locs hw hI => ?_)
      refine W.eq (g2 := F0 m 96 ls [.int v7, .int v5]) rfl ?_
      refine lv_icmp_ne (tgt := 136) hx hb dL_isSettled_96 (by decide) (fun hc => ?_) (fun hc => ?_)
      · have hw := hw.1 hc
        exact kL_isSettled_136 hX hK5 ih hw hI (lv_sub hl [1, 2, 3, 4, 5, 6, 7] rfl) (by omega) (by omega)
      · have hw := hw.2 hc
        refine j_aload_n (r := x0) hx hb dL_isSettled_99 rfl (lv_at hl 1 rfl) ?_
        refine lv_iload hx hb dL_isSettled_100 (lv_at hl 7 rfl) ?_
        obtain ⟨b11, ⟨hrb11, hfs⟩, hw⟩ := hw
        refine j_goz hI (va_runV (As := [.int x7]) (rest := []) ⟨hx, hb, hml, hown, hts⟩ (kX9_balance l hfl D z b11 x7 μ8 H.size _) (cwV 1 hts gL_isSettled_X9_balance rfl rfl rfl (by decide +kernel) ⟨Nat.le_of_ble_eq_true rfl, Nat.le_of_ble_eq_true rfl⟩) (j_prV2z hK hG hI hw (ci := 11) rfl hfs) rfl rfl hl.1 (by rw [hrb11]; rfl) (lv_room (Nat.le_of_ble_eq_true rfl)) dL_isSettled_102 ⟨by show _ ≤ 0; omega, by show _ ≤ 0; omega⟩) (fun v9 μ10 H locs hw hI => ?_)
        refine W.eq (g2 := F0 m 105 ls [.long v9]) rfl ?_
        refine lv_lconst (v := (0)) hx hb dL_isSettled_105 (by decide) ?_
        refine j_lcmp_lt (tgt := 136) hx hb dL_isSettled_106 dL_isSettled_107 (by decide) (fun hc => ?_) (fun hc => ?_)
        · have hw := hw.1 hc
          exact kL_isSettled_136 hX hK5 ih hw hI (lv_sub hl [1, 2, 3, 4, 5, 6, 7] rfl) (by omega) (by omega)
        · have hw := hw.2 hc
          refine j_aload_n (r := x2) hx hb dL_isSettled_110 rfl (lv_at hl 3 rfl) ?_
          refine lv_iload hx hb dL_isSettled_111 (lv_at hl 0 rfl) ?_
          obtain ⟨v12, hv12, hw⟩ := hw
          refine j_ialdz (r := x2) hx hb hK hI hv12 dL_isSettled_113 ?_
          refine lv_if_lt (tgt := 132) hx hb dL_isSettled_114 (by decide) (fun hc => ?_) (fun hc => ?_)
          · have hw := hw.1 hc
            exact kL_isSettled_132 hX hK5 ih hw hI (lv_sub hl [1, 2, 3, 4, 5, 6, 7] rfl) (by omega) (by omega)
          · have hw := hw.2 hc
            refine j_aload_n (r := x0) hx hb dL_isSettled_117 rfl (lv_at hl 1 rfl) ?_
            refine lv_iload hx hb dL_isSettled_118 (lv_at hl 0 rfl) ?_
            obtain ⟨b15, ⟨hrb15, hfs⟩, hw⟩ := hw
            refine j_goz hI (va_runV (As := [.int v4]) (rest := []) ⟨hx, hb, hml, hown, hts⟩ (kX9_exposure l hfl D z b15 v4 μ10 H.size _) (cwV 1 hts gL_isSettled_X9_exposure rfl rfl rfl (by decide +kernel) ⟨Nat.le_of_ble_eq_true rfl, Nat.le_of_ble_eq_true rfl⟩) (j_prV2z hK hG hI hw (ci := 11) rfl hfs) rfl rfl hl.1 (by rw [hrb15]; rfl) (lv_room (Nat.le_of_ble_eq_true rfl)) dL_isSettled_120 ⟨by show _ ≤ 0; omega, by show _ ≤ 0; omega⟩) (fun v13 μ14 H locs hw hI => ?_)
            refine W.eq (g2 := F0 m 123 ls [.long v13]) rfl ?_
            refine j_aload_n (r := x2) hx hb dL_isSettled_123 rfl (lv_at hl 3 rfl) ?_
            refine lv_iload hx hb dL_isSettled_124 (lv_at hl 0 rfl) ?_
            obtain ⟨v16, hv16, hw⟩ := hw
            refine j_ialdz (r := x2) hx hb hK hI hv16 dL_isSettled_126 ?_
            refine lv_i2l hx hb dL_isSettled_127 rfl ?_
            refine j_lcmp_ge (tgt := 136) hx hb dL_isSettled_128 dL_isSettled_129 (by decide) (fun hc => ?_) (fun hc => ?_)
            · have hw := hw.1 hc
              exact kL_isSettled_136 hX hK5 ih hw hI (lv_sub hl [1, 2, 3, 4, 5, 6, 7] rfl) (by omega) (by omega)
            · have hw := hw.2 hc
              exact kL_isSettled_132 hX hK5 ih hw hI (lv_sub hl [1, 2, 3, 4, 5, 6, 7] rfl) (by omega) (by omega)
set_option maxHeartbeats 4000000 in
set_option maxRecDepth 100000 in
theorem kL_isSettled_5 (hX : jX2 D z A p l s m args meth c yL_isSettled cL_isSettled 10 wsL_isSettled (some .boolean)) {Q : Int32 → jM → Prop}  (n : Nat) : ∀ {x0 : Option Nat} {x1 : Option Nat} {x2 : Option Nat} {x3 : Int32} {x4 : Int32} {μ : jM} {H : Heap} {locs : List Loc} {ls : Array Slot} {cells slots : Nat}, wL_isSettled_5 z Q n x0 x1 x2 x3 x4 μ → jIz D z A s.heap μ H locs → lv_has ls 10 [(0, va_rf x0), (1, va_rf x1), (2, va_rf x2), (3, .int x3), (4, .int x4)] → cells + 0 ≤ 0 → slots + 0 ≤ 0 → W p l e rmL_isSettled s m args below meth c H locs cells slots (MQ below (jRz jfI Q D z A) args s 0 0 A) (F0 m 5 ls []) := by
  induction n with
  | zero =>
    intros
    rename_i hw _ _ _ _
    exact (show False from hw).elim
  | succ n ih =>
    intro x0 x1 x2 x3 x4 μ H locs ls cells slots hw hI hl hcn hsn
    have hw : wL_isSettled_5_b z Q (wL_isSettled_5 z Q n) x0 x1 x2 x3 x4 μ := hw
    unfold wL_isSettled_5_b at hw
    obtain ⟨hx, hb, hml, hown, hts, hr, hlocks, hnm, hK, hG, hfl⟩ := id hX
    have hown : s.vm.findClass RL = some m.cls := hown
    refine lv_iload hx hb dL_isSettled_5 (lv_at hl 4 rfl) ?_
    refine j_aload_n (r := x1) hx hb dL_isSettled_7 rfl (lv_at hl 1 rfl) ?_
    refine lv_iconst (v := (0)) hx hb dL_isSettled_8 (by decide) ?_
    obtain ⟨v1, hv1, hw⟩ := hw
    refine j_ialdz (r := x1) hx hb hK hI hv1 dL_isSettled_9 ?_
    refine lv_icmp_ge (tgt := 241) hx hb dL_isSettled_10 (by decide) (fun hc => ?_) (fun hc => ?_)
    · have hw := hw.1 hc
      refine lv_iload_n hx hb dL_isSettled_241 rfl (lv_at hl 3 rfl) ?_
      obtain ⟨hz, hw⟩ := hw
      exact j_zretz hx hb hr hz hlocks hI hw (by omega) (by omega) dL_isSettled_242
    · have hw := hw.2 hc
      refine j_aload_n (r := x1) hx hb dL_isSettled_13 rfl (lv_at hl 1 rfl) ?_
      refine lv_iconst (v := (2)) hx hb dL_isSettled_14 (by decide) ?_
      refine lv_iload hx hb dL_isSettled_15 (lv_at hl 4 rfl) ?_
      refine lv_imul hx hb dL_isSettled_17 ?_
      refine lv_iconst (v := (2)) hx hb dL_isSettled_18 (by decide) ?_
      refine lv_iadd hx hb dL_isSettled_19 ?_
      obtain ⟨v2, hv2, hw⟩ := hw
      refine j_ialdz (r := x1) hx hb hK hI hv2 dL_isSettled_20 ?_
      refine lv_istore (lv' := [(5, .int v2), (0, va_rf x0), (1, va_rf x1), (2, va_rf x2), (3, .int x3), (4, .int x4)]) hx hb dL_isSettled_21 hl (by decide) rfl (fun ls hl => ?_)
      refine j_aload_n (r := x0) hx hb dL_isSettled_23 rfl (lv_at hl 1 rfl) ?_
      refine lv_iload hx hb dL_isSettled_24 (lv_at hl 5 rfl) ?_
      obtain ⟨b5, ⟨hrb5, hfs⟩, hw⟩ := hw
      refine j_goz hI (va_runV (As := [.int x4]) (rest := []) ⟨hx, hb, hml, hown, hts⟩ (kX9_balance l hfl D z b5 x4 μ H.size _) (cwV 1 hts gL_isSettled_X9_balance rfl rfl rfl (by decide +kernel) ⟨Nat.le_of_ble_eq_true rfl, Nat.le_of_ble_eq_true rfl⟩) (j_prV2z hK hG hI hw (ci := 11) rfl hfs) rfl rfl hl.1 (by rw [hrb5]; rfl) (lv_room (Nat.le_of_ble_eq_true rfl)) dL_isSettled_26 ⟨by show _ ≤ 0; omega, by show _ ≤ 0; omega⟩) (fun v3 μ4 H locs hw hI => ?_)
      refine W.eq (g2 := F0 m 29 ls [.long v3]) rfl ?_
      refine lv_lconst (v := (0)) hx hb dL_isSettled_29 (by decide) ?_
      refine j_lcmp_le (tgt := 60) hx hb dL_isSettled_30 dL_isSettled_31 (by decide) (fun hc => ?_) (fun hc => ?_)
      · have hw := hw.1 hc
        refine lv_iconst (v := (0)) hx hb dL_isSettled_60 (by decide) ?_
        refine lv_topi (fun v6 ev6 => ?_)
        have hw := hw v6 ev6
        refine lv_istore (lv' := [(6, .int v6), (5, .int v2), (0, va_rf x0), (1, va_rf x1), (2, va_rf x2), (3, .int x3), (4, .int x4)]) hx hb dL_isSettled_61 hl (by decide) rfl (fun ls hl => ?_)
        refine lv_iconst (v := (0)) hx hb dL_isSettled_63 (by decide) ?_
        refine lv_topi (fun v7 ev7 => ?_)
        have hw := hw v7 ev7
        refine lv_istore (lv' := [(7, .int v7), (6, .int v6), (5, .int v2), (0, va_rf x0), (1, va_rf x1), (2, va_rf x2), (3, .int x3), (4, .int x4)]) hx hb dL_isSettled_64 hl (by decide) rfl (fun ls hl => ?_)
        obtain ⟨n8, hw⟩ := hw
        exact kL_isSettled_66 hX ih n8 hw hI (lv_sub hl [3, 4, 5, 6, 7, 1, 0] rfl) (by omega) (by omega)
      · have hw := hw.2 hc
        refine j_aload_n (r := x2) hx hb dL_isSettled_34 rfl (lv_at hl 3 rfl) ?_
        refine lv_iload hx hb dL_isSettled_35 (lv_at hl 0 rfl) ?_
        obtain ⟨v9, hv9, hw⟩ := hw
        refine j_ialdz (r := x2) hx hb hK hI hv9 dL_isSettled_37 ?_
        refine lv_if_lt (tgt := 60) hx hb dL_isSettled_38 (by decide) (fun hc => ?_) (fun hc => ?_)
        · have hw := hw.1 hc
          refine lv_iconst (v := (0)) hx hb dL_isSettled_60 (by decide) ?_
          refine lv_topi (fun v10 ev10 => ?_)
          have hw := hw v10 ev10
          refine lv_istore (lv' := [(6, .int v10), (5, .int v2), (0, va_rf x0), (1, va_rf x1), (2, va_rf x2), (3, .int x3), (4, .int x4)]) hx hb dL_isSettled_61 hl (by decide) rfl (fun ls hl => ?_)
          refine lv_iconst (v := (0)) hx hb dL_isSettled_63 (by decide) ?_
          refine lv_topi (fun v11 ev11 => ?_)
          have hw := hw v11 ev11
          refine lv_istore (lv' := [(7, .int v11), (6, .int v10), (5, .int v2), (0, va_rf x0), (1, va_rf x1), (2, va_rf x2), (3, .int x3), (4, .int x4)]) hx hb dL_isSettled_64 hl (by decide) rfl (fun ls hl => ?_)
          obtain ⟨n12, hw⟩ := hw
          exact kL_isSettled_66 hX ih n12 hw hI (lv_sub hl [3, 4, 5, 6, 7, 1, 0] rfl) (by omega) (by omega)
        · have hw := hw.2 hc
          refine j_aload_n (r := x0) hx hb dL_isSettled_41 rfl (lv_at hl 1 rfl) ?_
          refine lv_iload hx hb dL_isSettled_42 (lv_at hl 0 rfl) ?_
          obtain ⟨b15, ⟨hrb15, hfs⟩, hw⟩ := hw
          refine j_goz hI (va_runV (As := [.int v2]) (rest := []) ⟨hx, hb, hml, hown, hts⟩ (kX9_exposure l hfl D z b15 v2 μ4 H.size _) (cwV 1 hts gL_isSettled_X9_exposure rfl rfl rfl (by decide +kernel) ⟨Nat.le_of_ble_eq_true rfl, Nat.le_of_ble_eq_true rfl⟩) (j_prV2z hK hG hI hw (ci := 11) rfl hfs) rfl rfl hl.1 (by rw [hrb15]; rfl) (lv_room (Nat.le_of_ble_eq_true rfl)) dL_isSettled_44 ⟨by show _ ≤ 0; omega, by show _ ≤ 0; omega⟩) (fun v13 μ14 H locs hw hI => ?_)
          refine W.eq (g2 := F0 m 47 ls [.long v13]) rfl ?_
          refine j_aload_n (r := x2) hx hb dL_isSettled_47 rfl (lv_at hl 3 rfl) ?_
          refine lv_iload hx hb dL_isSettled_48 (lv_at hl 0 rfl) ?_
          obtain ⟨v16, hv16, hw⟩ := hw
          refine j_ialdz (r := x2) hx hb hK hI hv16 dL_isSettled_50 ?_
          refine lv_i2l hx hb dL_isSettled_51 rfl ?_
          refine j_lcmp_le (tgt := 60) hx hb dL_isSettled_52 dL_isSettled_53 (by decide) (fun hc => ?_) (fun hc => ?_)
          · have hw := hw.1 hc
            refine lv_iconst (v := (0)) hx hb dL_isSettled_60 (by decide) ?_
            refine lv_topi (fun v17 ev17 => ?_)
            have hw := hw v17 ev17
            refine lv_istore (lv' := [(6, .int v17), (5, .int v2), (0, va_rf x0), (1, va_rf x1), (2, va_rf x2), (3, .int x3), (4, .int x4)]) hx hb dL_isSettled_61 hl (by decide) rfl (fun ls hl => ?_)
            refine lv_iconst (v := (0)) hx hb dL_isSettled_63 (by decide) ?_
            refine lv_topi (fun v18 ev18 => ?_)
            have hw := hw v18 ev18
            refine lv_istore (lv' := [(7, .int v18), (6, .int v17), (5, .int v2), (0, va_rf x0), (1, va_rf x1), (2, va_rf x2), (3, .int x3), (4, .int x4)]) hx hb dL_isSettled_64 hl (by decide) rfl (fun ls hl => ?_)
            obtain ⟨n19, hw⟩ := hw
            exact kL_isSettled_66 hX ih n19 hw hI (lv_sub hl [3, 4, 5, 6, 7, 1, 0] rfl) (by omega) (by omega)
          · have hw := hw.2 hc
            refine lv_iconst (v := (1)) hx hb dL_isSettled_56 (by decide) ?_
            refine lv_goto (tgt := 61) hx hb dL_isSettled_57 (by decide) ?_
            refine lv_topi (fun v20 ev20 => ?_)
            have hw := hw v20 ev20
            refine lv_istore (lv' := [(6, .int v20), (5, .int v2), (0, va_rf x0), (1, va_rf x1), (2, va_rf x2), (3, .int x3), (4, .int x4)]) hx hb dL_isSettled_61 hl (by decide) rfl (fun ls hl => ?_)
            refine lv_iconst (v := (0)) hx hb dL_isSettled_63 (by decide) ?_
            refine lv_topi (fun v21 ev21 => ?_)
            have hw := hw v21 ev21
            refine lv_istore (lv' := [(7, .int v21), (6, .int v20), (5, .int v2), (0, va_rf x0), (1, va_rf x1), (2, va_rf x2), (3, .int x3), (4, .int x4)]) hx hb dL_isSettled_64 hl (by decide) rfl (fun ls hl => ?_)
            obtain ⟨n22, hw⟩ := hw
            exact kL_isSettled_66 hX ih n22 hw hI (lv_sub hl [3, 4, 5, 6, 7, 1, 0] rfl) (by omega) (by omega)
set_option maxHeartbeats 4000000 in
set_option maxRecDepth 100000 in
theorem kL_isSettled_0 (hX : jX2 D z A p l s m args meth c yL_isSettled cL_isSettled 10 wsL_isSettled (some .boolean)) {Q : Int32 → jM → Prop}  {x0 : Option Nat} {x1 : Option Nat} {x2 : Option Nat} {μ : jM} {H : Heap} {locs : List Loc} {ls : Array Slot} {cells slots : Nat} (hw : wL_isSettled_0 z Q x0 x1 x2 μ) (hI : jIz D z A s.heap μ H locs) (hl : lv_has ls 10 [(0, va_rf x0), (1, va_rf x1), (2, va_rf x2)]) (hcn : cells + 0 ≤ 0) (hsn : slots + 0 ≤ 0) : W p l e rmL_isSettled s m args below meth c H locs cells slots (MQ below (jRz jfI Q D z A) args s 0 0 A) (F0 m 0 ls []) := by
  unfold wL_isSettled_0 at hw
  obtain ⟨hx, hb, hml, hown, hts, hr, hlocks, hnm, hK, hG, hfl⟩ := id hX
  have hown : s.vm.findClass RL = some m.cls := hown
  refine lv_iconst (v := (1)) hx hb dL_isSettled_0 (by decide) ?_
  refine lv_topi (fun v1 ev1 => ?_)
  have hw := hw v1 ev1
  refine j_istore_nA (r := x2) (F := fun w => [(0, va_rf x0), (1, va_rf x1), (2, w)]) (F2 := fun w => [(3, .int v1), (0, va_rf x0), (1, va_rf x1), (2, w)]) hx hb dL_isSettled_1 rfl hl (by decide) (fun w hw => by rcases hw with rfl | ⟨_, rfl⟩ <;> rfl) (fun ls hl => ?_)
  refine lv_iconst (v := (0)) hx hb dL_isSettled_2 (by decide) ?_
  refine lv_topi (fun v2 ev2 => ?_)
  have hw := hw v2 ev2
  refine lv_istore (lv' := [(4, .int v2), (3, .int v1), (0, va_rf x0), (1, va_rf x1), (2, va_rf x2)]) hx hb dL_isSettled_3 hl (by decide) rfl (fun ls hl => ?_)
  obtain ⟨n3, hw⟩ := hw
  exact kL_isSettled_5 hX  n3 hw hI (lv_sub hl [2, 3, 4, 1, 0] rfl) (by omega) (by omega)
set_option maxHeartbeats 4000000 in
set_option maxRecDepth 100000 in
theorem kL_isSettled (l : Launch) (hfl : l.stackTraces = false) (D : jD) (z : Nat × Nat) (x0 : Option Nat) (x1 : Option Nat) (x2 : Option Nat) (μ : jM) (sz : Nat) (Q : Int32 → jM → Prop) : Met l yL_isSettled wsL_isSettled rmL_isSettled (jPre2z D z μ sz [va_rf x0, va_rf x1, va_rf x2] (wL_isSettled z x0 x1 x2 μ Q)) (jRz jfI Q D z (jA z μ sz)) 0 0 (jA z μ sz) := by
  refine Met.ofW (cc := cL_isSettled) (maxL := 10) (ret := (some .boolean)) (by decide) rfl ?_
  intro p e s m args below meth c s₁ B hml hv
  obtain ⟨rfl, hsz, hH, hz0, hK, hG, hw⟩ := hv
  subst hsz
  have hX : jX2 D z (jA z μ s.heap.size) p l s m _ meth c yL_isSettled cL_isSettled 10 wsL_isSettled (some .boolean) := ⟨B.exec, B.bytes, hml, findClass_of_methodNamed B.named, atoms_spec (ws := wsL_isSettled) B.pre, B.returns, B.notSynchronized, (name_of_methodNamed B.named B.method).1, hK, hG, hfl⟩
  obtain ⟨ls, hg, hl⟩ : ∃ ls : Array Slot, entryFrame m ([va_rf x0, va_rf x1, va_rf x2] : List Value).toArray 10 = F0 m 0 ls [] ∧ lv_has ls 10 [(0, va_rf x0), (1, va_rf x1), (2, va_rf x2)] := by
    cases x0 <;> cases x1 <;> cases x2 <;> exact ⟨_, lg_entry_eq .., lv_entry _ (n := 10) (Nat.le_of_ble_eq_true rfl)⟩
  rw [hg]
  exact kL_isSettled_0 hX hw (jIz.start hH hz0) (lv_sub hl [0, 1, 2] rfl) (by decide) (by decide)
end
