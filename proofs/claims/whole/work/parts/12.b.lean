/-! THE CLAIM OUT OF ONE WALK OF THE LAW'S BODY. Your part is whole_start (and what it stands on); all else here is the same for every law, but numbers. -/
def R_law : String := "CashPoolsLaw"
def lw_P (b : Addr) (xs : List Int32) (args : Array Value) (s : State) : Prop := args = #[.ref b] ∧ s.IntsAt b xs ∧ xs.length ≤ 3072 ∧ (Jvm.Cond.and given_1 narrow_1).before args s = true
def lw_Q (_ : Array Value) (s : State) (o : Outcome) (t : State) : Prop := o = .returned (some (.int 1)) ∧ Framed s o t [] 601024 7293033
def lw_Z (below : List Frame) (a : Array Value) (s : State) : State → Prop := fun t => ∃ o, t.status = .running ∧ Ended t below o ∧ lw_Q a s o t
/-- the law's own end, with 1 on the stack, nothing written that was there before, its room as the claim has it -/
theorem lw_ret {p : Program} {l : Launch} {e : Env} {s : State} {m : MethodId} {below : List Frame} {meth : Method} {c : Code} {b : Nat} (hx : p.tables.exec = Jvm.exec) (hb : c.code = code) (hr : meth.sig.returnType = ret) (hlocks : meth.locks = false) {pc : Nat} {H : Heap} {ls : Array Slot} (hdg : decode code pc = .ok (.ireturn, 1)) : W p l e room_1 s m #[Value.ref b] below meth c H [] 601024 7293033 (lw_Z below #[Value.ref b] s) (F0 m pc ls [.int 1]) := by
  intro T hT X
  obtain ⟨fs, hret, hrun, hended, hW, hframe⟩ := X.leave (v := some (.int 1)) (hlocks := hlocks) (fun h => by rw [hr] at h; cases h)
  have hmeth' : T.vm.method? m = some meth := X.method'
  refine ⟨T.setFrames fs, ?_, .returned (some (.int 1)), hrun, hended, rfl, ⟨_, rfl⟩, hW, hframe⟩
  jvm_step X.here [X.here.top, hx, hb, hdg, hmeth', hr, ret, narrow_b1]
  (try refine ⟨rfl, ?_⟩); (try refine ⟨rfl, ?_⟩)
  first | (intro acts; rw [hret _ acts rfl rfl rfl]) | rw [hret _ _ rfl rfl rfl]
  exact Steps.refl _
/-- what holds at the law's entry: the machine, the code, the tables' words (any of lw_tbl by 'hts w (by decide +kernel)'), the script of L ints xs at the cell b, what the Statement gives of the start (any of its parts by flat_of_before) -/
def lw_At (p : Program) (s : State) (m : MethodId) (meth : Method) (c : Code) (b L : Nat) (xs : Nat → Int32) : Prop :=
  p.tables.exec = Jvm.exec ∧ c.code = code ∧ meth.sig.returnType = ret ∧ c.maxLocals = 8 ∧ s.vm.findClass R_law = some m.cls ∧ (∀ w ∈ lw_tbl, w.before #[Value.ref b] s = true) ∧ va_X b L xs s s.heap ∧ b < s.heap.size ∧ meth.locks = false ∧ (Jvm.Cond.and given_1 narrow_1).before #[Value.ref b] s = true
-- ===== YOUR PART BEGINS =====
section
variable {p : Program} {l : Launch} {e : Env} {s : State} {m : MethodId} {args : Array Value} {below : List Frame} {meth : Method} {c : Code} {D : jD} {z : Nat × Nat} {A : Nat → Prop}
set_option maxHeartbeats 4000000 in
set_option maxRecDepth 100000 in
theorem kL_law_1855 {b : Nat} {L : Nat} {xs : Nat → Int32} (hX : jXL D z p l s m b L xs meth c) {capC capS : Nat} {K23 : Option Nat → Option Nat → Option Nat → Int32 → jM → Prop} (hK23 : ∀ {x1 : Option Nat} {x2 : Option Nat} {x3 : Option Nat} {x4 : Int32} {μ : jM} {H : Heap} {locs : List Loc} {ls : Array Slot} {cells slots : Nat}, K23 x1 x2 x3 x4 μ → jIz D z (jAL s) s.heap μ H locs → lv_has ls 8 [(0, va_rf (some b)), (1, va_rf x1), (2, va_rf x2), (3, va_rf x3), (4, .int x4)] → cells + capC ≤ 601024 → slots + capS ≤ 7293033 → W p l e room_1 s m #[Value.ref b] below meth c H locs cells slots (lw_Z below #[Value.ref b] s) (F0 m 23 ls [])) {x1 : Option Nat} {x2 : Option Nat} {x3 : Option Nat} {x4 : Int32} {μ : jM} {H : Heap} {locs : List Loc} {ls : Array Slot} {cells slots : Nat} (hw : wL_law_1855 z b K23 L xs x1 x2 x3 x4 μ) (hI : jIz D z (jAL s) s.heap μ H locs) (hl : lv_has ls 8 [(0, va_rf (some b)), (1, va_rf x1), (2, va_rf x2), (3, va_rf x3), (4, .int x4)]) (hcn : cells + 0 + capC ≤ 601024) (hsn : slots + 0 + capS ≤ 7293033) : W p l e room_1 s m #[Value.ref b] below meth c H locs cells slots (lw_Z below #[Value.ref b] s) (F0 m 1855 ls []) := by
  unfold wL_law_1855 at hw
  obtain ⟨hx, hb, hml, hown, hts, hr, hlocks, hK, hG, hfl, hXs, hbl⟩ := id hX
  have hbA : ¬ jAL s b := Nat.not_le.mpr hbl
  obtain ⟨v1, ev1⟩ : ∃ y : Int32, y = x4 + (6 : Int32) := ⟨_, rfl⟩
  have hw := hw v1 ev1
  refine j_iincA (r := x3) (F := fun w => [(0, va_rf (some b)), (1, va_rf x1), (2, va_rf x2), (3, w), (4, .int x4)]) (F2 := fun w => [(4, .int v1), (0, va_rf (some b)), (1, va_rf x1), (2, va_rf x2), (3, w)]) (v := v1) hx hb dL_law_1855 hl (k := 4) (fun _ => rfl) (by rw [ev1]; rfl) (by decide) (fun w hw => by rcases hw with rfl | ⟨_, rfl⟩ <;> rfl) (fun ls hl => ?_)
  refine lv_goto (tgt := 23) hx hb dL_law_1858 (by decide) ?_
  exact hK23 hw hI (lv_sub hl [1, 2, 3, 4, 0] rfl) (by omega) (by omega)
set_option maxHeartbeats 4000000 in
set_option maxRecDepth 100000 in
theorem kL_law_168 {b : Nat} {L : Nat} {xs : Nat → Int32} (hX : jXL D z p l s m b L xs meth c) {capC capS : Nat} {K23 : Option Nat → Option Nat → Option Nat → Int32 → jM → Prop} (hK23 : ∀ {x1 : Option Nat} {x2 : Option Nat} {x3 : Option Nat} {x4 : Int32} {μ : jM} {H : Heap} {locs : List Loc} {ls : Array Slot} {cells slots : Nat}, K23 x1 x2 x3 x4 μ → jIz D z (jAL s) s.heap μ H locs → lv_has ls 8 [(0, va_rf (some b)), (1, va_rf x1), (2, va_rf x2), (3, va_rf x3), (4, .int x4)] → cells + capC ≤ 601024 → slots + capS ≤ 7293033 → W p l e room_1 s m #[Value.ref b] below meth c H locs cells slots (lw_Z below #[Value.ref b] s) (F0 m 23 ls [])) {x1 : Option Nat} {x2 : Option Nat} {x3 : Option Nat} {x4 : Int32} {μ : jM} {H : Heap} {locs : List Loc} {ls : Array Slot} {cells slots : Nat} (hw : wL_law_168 z b K23 L xs x1 x2 x3 x4 μ) (hI : jIz D z (jAL s) s.heap μ H locs) (hl : lv_has ls 8 [(0, va_rf (some b)), (1, va_rf x1), (2, va_rf x2), (3, va_rf x3), (4, .int x4)]) (hcn : cells + 22 + capC ≤ 601024) (hsn : slots + 246 + capS ≤ 7293033) : W p l e room_1 s m #[Value.ref b] below meth c H locs cells slots (lw_Z below #[Value.ref b] s) (F0 m 168 ls []) := by
  unfold wL_law_168 at hw
  obtain ⟨hx, hb, hml, hown, hts, hr, hlocks, hK, hG, hfl, hXs, hbl⟩ := id hX
  have hbA : ¬ jAL s b := Nat.not_le.mpr hbl
  refine j_aload_n (r := x1) hx hb dL_law_168 rfl (lv_at hl 1 rfl) ?_
  refine j_aload_n (r := (some b)) hx hb dL_law_169 rfl (lv_at hl 0 rfl) ?_
  refine lv_iload hx hb dL_law_170 (lv_at hl 4 rfl) ?_
  refine lv_iconst (v := (1)) hx hb dL_law_172 (by decide) ?_
  refine lv_iadd hx hb dL_law_173 ?_
  obtain ⟨h1, hw⟩ := hw
  refine va_sld hx hb hXs hbl hbA hI.2.2.1 h1 dL_law_174 ?_
  refine j_aload_n (r := (some b)) hx hb dL_law_175 rfl (lv_at hl 0 rfl) ?_
  refine lv_iload hx hb dL_law_176 (lv_at hl 4 rfl) ?_
  refine lv_iconst (v := (2)) hx hb dL_law_178 (by decide) ?_
  refine lv_iadd hx hb dL_law_179 ?_
  obtain ⟨h2, hw⟩ := hw
  refine va_sld hx hb hXs hbl hbA hI.2.2.1 h2 dL_law_180 ?_
  refine j_aload_n (r := (some b)) hx hb dL_law_181 rfl (lv_at hl 0 rfl) ?_
  refine lv_iload hx hb dL_law_182 (lv_at hl 4 rfl) ?_
  refine lv_iconst (v := (3)) hx hb dL_law_184 (by decide) ?_
  refine lv_iadd hx hb dL_law_185 ?_
  obtain ⟨h3, hw⟩ := hw
  refine va_sld hx hb hXs hbl hbA hI.2.2.1 h3 dL_law_186 ?_
  refine j_aload_n (r := x3) hx hb dL_law_187 rfl (lv_at hl 3 rfl) ?_
  refine j_goXz hI (vx_runSX (As := [va_rf x1, .int (xs (Int32.toNatClampNeg (x4 + (1 : Int32)))), .int (xs (Int32.toNatClampNeg (x4 + (2 : Int32)))), .int (xs (Int32.toNatClampNeg (x4 + (3 : Int32)))), va_rf x3]) (rest := []) ⟨hx, hb, hml, hown, hts⟩ (kL_addPool l hfl D z x1 (xs (Int32.toNatClampNeg (x4 + (1 : Int32)))) (xs (Int32.toNatClampNeg (x4 + (2 : Int32)))) (xs (Int32.toNatClampNeg (x4 + (3 : Int32)))) x3 μ H.size _) (vx_cwSW 5 hts gL_law_L_addPool rfl rfl rfl (by decide +kernel) ⟨Nat.le_of_ble_eq_true rfl, Nat.le_of_ble_eq_true rfl⟩) (j_prS2z hK hG hI hw) rfl rfl hl.1 rfl (lv_room (Nat.le_of_ble_eq_true rfl)) dL_law_188 ⟨by show _ ≤ 601024; omega, by show _ ≤ 7293033; omega⟩) (fun E ce q9 μX H locs hw hI hce hcv hcl => (show False from hw).elim) (fun v4 μ5 H locs hw hI => ?_)
  refine W.eq (g2 := F0 m 191 ls [.int v4]) rfl ?_
  refine lv_istore (lv' := [(5, .int v4), (0, va_rf (some b)), (1, va_rf x1), (2, va_rf x2), (3, va_rf x3), (4, .int x4)]) hx hb dL_law_191 hl (by decide) rfl (fun ls hl => ?_)
  refine j_aload_n (r := x2) hx hb dL_law_193 rfl (lv_at hl 3 rfl) ?_
  refine j_aload_n (r := (some b)) hx hb dL_law_194 rfl (lv_at hl 1 rfl) ?_
  refine lv_iload hx hb dL_law_195 (lv_at hl 5 rfl) ?_
  refine lv_iconst (v := (1)) hx hb dL_law_197 (by decide) ?_
  refine lv_iadd hx hb dL_law_198 ?_
  obtain ⟨h6, hw⟩ := hw
  refine va_sld hx hb hXs hbl hbA hI.2.2.1 h6 dL_law_199 ?_
  refine j_aload_n (r := (some b)) hx hb dL_law_200 rfl (lv_at hl 1 rfl) ?_
  refine lv_iload hx hb dL_law_201 (lv_at hl 5 rfl) ?_
  refine lv_iconst (v := (2)) hx hb dL_law_203 (by decide) ?_
  refine lv_iadd hx hb dL_law_204 ?_
  obtain ⟨h7, hw⟩ := hw
  refine va_sld hx hb hXs hbl hbA hI.2.2.1 h7 dL_law_205 ?_
  refine j_aload_n (r := (some b)) hx hb dL_law_206 rfl (lv_at hl 1 rfl) ?_
  refine lv_iload hx hb dL_law_207 (lv_at hl 5 rfl) ?_
  refine lv_iconst (v := (3)) hx hb dL_law_209 (by decide) ?_
  refine lv_iadd hx hb dL_law_210 ?_
  obtain ⟨h8, hw⟩ := hw
  refine va_sld hx hb hXs hbl hbA hI.2.2.1 h8 dL_law_211 ?_
  obtain ⟨b11, ⟨hrb11, hfs⟩, hw⟩ := hw
  refine j_goz hI (va_runV (As := [.int (xs (Int32.toNatClampNeg (x4 + (1 : Int32)))), .int (xs (Int32.toNatClampNeg (x4 + (2 : Int32)))), .int (xs (Int32.toNatClampNeg (x4 + (3 : Int32))))]) (rest := []) ⟨hx, hb, hml, hown, hts⟩ (kX10_addPool l hfl D z b11 (xs (Int32.toNatClampNeg (x4 + (1 : Int32)))) (xs (Int32.toNatClampNeg (x4 + (2 : Int32)))) (xs (Int32.toNatClampNeg (x4 + (3 : Int32)))) μ5 H.size _) (cwV 3 hts gL_law_X10_addPool rfl rfl rfl (by decide +kernel) ⟨Nat.le_of_ble_eq_true rfl, Nat.le_of_ble_eq_true rfl⟩) (j_prV2z hK hG hI hw (ci := 12) rfl hfs) rfl rfl hl.1 (by rw [hrb11]; rfl) (lv_room (Nat.le_of_ble_eq_true rfl)) dL_law_212 ⟨by show _ ≤ 601024; omega, by show _ ≤ 7293033; omega⟩) (fun v9 μ10 H locs hw hI => ?_)
  refine W.eq (g2 := F0 m 215 ls [.int v9]) rfl ?_
  refine lv_istore (lv' := [(6, .int v9), (5, .int v4), (0, va_rf (some b)), (1, va_rf x1), (2, va_rf x2), (3, va_rf x3), (4, .int x4)]) hx hb dL_law_215 hl (by decide) rfl (fun ls hl => ?_)
  refine j_aload_n (r := x2) hx hb dL_law_217 rfl (lv_at hl 4 rfl) ?_
  obtain ⟨b14, ⟨hrb14, hfs⟩, hw⟩ := hw
  refine j_goz hI (va_runV (As := []) (rest := []) ⟨hx, hb, hml, hown, hts⟩ (kX10_thrown l hfl D z b14  μ10 H.size _) (cwV 0 hts gL_law_X10_thrown rfl rfl rfl (by decide +kernel) ⟨Nat.le_of_ble_eq_true rfl, Nat.le_of_ble_eq_true rfl⟩) (j_prV2z hK hG hI hw (ci := 12) rfl hfs) rfl rfl hl.1 (by rw [hrb14]; rfl) (lv_room (Nat.le_of_ble_eq_true rfl)) dL_law_218 ⟨by show _ ≤ 601024; omega, by show _ ≤ 7293033; omega⟩) (fun v12 μ13 H locs hw hI => ?_)
  refine W.eq (g2 := F0 m 221 ls [.int v12]) rfl ?_
  refine lv_iload hx hb dL_law_221 (lv_at hl 1 rfl) ?_
  refine lv_icmp_eq (tgt := 228) hx hb dL_law_223 (by decide) (fun hc => ?_) (fun hc => ?_)
  · have hw := hw.1 hc
    refine lv_iload hx hb dL_law_228 (lv_at hl 1 rfl) ?_
    refine lv_if_ne (tgt := 245) hx hb dL_law_230 (by decide) (fun hc => ?_) (fun hc => ?_)
    · have hw := hw.1 hc
      refine lv_goto (tgt := 1855) hx hb dL_law_245 (by decide) ?_
      exact kL_law_1855 hX hK23 hw hI (lv_sub hl [2, 3, 4, 5, 6] rfl) (by omega) (by omega)
    · have hw := hw.2 hc
      refine j_aload_n (r := x3) hx hb dL_law_233 rfl (lv_at hl 5 rfl) ?_
      refine lv_iconst (v := (0)) hx hb dL_law_234 (by decide) ?_
      obtain ⟨v15, hv15, hw⟩ := hw
      refine j_laldz (r := x3) hx hb hK hI hv15 dL_law_235 ?_
      refine lv_iload hx hb dL_law_236 (lv_at hl 0 rfl) ?_
      refine lv_i2l hx hb dL_law_238 rfl ?_
      refine j_lcmp_eq (tgt := 245) hx hb dL_law_239 dL_law_240 (by decide) (fun hc => ?_) (fun hc => ?_)
      · have hw := hw.1 hc
        refine lv_goto (tgt := 1855) hx hb dL_law_245 (by decide) ?_
        exact kL_law_1855 hX hK23 hw hI (lv_sub hl [2, 3, 4, 5, 6] rfl) (by omega) (by omega)
      · have hw := hw.2 hc
        refine lv_iconst (v := (0)) hx hb dL_law_243 (by decide) ?_
        exact (show False from hw).elim
  · have hw := hw.2 hc
    refine lv_iconst (v := (0)) hx hb dL_law_226 (by decide) ?_
    exact (show False from hw).elim
set_option maxHeartbeats 4000000 in
set_option maxRecDepth 100000 in
theorem kL_law_248 {b : Nat} {L : Nat} {xs : Nat → Int32} (hX : jXL D z p l s m b L xs meth c) {capC capS : Nat} {K23 : Option Nat → Option Nat → Option Nat → Int32 → jM → Prop} (hK23 : ∀ {x1 : Option Nat} {x2 : Option Nat} {x3 : Option Nat} {x4 : Int32} {μ : jM} {H : Heap} {locs : List Loc} {ls : Array Slot} {cells slots : Nat}, K23 x1 x2 x3 x4 μ → jIz D z (jAL s) s.heap μ H locs → lv_has ls 8 [(0, va_rf (some b)), (1, va_rf x1), (2, va_rf x2), (3, va_rf x3), (4, .int x4)] → cells + capC ≤ 601024 → slots + capS ≤ 7293033 → W p l e room_1 s m #[Value.ref b] below meth c H locs cells slots (lw_Z below #[Value.ref b] s) (F0 m 23 ls [])) {x1 : Option Nat} {x2 : Option Nat} {x3 : Option Nat} {x4 : Int32} {μ : jM} {H : Heap} {locs : List Loc} {ls : Array Slot} {cells slots : Nat} (hw : wL_law_248 z b K23 L xs x1 x2 x3 x4 μ) (hI : jIz D z (jAL s) s.heap μ H locs) (hl : lv_has ls 8 [(0, va_rf (some b)), (1, va_rf x1), (2, va_rf x2), (3, va_rf x3), (4, .int x4)]) (hcn : cells + 8 + capC ≤ 601024) (hsn : slots + 129 + capS ≤ 7293033) : W p l e room_1 s m #[Value.ref b] below meth c H locs cells slots (lw_Z below #[Value.ref b] s) (F0 m 248 ls []) := by
  unfold wL_law_248 at hw
  obtain ⟨hx, hb, hml, hown, hts, hr, hlocks, hK, hG, hfl, hXs, hbl⟩ := id hX
  have hbA : ¬ jAL s b := Nat.not_le.mpr hbl
  refine j_aload_n (r := x1) hx hb dL_law_248 rfl (lv_at hl 1 rfl) ?_
  refine j_aload_n (r := (some b)) hx hb dL_law_249 rfl (lv_at hl 0 rfl) ?_
  refine lv_iload hx hb dL_law_250 (lv_at hl 4 rfl) ?_
  refine lv_iconst (v := (1)) hx hb dL_law_252 (by decide) ?_
  refine lv_iadd hx hb dL_law_253 ?_
  obtain ⟨h1, hw⟩ := hw
  refine va_sld hx hb hXs hbl hbA hI.2.2.1 h1 dL_law_254 ?_
  refine j_aload_n (r := (some b)) hx hb dL_law_255 rfl (lv_at hl 0 rfl) ?_
  refine lv_iload hx hb dL_law_256 (lv_at hl 4 rfl) ?_
  refine lv_iconst (v := (2)) hx hb dL_law_258 (by decide) ?_
  refine lv_iadd hx hb dL_law_259 ?_
  obtain ⟨h2, hw⟩ := hw
  refine va_sld hx hb hXs hbl hbA hI.2.2.1 h2 dL_law_260 ?_
  refine j_aload_n (r := x3) hx hb dL_law_261 rfl (lv_at hl 3 rfl) ?_
  refine j_goXz hI (vx_runSX (As := [va_rf x1, .int (xs (Int32.toNatClampNeg (x4 + (1 : Int32)))), .int (xs (Int32.toNatClampNeg (x4 + (2 : Int32)))), va_rf x3]) (rest := []) ⟨hx, hb, hml, hown, hts⟩ (kL_addAccount l hfl D z x1 (xs (Int32.toNatClampNeg (x4 + (1 : Int32)))) (xs (Int32.toNatClampNeg (x4 + (2 : Int32)))) x3 μ H.size _) (vx_cwSW 4 hts gL_law_L_addAccount rfl rfl rfl (by decide +kernel) ⟨Nat.le_of_ble_eq_true rfl, Nat.le_of_ble_eq_true rfl⟩) (j_prS2z hK hG hI hw) rfl rfl hl.1 rfl (lv_room (Nat.le_of_ble_eq_true rfl)) dL_law_262 ⟨by show _ ≤ 601024; omega, by show _ ≤ 7293033; omega⟩) (fun E ce q9 μX H locs hw hI hce hcv hcl => (show False from hw).elim) (fun v3 μ4 H locs hw hI => ?_)
  refine W.eq (g2 := F0 m 265 ls [.int v3]) rfl ?_
  refine lv_istore (lv' := [(5, .int v3), (0, va_rf (some b)), (1, va_rf x1), (2, va_rf x2), (3, va_rf x3), (4, .int x4)]) hx hb dL_law_265 hl (by decide) rfl (fun ls hl => ?_)
  refine j_aload_n (r := x2) hx hb dL_law_267 rfl (lv_at hl 3 rfl) ?_
  refine j_aload_n (r := (some b)) hx hb dL_law_268 rfl (lv_at hl 1 rfl) ?_
  refine lv_iload hx hb dL_law_269 (lv_at hl 5 rfl) ?_
  refine lv_iconst (v := (1)) hx hb dL_law_271 (by decide) ?_
  refine lv_iadd hx hb dL_law_272 ?_
  obtain ⟨h5, hw⟩ := hw
  refine va_sld hx hb hXs hbl hbA hI.2.2.1 h5 dL_law_273 ?_
  refine j_aload_n (r := (some b)) hx hb dL_law_274 rfl (lv_at hl 1 rfl) ?_
  refine lv_iload hx hb dL_law_275 (lv_at hl 5 rfl) ?_
  refine lv_iconst (v := (2)) hx hb dL_law_277 (by decide) ?_
  refine lv_iadd hx hb dL_law_278 ?_
  obtain ⟨h6, hw⟩ := hw
  refine va_sld hx hb hXs hbl hbA hI.2.2.1 h6 dL_law_279 ?_
  obtain ⟨b9, ⟨hrb9, hfs⟩, hw⟩ := hw
  refine j_goz hI (va_runV (As := [.int (xs (Int32.toNatClampNeg (x4 + (1 : Int32)))), .int (xs (Int32.toNatClampNeg (x4 + (2 : Int32))))]) (rest := []) ⟨hx, hb, hml, hown, hts⟩ (kX10_addAccount l hfl D z b9 (xs (Int32.toNatClampNeg (x4 + (1 : Int32)))) (xs (Int32.toNatClampNeg (x4 + (2 : Int32)))) μ4 H.size _) (cwV 2 hts gL_law_X10_addAccount rfl rfl rfl (by decide +kernel) ⟨Nat.le_of_ble_eq_true rfl, Nat.le_of_ble_eq_true rfl⟩) (j_prV2z hK hG hI hw (ci := 12) rfl hfs) rfl rfl hl.1 (by rw [hrb9]; rfl) (lv_room (Nat.le_of_ble_eq_true rfl)) dL_law_280 ⟨by show _ ≤ 601024; omega, by show _ ≤ 7293033; omega⟩) (fun v7 μ8 H locs hw hI => ?_)
  refine W.eq (g2 := F0 m 283 ls [.int v7]) rfl ?_
  refine lv_istore (lv' := [(6, .int v7), (5, .int v3), (0, va_rf (some b)), (1, va_rf x1), (2, va_rf x2), (3, va_rf x3), (4, .int x4)]) hx hb dL_law_283 hl (by decide) rfl (fun ls hl => ?_)
  refine j_aload_n (r := x2) hx hb dL_law_285 rfl (lv_at hl 4 rfl) ?_
  obtain ⟨b12, ⟨hrb12, hfs⟩, hw⟩ := hw
  refine j_goz hI (va_runV (As := []) (rest := []) ⟨hx, hb, hml, hown, hts⟩ (kX10_thrown l hfl D z b12  μ8 H.size _) (cwV 0 hts gL_law_X10_thrown rfl rfl rfl (by decide +kernel) ⟨Nat.le_of_ble_eq_true rfl, Nat.le_of_ble_eq_true rfl⟩) (j_prV2z hK hG hI hw (ci := 12) rfl hfs) rfl rfl hl.1 (by rw [hrb12]; rfl) (lv_room (Nat.le_of_ble_eq_true rfl)) dL_law_286 ⟨by show _ ≤ 601024; omega, by show _ ≤ 7293033; omega⟩) (fun v10 μ11 H locs hw hI => ?_)
  refine W.eq (g2 := F0 m 289 ls [.int v10]) rfl ?_
  refine lv_iload hx hb dL_law_289 (lv_at hl 1 rfl) ?_
  refine lv_icmp_eq (tgt := 296) hx hb dL_law_291 (by decide) (fun hc => ?_) (fun hc => ?_)
  · have hw := hw.1 hc
    refine lv_iload hx hb dL_law_296 (lv_at hl 1 rfl) ?_
    refine lv_if_ne (tgt := 313) hx hb dL_law_298 (by decide) (fun hc => ?_) (fun hc => ?_)
    · have hw := hw.1 hc
      refine lv_goto (tgt := 1855) hx hb dL_law_313 (by decide) ?_
      exact kL_law_1855 hX hK23 hw hI (lv_sub hl [2, 3, 4, 5, 6] rfl) (by omega) (by omega)
    · have hw := hw.2 hc
      refine j_aload_n (r := x3) hx hb dL_law_301 rfl (lv_at hl 5 rfl) ?_
      refine lv_iconst (v := (0)) hx hb dL_law_302 (by decide) ?_
      obtain ⟨v13, hv13, hw⟩ := hw
      refine j_laldz (r := x3) hx hb hK hI hv13 dL_law_303 ?_
      refine lv_iload hx hb dL_law_304 (lv_at hl 0 rfl) ?_
      refine lv_i2l hx hb dL_law_306 rfl ?_
      refine j_lcmp_eq (tgt := 313) hx hb dL_law_307 dL_law_308 (by decide) (fun hc => ?_) (fun hc => ?_)
      · have hw := hw.1 hc
        refine lv_goto (tgt := 1855) hx hb dL_law_313 (by decide) ?_
        exact kL_law_1855 hX hK23 hw hI (lv_sub hl [2, 3, 4, 5, 6] rfl) (by omega) (by omega)
      · have hw := hw.2 hc
        refine lv_iconst (v := (0)) hx hb dL_law_311 (by decide) ?_
        exact (show False from hw).elim
  · have hw := hw.2 hc
    refine lv_iconst (v := (0)) hx hb dL_law_294 (by decide) ?_
    exact (show False from hw).elim
set_option maxHeartbeats 4000000 in
set_option maxRecDepth 100000 in
theorem kL_law_316 {b : Nat} {L : Nat} {xs : Nat → Int32} (hX : jXL D z p l s m b L xs meth c) {capC capS : Nat} {K23 : Option Nat → Option Nat → Option Nat → Int32 → jM → Prop} (hK23 : ∀ {x1 : Option Nat} {x2 : Option Nat} {x3 : Option Nat} {x4 : Int32} {μ : jM} {H : Heap} {locs : List Loc} {ls : Array Slot} {cells slots : Nat}, K23 x1 x2 x3 x4 μ → jIz D z (jAL s) s.heap μ H locs → lv_has ls 8 [(0, va_rf (some b)), (1, va_rf x1), (2, va_rf x2), (3, va_rf x3), (4, .int x4)] → cells + capC ≤ 601024 → slots + capS ≤ 7293033 → W p l e room_1 s m #[Value.ref b] below meth c H locs cells slots (lw_Z below #[Value.ref b] s) (F0 m 23 ls [])) {x1 : Option Nat} {x2 : Option Nat} {x3 : Option Nat} {x4 : Int32} {μ : jM} {H : Heap} {locs : List Loc} {ls : Array Slot} {cells slots : Nat} (hw : wL_law_316 z b K23 L xs x1 x2 x3 x4 μ) (hI : jIz D z (jAL s) s.heap μ H locs) (hl : lv_has ls 8 [(0, va_rf (some b)), (1, va_rf x1), (2, va_rf x2), (3, va_rf x3), (4, .int x4)]) (hcn : cells + 4 + capC ≤ 601024) (hsn : slots + 24 + capS ≤ 7293033) : W p l e room_1 s m #[Value.ref b] below meth c H locs cells slots (lw_Z below #[Value.ref b] s) (F0 m 316 ls []) := by
  unfold wL_law_316 at hw
  obtain ⟨hx, hb, hml, hown, hts, hr, hlocks, hK, hG, hfl, hXs, hbl⟩ := id hX
  have hbA : ¬ jAL s b := Nat.not_le.mpr hbl
  refine j_aload_n (r := x1) hx hb dL_law_316 rfl (lv_at hl 1 rfl) ?_
  refine j_aload_n (r := (some b)) hx hb dL_law_317 rfl (lv_at hl 0 rfl) ?_
  refine lv_iload hx hb dL_law_318 (lv_at hl 4 rfl) ?_
  refine lv_iconst (v := (1)) hx hb dL_law_320 (by decide) ?_
  refine lv_iadd hx hb dL_law_321 ?_
  obtain ⟨h1, hw⟩ := hw
  refine va_sld hx hb hXs hbl hbA hI.2.2.1 h1 dL_law_322 ?_
  refine j_aload_n (r := (some b)) hx hb dL_law_323 rfl (lv_at hl 0 rfl) ?_
  refine lv_iload hx hb dL_law_324 (lv_at hl 4 rfl) ?_
  refine lv_iconst (v := (2)) hx hb dL_law_326 (by decide) ?_
  refine lv_iadd hx hb dL_law_327 ?_
  obtain ⟨h2, hw⟩ := hw
  refine va_sld hx hb hXs hbl hbA hI.2.2.1 h2 dL_law_328 ?_
  refine j_aload_n (r := (some b)) hx hb dL_law_329 rfl (lv_at hl 0 rfl) ?_
  refine lv_iload hx hb dL_law_330 (lv_at hl 4 rfl) ?_
  refine lv_iconst (v := (3)) hx hb dL_law_332 (by decide) ?_
  refine lv_iadd hx hb dL_law_333 ?_
  obtain ⟨h3, hw⟩ := hw
  refine va_sld hx hb hXs hbl hbA hI.2.2.1 h3 dL_law_334 ?_
  refine j_aload_n (r := x3) hx hb dL_law_335 rfl (lv_at hl 3 rfl) ?_
  refine j_goXz hI (vx_runSX (As := [va_rf x1, .int (xs (Int32.toNatClampNeg (x4 + (1 : Int32)))), .int (xs (Int32.toNatClampNeg (x4 + (2 : Int32)))), .int (xs (Int32.toNatClampNeg (x4 + (3 : Int32)))), va_rf x3]) (rest := []) ⟨hx, hb, hml, hown, hts⟩ (kL_setRule l hfl D z x1 (xs (Int32.toNatClampNeg (x4 + (1 : Int32)))) (xs (Int32.toNatClampNeg (x4 + (2 : Int32)))) (xs (Int32.toNatClampNeg (x4 + (3 : Int32)))) x3 μ H.size _) (vx_cwSW 5 hts gL_law_L_setRule rfl rfl rfl (by decide +kernel) ⟨Nat.le_of_ble_eq_true rfl, Nat.le_of_ble_eq_true rfl⟩) (j_prS2z hK hG hI hw) rfl rfl hl.1 rfl (lv_room (Nat.le_of_ble_eq_true rfl)) dL_law_336 ⟨by show _ ≤ 601024; omega, by show _ ≤ 7293033; omega⟩) (fun E ce q9 μX H locs hw hI hce hcv hcl => (show False from hw).elim) (fun v4 μ5 H locs hw hI => ?_)
  refine W.eq (g2 := F0 m 339 ls [.int v4]) rfl ?_
  refine lv_istore (lv' := [(5, .int v4), (0, va_rf (some b)), (1, va_rf x1), (2, va_rf x2), (3, va_rf x3), (4, .int x4)]) hx hb dL_law_339 hl (by decide) rfl (fun ls hl => ?_)
  refine j_aload_n (r := x2) hx hb dL_law_341 rfl (lv_at hl 3 rfl) ?_
  refine j_aload_n (r := (some b)) hx hb dL_law_342 rfl (lv_at hl 1 rfl) ?_
  refine lv_iload hx hb dL_law_343 (lv_at hl 5 rfl) ?_
  refine lv_iconst (v := (1)) hx hb dL_law_345 (by decide) ?_
  refine lv_iadd hx hb dL_law_346 ?_
  obtain ⟨h6, hw⟩ := hw
  refine va_sld hx hb hXs hbl hbA hI.2.2.1 h6 dL_law_347 ?_
  refine j_aload_n (r := (some b)) hx hb dL_law_348 rfl (lv_at hl 1 rfl) ?_
  refine lv_iload hx hb dL_law_349 (lv_at hl 5 rfl) ?_
  refine lv_iconst (v := (2)) hx hb dL_law_351 (by decide) ?_
  refine lv_iadd hx hb dL_law_352 ?_
  obtain ⟨h7, hw⟩ := hw
  refine va_sld hx hb hXs hbl hbA hI.2.2.1 h7 dL_law_353 ?_
  refine j_aload_n (r := (some b)) hx hb dL_law_354 rfl (lv_at hl 1 rfl) ?_
  refine lv_iload hx hb dL_law_355 (lv_at hl 5 rfl) ?_
  refine lv_iconst (v := (3)) hx hb dL_law_357 (by decide) ?_
  refine lv_iadd hx hb dL_law_358 ?_
  obtain ⟨h8, hw⟩ := hw
  refine va_sld hx hb hXs hbl hbA hI.2.2.1 h8 dL_law_359 ?_
  obtain ⟨b11, ⟨hrb11, hfs⟩, hw⟩ := hw
  refine j_goz hI (va_runV (As := [.int (xs (Int32.toNatClampNeg (x4 + (1 : Int32)))), .int (xs (Int32.toNatClampNeg (x4 + (2 : Int32)))), .int (xs (Int32.toNatClampNeg (x4 + (3 : Int32))))]) (rest := []) ⟨hx, hb, hml, hown, hts⟩ (kX10_setRule l hfl D z b11 (xs (Int32.toNatClampNeg (x4 + (1 : Int32)))) (xs (Int32.toNatClampNeg (x4 + (2 : Int32)))) (xs (Int32.toNatClampNeg (x4 + (3 : Int32)))) μ5 H.size _) (cwV 3 hts gL_law_X10_setRule rfl rfl rfl (by decide +kernel) ⟨Nat.le_of_ble_eq_true rfl, Nat.le_of_ble_eq_true rfl⟩) (j_prV2z hK hG hI hw (ci := 12) rfl hfs) rfl rfl hl.1 (by rw [hrb11]; rfl) (lv_room (Nat.le_of_ble_eq_true rfl)) dL_law_360 ⟨by show _ ≤ 601024; omega, by show _ ≤ 7293033; omega⟩) (fun v9 μ10 H locs hw hI => ?_)
  refine W.eq (g2 := F0 m 363 ls [.int v9]) rfl ?_
  refine lv_istore (lv' := [(6, .int v9), (5, .int v4), (0, va_rf (some b)), (1, va_rf x1), (2, va_rf x2), (3, va_rf x3), (4, .int x4)]) hx hb dL_law_363 hl (by decide) rfl (fun ls hl => ?_)
  refine j_aload_n (r := x2) hx hb dL_law_365 rfl (lv_at hl 4 rfl) ?_
  obtain ⟨b14, ⟨hrb14, hfs⟩, hw⟩ := hw
  refine j_goz hI (va_runV (As := []) (rest := []) ⟨hx, hb, hml, hown, hts⟩ (kX10_thrown l hfl D z b14  μ10 H.size _) (cwV 0 hts gL_law_X10_thrown rfl rfl rfl (by decide +kernel) ⟨Nat.le_of_ble_eq_true rfl, Nat.le_of_ble_eq_true rfl⟩) (j_prV2z hK hG hI hw (ci := 12) rfl hfs) rfl rfl hl.1 (by rw [hrb14]; rfl) (lv_room (Nat.le_of_ble_eq_true rfl)) dL_law_366 ⟨by show _ ≤ 601024; omega, by show _ ≤ 7293033; omega⟩) (fun v12 μ13 H locs hw hI => ?_)
  refine W.eq (g2 := F0 m 369 ls [.int v12]) rfl ?_
  refine lv_iload hx hb dL_law_369 (lv_at hl 1 rfl) ?_
  refine lv_icmp_eq (tgt := 376) hx hb dL_law_371 (by decide) (fun hc => ?_) (fun hc => ?_)
  · have hw := hw.1 hc
    refine lv_iload hx hb dL_law_376 (lv_at hl 1 rfl) ?_
    refine lv_if_ne (tgt := 393) hx hb dL_law_378 (by decide) (fun hc => ?_) (fun hc => ?_)
    · have hw := hw.1 hc
      refine lv_goto (tgt := 1855) hx hb dL_law_393 (by decide) ?_
      exact kL_law_1855 hX hK23 hw hI (lv_sub hl [2, 3, 4, 5, 6] rfl) (by omega) (by omega)
    · have hw := hw.2 hc
      refine j_aload_n (r := x3) hx hb dL_law_381 rfl (lv_at hl 5 rfl) ?_
      refine lv_iconst (v := (0)) hx hb dL_law_382 (by decide) ?_
      obtain ⟨v15, hv15, hw⟩ := hw
      refine j_laldz (r := x3) hx hb hK hI hv15 dL_law_383 ?_
      refine lv_iload hx hb dL_law_384 (lv_at hl 0 rfl) ?_
      refine lv_i2l hx hb dL_law_386 rfl ?_
      refine j_lcmp_eq (tgt := 393) hx hb dL_law_387 dL_law_388 (by decide) (fun hc => ?_) (fun hc => ?_)
      · have hw := hw.1 hc
        refine lv_goto (tgt := 1855) hx hb dL_law_393 (by decide) ?_
        exact kL_law_1855 hX hK23 hw hI (lv_sub hl [2, 3, 4, 5, 6] rfl) (by omega) (by omega)
      · have hw := hw.2 hc
        refine lv_iconst (v := (0)) hx hb dL_law_391 (by decide) ?_
        exact (show False from hw).elim
  · have hw := hw.2 hc
    refine lv_iconst (v := (0)) hx hb dL_law_374 (by decide) ?_
    exact (show False from hw).elim
set_option maxHeartbeats 4000000 in
set_option maxRecDepth 100000 in
theorem kL_law_396 {b : Nat} {L : Nat} {xs : Nat → Int32} (hX : jXL D z p l s m b L xs meth c) {capC capS : Nat} {K23 : Option Nat → Option Nat → Option Nat → Int32 → jM → Prop} (hK23 : ∀ {x1 : Option Nat} {x2 : Option Nat} {x3 : Option Nat} {x4 : Int32} {μ : jM} {H : Heap} {locs : List Loc} {ls : Array Slot} {cells slots : Nat}, K23 x1 x2 x3 x4 μ → jIz D z (jAL s) s.heap μ H locs → lv_has ls 8 [(0, va_rf (some b)), (1, va_rf x1), (2, va_rf x2), (3, va_rf x3), (4, .int x4)] → cells + capC ≤ 601024 → slots + capS ≤ 7293033 → W p l e room_1 s m #[Value.ref b] below meth c H locs cells slots (lw_Z below #[Value.ref b] s) (F0 m 23 ls [])) {x1 : Option Nat} {x2 : Option Nat} {x3 : Option Nat} {x4 : Int32} {μ : jM} {H : Heap} {locs : List Loc} {ls : Array Slot} {cells slots : Nat} (hw : wL_law_396 z b K23 L xs x1 x2 x3 x4 μ) (hI : jIz D z (jAL s) s.heap μ H locs) (hl : lv_has ls 8 [(0, va_rf (some b)), (1, va_rf x1), (2, va_rf x2), (3, va_rf x3), (4, .int x4)]) (hcn : cells + 2 + capC ≤ 601024) (hsn : slots + 12 + capS ≤ 7293033) : W p l e room_1 s m #[Value.ref b] below meth c H locs cells slots (lw_Z below #[Value.ref b] s) (F0 m 396 ls []) := by
  unfold wL_law_396 at hw
  obtain ⟨hx, hb, hml, hown, hts, hr, hlocks, hK, hG, hfl, hXs, hbl⟩ := id hX
  have hbA : ¬ jAL s b := Nat.not_le.mpr hbl
  refine j_aload_n (r := x1) hx hb dL_law_396 rfl (lv_at hl 1 rfl) ?_
  refine j_aload_n (r := (some b)) hx hb dL_law_397 rfl (lv_at hl 0 rfl) ?_
  refine lv_iload hx hb dL_law_398 (lv_at hl 4 rfl) ?_
  refine lv_iconst (v := (1)) hx hb dL_law_400 (by decide) ?_
  refine lv_iadd hx hb dL_law_401 ?_
  obtain ⟨h1, hw⟩ := hw
  refine va_sld hx hb hXs hbl hbA hI.2.2.1 h1 dL_law_402 ?_
  refine j_aload_n (r := (some b)) hx hb dL_law_403 rfl (lv_at hl 0 rfl) ?_
  refine lv_iload hx hb dL_law_404 (lv_at hl 4 rfl) ?_
  refine lv_iconst (v := (2)) hx hb dL_law_406 (by decide) ?_
  refine lv_iadd hx hb dL_law_407 ?_
  obtain ⟨h2, hw⟩ := hw
  refine va_sld hx hb hXs hbl hbA hI.2.2.1 h2 dL_law_408 ?_
  refine j_aload_n (r := x3) hx hb dL_law_409 rfl (lv_at hl 3 rfl) ?_
  refine j_goXz hI (vx_runSX (As := [va_rf x1, .int (xs (Int32.toNatClampNeg (x4 + (1 : Int32)))), .int (xs (Int32.toNatClampNeg (x4 + (2 : Int32)))), va_rf x3]) (rest := []) ⟨hx, hb, hml, hown, hts⟩ (kL_setFloor l hfl D z x1 (xs (Int32.toNatClampNeg (x4 + (1 : Int32)))) (xs (Int32.toNatClampNeg (x4 + (2 : Int32)))) x3 μ H.size _) (vx_cwSW 4 hts gL_law_L_setFloor rfl rfl rfl (by decide +kernel) ⟨Nat.le_of_ble_eq_true rfl, Nat.le_of_ble_eq_true rfl⟩) (j_prS2z hK hG hI hw) rfl rfl hl.1 rfl (lv_room (Nat.le_of_ble_eq_true rfl)) dL_law_410 ⟨by show _ ≤ 601024; omega, by show _ ≤ 7293033; omega⟩) (fun E ce q9 μX H locs hw hI hce hcv hcl => (show False from hw).elim) (fun v3 μ4 H locs hw hI => ?_)
  refine W.eq (g2 := F0 m 413 ls [.int v3]) rfl ?_
  refine lv_istore (lv' := [(5, .int v3), (0, va_rf (some b)), (1, va_rf x1), (2, va_rf x2), (3, va_rf x3), (4, .int x4)]) hx hb dL_law_413 hl (by decide) rfl (fun ls hl => ?_)
  refine j_aload_n (r := x2) hx hb dL_law_415 rfl (lv_at hl 3 rfl) ?_
  refine j_aload_n (r := (some b)) hx hb dL_law_416 rfl (lv_at hl 1 rfl) ?_
  refine lv_iload hx hb dL_law_417 (lv_at hl 5 rfl) ?_
  refine lv_iconst (v := (1)) hx hb dL_law_419 (by decide) ?_
  refine lv_iadd hx hb dL_law_420 ?_
  obtain ⟨h5, hw⟩ := hw
  refine va_sld hx hb hXs hbl hbA hI.2.2.1 h5 dL_law_421 ?_
  refine j_aload_n (r := (some b)) hx hb dL_law_422 rfl (lv_at hl 1 rfl) ?_
  refine lv_iload hx hb dL_law_423 (lv_at hl 5 rfl) ?_
  refine lv_iconst (v := (2)) hx hb dL_law_425 (by decide) ?_
  refine lv_iadd hx hb dL_law_426 ?_
  obtain ⟨h6, hw⟩ := hw
  refine va_sld hx hb hXs hbl hbA hI.2.2.1 h6 dL_law_427 ?_
  obtain ⟨b9, ⟨hrb9, hfs⟩, hw⟩ := hw
  refine j_goz hI (va_runV (As := [.int (xs (Int32.toNatClampNeg (x4 + (1 : Int32)))), .int (xs (Int32.toNatClampNeg (x4 + (2 : Int32))))]) (rest := []) ⟨hx, hb, hml, hown, hts⟩ (kX10_setFloor l hfl D z b9 (xs (Int32.toNatClampNeg (x4 + (1 : Int32)))) (xs (Int32.toNatClampNeg (x4 + (2 : Int32)))) μ4 H.size _) (cwV 2 hts gL_law_X10_setFloor rfl rfl rfl (by decide +kernel) ⟨Nat.le_of_ble_eq_true rfl, Nat.le_of_ble_eq_true rfl⟩) (j_prV2z hK hG hI hw (ci := 12) rfl hfs) rfl rfl hl.1 (by rw [hrb9]; rfl) (lv_room (Nat.le_of_ble_eq_true rfl)) dL_law_428 ⟨by show _ ≤ 601024; omega, by show _ ≤ 7293033; omega⟩) (fun v7 μ8 H locs hw hI => ?_)
  refine W.eq (g2 := F0 m 431 ls [.int v7]) rfl ?_
  refine lv_istore (lv' := [(6, .int v7), (5, .int v3), (0, va_rf (some b)), (1, va_rf x1), (2, va_rf x2), (3, va_rf x3), (4, .int x4)]) hx hb dL_law_431 hl (by decide) rfl (fun ls hl => ?_)
  refine j_aload_n (r := x2) hx hb dL_law_433 rfl (lv_at hl 4 rfl) ?_
  obtain ⟨b12, ⟨hrb12, hfs⟩, hw⟩ := hw
  refine j_goz hI (va_runV (As := []) (rest := []) ⟨hx, hb, hml, hown, hts⟩ (kX10_thrown l hfl D z b12  μ8 H.size _) (cwV 0 hts gL_law_X10_thrown rfl rfl rfl (by decide +kernel) ⟨Nat.le_of_ble_eq_true rfl, Nat.le_of_ble_eq_true rfl⟩) (j_prV2z hK hG hI hw (ci := 12) rfl hfs) rfl rfl hl.1 (by rw [hrb12]; rfl) (lv_room (Nat.le_of_ble_eq_true rfl)) dL_law_434 ⟨by show _ ≤ 601024; omega, by show _ ≤ 7293033; omega⟩) (fun v10 μ11 H locs hw hI => ?_)
  refine W.eq (g2 := F0 m 437 ls [.int v10]) rfl ?_
  refine lv_iload hx hb dL_law_437 (lv_at hl 1 rfl) ?_
  refine lv_icmp_eq (tgt := 444) hx hb dL_law_439 (by decide) (fun hc => ?_) (fun hc => ?_)
  · have hw := hw.1 hc
    refine lv_iload hx hb dL_law_444 (lv_at hl 1 rfl) ?_
    refine lv_if_ne (tgt := 461) hx hb dL_law_446 (by decide) (fun hc => ?_) (fun hc => ?_)
    · have hw := hw.1 hc
      refine lv_goto (tgt := 1855) hx hb dL_law_461 (by decide) ?_
      exact kL_law_1855 hX hK23 hw hI (lv_sub hl [2, 3, 4, 5, 6] rfl) (by omega) (by omega)
    · have hw := hw.2 hc
      refine j_aload_n (r := x3) hx hb dL_law_449 rfl (lv_at hl 5 rfl) ?_
      refine lv_iconst (v := (0)) hx hb dL_law_450 (by decide) ?_
      obtain ⟨v13, hv13, hw⟩ := hw
      refine j_laldz (r := x3) hx hb hK hI hv13 dL_law_451 ?_
      refine lv_iload hx hb dL_law_452 (lv_at hl 0 rfl) ?_
      refine lv_i2l hx hb dL_law_454 rfl ?_
      refine j_lcmp_eq (tgt := 461) hx hb dL_law_455 dL_law_456 (by decide) (fun hc => ?_) (fun hc => ?_)
      · have hw := hw.1 hc
        refine lv_goto (tgt := 1855) hx hb dL_law_461 (by decide) ?_
        exact kL_law_1855 hX hK23 hw hI (lv_sub hl [2, 3, 4, 5, 6] rfl) (by omega) (by omega)
      · have hw := hw.2 hc
        refine lv_iconst (v := (0)) hx hb dL_law_459 (by decide) ?_
        exact (show False from hw).elim
  · have hw := hw.2 hc
    refine lv_iconst (v := (0)) hx hb dL_law_442 (by decide) ?_
    exact (show False from hw).elim
set_option maxHeartbeats 4000000 in
set_option maxRecDepth 100000 in
theorem kL_law_464 {b : Nat} {L : Nat} {xs : Nat → Int32} (hX : jXL D z p l s m b L xs meth c) {capC capS : Nat} {K23 : Option Nat → Option Nat → Option Nat → Int32 → jM → Prop} (hK23 : ∀ {x1 : Option Nat} {x2 : Option Nat} {x3 : Option Nat} {x4 : Int32} {μ : jM} {H : Heap} {locs : List Loc} {ls : Array Slot} {cells slots : Nat}, K23 x1 x2 x3 x4 μ → jIz D z (jAL s) s.heap μ H locs → lv_has ls 8 [(0, va_rf (some b)), (1, va_rf x1), (2, va_rf x2), (3, va_rf x3), (4, .int x4)] → cells + capC ≤ 601024 → slots + capS ≤ 7293033 → W p l e room_1 s m #[Value.ref b] below meth c H locs cells slots (lw_Z below #[Value.ref b] s) (F0 m 23 ls [])) {x1 : Option Nat} {x2 : Option Nat} {x3 : Option Nat} {x4 : Int32} {μ : jM} {H : Heap} {locs : List Loc} {ls : Array Slot} {cells slots : Nat} (hw : wL_law_464 z b K23 L xs x1 x2 x3 x4 μ) (hI : jIz D z (jAL s) s.heap μ H locs) (hl : lv_has ls 8 [(0, va_rf (some b)), (1, va_rf x1), (2, va_rf x2), (3, va_rf x3), (4, .int x4)]) (hcn : cells + 7 + capC ≤ 601024) (hsn : slots + 97 + capS ≤ 7293033) : W p l e room_1 s m #[Value.ref b] below meth c H locs cells slots (lw_Z below #[Value.ref b] s) (F0 m 464 ls []) := by
  unfold wL_law_464 at hw
  obtain ⟨hx, hb, hml, hown, hts, hr, hlocks, hK, hG, hfl, hXs, hbl⟩ := id hX
  have hbA : ¬ jAL s b := Nat.not_le.mpr hbl
  refine j_aload_n (r := x1) hx hb dL_law_464 rfl (lv_at hl 1 rfl) ?_
  refine j_aload_n (r := (some b)) hx hb dL_law_465 rfl (lv_at hl 0 rfl) ?_
  refine lv_iload hx hb dL_law_466 (lv_at hl 4 rfl) ?_
  refine lv_iconst (v := (1)) hx hb dL_law_468 (by decide) ?_
  refine lv_iadd hx hb dL_law_469 ?_
  obtain ⟨h1, hw⟩ := hw
  refine va_sld hx hb hXs hbl hbA hI.2.2.1 h1 dL_law_470 ?_
  refine j_aload_n (r := (some b)) hx hb dL_law_471 rfl (lv_at hl 0 rfl) ?_
  refine lv_iload hx hb dL_law_472 (lv_at hl 4 rfl) ?_
  refine lv_iconst (v := (2)) hx hb dL_law_474 (by decide) ?_
  refine lv_iadd hx hb dL_law_475 ?_
  obtain ⟨h2, hw⟩ := hw
  refine va_sld hx hb hXs hbl hbA hI.2.2.1 h2 dL_law_476 ?_
  refine j_aload_n (r := (some b)) hx hb dL_law_477 rfl (lv_at hl 0 rfl) ?_
  refine lv_iload hx hb dL_law_478 (lv_at hl 4 rfl) ?_
  refine lv_iconst (v := (3)) hx hb dL_law_480 (by decide) ?_
  refine lv_iadd hx hb dL_law_481 ?_
  obtain ⟨h3, hw⟩ := hw
  refine va_sld hx hb hXs hbl hbA hI.2.2.1 h3 dL_law_482 ?_
  refine j_aload_n (r := x3) hx hb dL_law_483 rfl (lv_at hl 3 rfl) ?_
  refine j_goXz hI (vx_runSX (As := [va_rf x1, .int (xs (Int32.toNatClampNeg (x4 + (1 : Int32)))), .int (xs (Int32.toNatClampNeg (x4 + (2 : Int32)))), .int (xs (Int32.toNatClampNeg (x4 + (3 : Int32)))), va_rf x3]) (rest := []) ⟨hx, hb, hml, hown, hts⟩ (kL_addLine l hfl D z x1 (xs (Int32.toNatClampNeg (x4 + (1 : Int32)))) (xs (Int32.toNatClampNeg (x4 + (2 : Int32)))) (xs (Int32.toNatClampNeg (x4 + (3 : Int32)))) x3 μ H.size _) (vx_cwSW 5 hts gL_law_L_addLine rfl rfl rfl (by decide +kernel) ⟨Nat.le_of_ble_eq_true rfl, Nat.le_of_ble_eq_true rfl⟩) (j_prS2z hK hG hI hw) rfl rfl hl.1 rfl (lv_room (Nat.le_of_ble_eq_true rfl)) dL_law_484 ⟨by show _ ≤ 601024; omega, by show _ ≤ 7293033; omega⟩) (fun E ce q9 μX H locs hw hI hce hcv hcl => (show False from hw).elim) (fun v4 μ5 H locs hw hI => ?_)
  refine W.eq (g2 := F0 m 487 ls [.int v4]) rfl ?_
  refine lv_istore (lv' := [(5, .int v4), (0, va_rf (some b)), (1, va_rf x1), (2, va_rf x2), (3, va_rf x3), (4, .int x4)]) hx hb dL_law_487 hl (by decide) rfl (fun ls hl => ?_)
  refine j_aload_n (r := x2) hx hb dL_law_489 rfl (lv_at hl 3 rfl) ?_
  refine j_aload_n (r := (some b)) hx hb dL_law_490 rfl (lv_at hl 1 rfl) ?_
  refine lv_iload hx hb dL_law_491 (lv_at hl 5 rfl) ?_
  refine lv_iconst (v := (1)) hx hb dL_law_493 (by decide) ?_
  refine lv_iadd hx hb dL_law_494 ?_
  obtain ⟨h6, hw⟩ := hw
  refine va_sld hx hb hXs hbl hbA hI.2.2.1 h6 dL_law_495 ?_
  refine j_aload_n (r := (some b)) hx hb dL_law_496 rfl (lv_at hl 1 rfl) ?_
  refine lv_iload hx hb dL_law_497 (lv_at hl 5 rfl) ?_
  refine lv_iconst (v := (2)) hx hb dL_law_499 (by decide) ?_
  refine lv_iadd hx hb dL_law_500 ?_
  obtain ⟨h7, hw⟩ := hw
  refine va_sld hx hb hXs hbl hbA hI.2.2.1 h7 dL_law_501 ?_
  refine j_aload_n (r := (some b)) hx hb dL_law_502 rfl (lv_at hl 1 rfl) ?_
  refine lv_iload hx hb dL_law_503 (lv_at hl 5 rfl) ?_
  refine lv_iconst (v := (3)) hx hb dL_law_505 (by decide) ?_
  refine lv_iadd hx hb dL_law_506 ?_
  obtain ⟨h8, hw⟩ := hw
  refine va_sld hx hb hXs hbl hbA hI.2.2.1 h8 dL_law_507 ?_
  obtain ⟨b11, ⟨hrb11, hfs⟩, hw⟩ := hw
  refine j_goz hI (va_runV (As := [.int (xs (Int32.toNatClampNeg (x4 + (1 : Int32)))), .int (xs (Int32.toNatClampNeg (x4 + (2 : Int32)))), .int (xs (Int32.toNatClampNeg (x4 + (3 : Int32))))]) (rest := []) ⟨hx, hb, hml, hown, hts⟩ (kX10_addLine l hfl D z b11 (xs (Int32.toNatClampNeg (x4 + (1 : Int32)))) (xs (Int32.toNatClampNeg (x4 + (2 : Int32)))) (xs (Int32.toNatClampNeg (x4 + (3 : Int32)))) μ5 H.size _) (cwV 3 hts gL_law_X10_addLine rfl rfl rfl (by decide +kernel) ⟨Nat.le_of_ble_eq_true rfl, Nat.le_of_ble_eq_true rfl⟩) (j_prV2z hK hG hI hw (ci := 12) rfl hfs) rfl rfl hl.1 (by rw [hrb11]; rfl) (lv_room (Nat.le_of_ble_eq_true rfl)) dL_law_508 ⟨by show _ ≤ 601024; omega, by show _ ≤ 7293033; omega⟩) (fun v9 μ10 H locs hw hI => ?_)
  refine W.eq (g2 := F0 m 511 ls [.int v9]) rfl ?_
  refine lv_istore (lv' := [(6, .int v9), (5, .int v4), (0, va_rf (some b)), (1, va_rf x1), (2, va_rf x2), (3, va_rf x3), (4, .int x4)]) hx hb dL_law_511 hl (by decide) rfl (fun ls hl => ?_)
  refine j_aload_n (r := x2) hx hb dL_law_513 rfl (lv_at hl 4 rfl) ?_
  obtain ⟨b14, ⟨hrb14, hfs⟩, hw⟩ := hw
  refine j_goz hI (va_runV (As := []) (rest := []) ⟨hx, hb, hml, hown, hts⟩ (kX10_thrown l hfl D z b14  μ10 H.size _) (cwV 0 hts gL_law_X10_thrown rfl rfl rfl (by decide +kernel) ⟨Nat.le_of_ble_eq_true rfl, Nat.le_of_ble_eq_true rfl⟩) (j_prV2z hK hG hI hw (ci := 12) rfl hfs) rfl rfl hl.1 (by rw [hrb14]; rfl) (lv_room (Nat.le_of_ble_eq_true rfl)) dL_law_514 ⟨by show _ ≤ 601024; omega, by show _ ≤ 7293033; omega⟩) (fun v12 μ13 H locs hw hI => ?_)
  refine W.eq (g2 := F0 m 517 ls [.int v12]) rfl ?_
  refine lv_iload hx hb dL_law_517 (lv_at hl 1 rfl) ?_
  refine lv_icmp_eq (tgt := 524) hx hb dL_law_519 (by decide) (fun hc => ?_) (fun hc => ?_)
  · have hw := hw.1 hc
    refine lv_iload hx hb dL_law_524 (lv_at hl 1 rfl) ?_
    refine lv_if_ne (tgt := 541) hx hb dL_law_526 (by decide) (fun hc => ?_) (fun hc => ?_)
    · have hw := hw.1 hc
      refine lv_goto (tgt := 1855) hx hb dL_law_541 (by decide) ?_
      exact kL_law_1855 hX hK23 hw hI (lv_sub hl [2, 3, 4, 5, 6] rfl) (by omega) (by omega)
    · have hw := hw.2 hc
      refine j_aload_n (r := x3) hx hb dL_law_529 rfl (lv_at hl 5 rfl) ?_
      refine lv_iconst (v := (0)) hx hb dL_law_530 (by decide) ?_
      obtain ⟨v15, hv15, hw⟩ := hw
      refine j_laldz (r := x3) hx hb hK hI hv15 dL_law_531 ?_
      refine lv_iload hx hb dL_law_532 (lv_at hl 0 rfl) ?_
      refine lv_i2l hx hb dL_law_534 rfl ?_
      refine j_lcmp_eq (tgt := 541) hx hb dL_law_535 dL_law_536 (by decide) (fun hc => ?_) (fun hc => ?_)
      · have hw := hw.1 hc
        refine lv_goto (tgt := 1855) hx hb dL_law_541 (by decide) ?_
        exact kL_law_1855 hX hK23 hw hI (lv_sub hl [2, 3, 4, 5, 6] rfl) (by omega) (by omega)
      · have hw := hw.2 hc
        refine lv_iconst (v := (0)) hx hb dL_law_539 (by decide) ?_
        exact (show False from hw).elim
  · have hw := hw.2 hc
    refine lv_iconst (v := (0)) hx hb dL_law_522 (by decide) ?_
    exact (show False from hw).elim
set_option maxHeartbeats 4000000 in
set_option maxRecDepth 100000 in
theorem kL_law_544 {b : Nat} {L : Nat} {xs : Nat → Int32} (hX : jXL D z p l s m b L xs meth c) {capC capS : Nat} {K23 : Option Nat → Option Nat → Option Nat → Int32 → jM → Prop} (hK23 : ∀ {x1 : Option Nat} {x2 : Option Nat} {x3 : Option Nat} {x4 : Int32} {μ : jM} {H : Heap} {locs : List Loc} {ls : Array Slot} {cells slots : Nat}, K23 x1 x2 x3 x4 μ → jIz D z (jAL s) s.heap μ H locs → lv_has ls 8 [(0, va_rf (some b)), (1, va_rf x1), (2, va_rf x2), (3, va_rf x3), (4, .int x4)] → cells + capC ≤ 601024 → slots + capS ≤ 7293033 → W p l e room_1 s m #[Value.ref b] below meth c H locs cells slots (lw_Z below #[Value.ref b] s) (F0 m 23 ls [])) {x1 : Option Nat} {x2 : Option Nat} {x3 : Option Nat} {x4 : Int32} {μ : jM} {H : Heap} {locs : List Loc} {ls : Array Slot} {cells slots : Nat} (hw : wL_law_544 z b K23 L xs x1 x2 x3 x4 μ) (hI : jIz D z (jAL s) s.heap μ H locs) (hl : lv_has ls 8 [(0, va_rf (some b)), (1, va_rf x1), (2, va_rf x2), (3, va_rf x3), (4, .int x4)]) (hcn : cells + 2 + capC ≤ 601024) (hsn : slots + 12 + capS ≤ 7293033) : W p l e room_1 s m #[Value.ref b] below meth c H locs cells slots (lw_Z below #[Value.ref b] s) (F0 m 544 ls []) := by
  unfold wL_law_544 at hw
  obtain ⟨hx, hb, hml, hown, hts, hr, hlocks, hK, hG, hfl, hXs, hbl⟩ := id hX
  have hbA : ¬ jAL s b := Nat.not_le.mpr hbl
  refine j_aload_n (r := x1) hx hb dL_law_544 rfl (lv_at hl 1 rfl) ?_
  refine j_aload_n (r := (some b)) hx hb dL_law_545 rfl (lv_at hl 0 rfl) ?_
  refine lv_iload hx hb dL_law_546 (lv_at hl 4 rfl) ?_
  refine lv_iconst (v := (1)) hx hb dL_law_548 (by decide) ?_
  refine lv_iadd hx hb dL_law_549 ?_
  obtain ⟨h1, hw⟩ := hw
  refine va_sld hx hb hXs hbl hbA hI.2.2.1 h1 dL_law_550 ?_
  refine j_aload_n (r := (some b)) hx hb dL_law_551 rfl (lv_at hl 0 rfl) ?_
  refine lv_iload hx hb dL_law_552 (lv_at hl 4 rfl) ?_
  refine lv_iconst (v := (2)) hx hb dL_law_554 (by decide) ?_
  refine lv_iadd hx hb dL_law_555 ?_
  obtain ⟨h2, hw⟩ := hw
  refine va_sld hx hb hXs hbl hbA hI.2.2.1 h2 dL_law_556 ?_
  refine j_aload_n (r := x3) hx hb dL_law_557 rfl (lv_at hl 3 rfl) ?_
  refine j_goXz hI (vx_runSX (As := [va_rf x1, .int (xs (Int32.toNatClampNeg (x4 + (1 : Int32)))), .int (xs (Int32.toNatClampNeg (x4 + (2 : Int32)))), va_rf x3]) (rest := []) ⟨hx, hb, hml, hown, hts⟩ (kL_setBankLimit l hfl D z x1 (xs (Int32.toNatClampNeg (x4 + (1 : Int32)))) (xs (Int32.toNatClampNeg (x4 + (2 : Int32)))) x3 μ H.size _) (vx_cwSW 4 hts gL_law_L_setBankLimit rfl rfl rfl (by decide +kernel) ⟨Nat.le_of_ble_eq_true rfl, Nat.le_of_ble_eq_true rfl⟩) (j_prS2z hK hG hI hw) rfl rfl hl.1 rfl (lv_room (Nat.le_of_ble_eq_true rfl)) dL_law_558 ⟨by show _ ≤ 601024; omega, by show _ ≤ 7293033; omega⟩) (fun E ce q9 μX H locs hw hI hce hcv hcl => (show False from hw).elim) (fun v3 μ4 H locs hw hI => ?_)
  refine W.eq (g2 := F0 m 561 ls [.int v3]) rfl ?_
  refine lv_istore (lv' := [(5, .int v3), (0, va_rf (some b)), (1, va_rf x1), (2, va_rf x2), (3, va_rf x3), (4, .int x4)]) hx hb dL_law_561 hl (by decide) rfl (fun ls hl => ?_)
  refine j_aload_n (r := x2) hx hb dL_law_563 rfl (lv_at hl 3 rfl) ?_
  refine j_aload_n (r := (some b)) hx hb dL_law_564 rfl (lv_at hl 1 rfl) ?_
  refine lv_iload hx hb dL_law_565 (lv_at hl 5 rfl) ?_
  refine lv_iconst (v := (1)) hx hb dL_law_567 (by decide) ?_
  refine lv_iadd hx hb dL_law_568 ?_
  obtain ⟨h5, hw⟩ := hw
  refine va_sld hx hb hXs hbl hbA hI.2.2.1 h5 dL_law_569 ?_
  refine j_aload_n (r := (some b)) hx hb dL_law_570 rfl (lv_at hl 1 rfl) ?_
  refine lv_iload hx hb dL_law_571 (lv_at hl 5 rfl) ?_
  refine lv_iconst (v := (2)) hx hb dL_law_573 (by decide) ?_
  refine lv_iadd hx hb dL_law_574 ?_
  obtain ⟨h6, hw⟩ := hw
  refine va_sld hx hb hXs hbl hbA hI.2.2.1 h6 dL_law_575 ?_
  obtain ⟨b9, ⟨hrb9, hfs⟩, hw⟩ := hw
  refine j_goz hI (va_runV (As := [.int (xs (Int32.toNatClampNeg (x4 + (1 : Int32)))), .int (xs (Int32.toNatClampNeg (x4 + (2 : Int32))))]) (rest := []) ⟨hx, hb, hml, hown, hts⟩ (kX10_setBankLimit l hfl D z b9 (xs (Int32.toNatClampNeg (x4 + (1 : Int32)))) (xs (Int32.toNatClampNeg (x4 + (2 : Int32)))) μ4 H.size _) (cwV 2 hts gL_law_X10_setBankLimit rfl rfl rfl (by decide +kernel) ⟨Nat.le_of_ble_eq_true rfl, Nat.le_of_ble_eq_true rfl⟩) (j_prV2z hK hG hI hw (ci := 12) rfl hfs) rfl rfl hl.1 (by rw [hrb9]; rfl) (lv_room (Nat.le_of_ble_eq_true rfl)) dL_law_576 ⟨by show _ ≤ 601024; omega, by show _ ≤ 7293033; omega⟩) (fun v7 μ8 H locs hw hI => ?_)
  refine W.eq (g2 := F0 m 579 ls [.int v7]) rfl ?_
  refine lv_istore (lv' := [(6, .int v7), (5, .int v3), (0, va_rf (some b)), (1, va_rf x1), (2, va_rf x2), (3, va_rf x3), (4, .int x4)]) hx hb dL_law_579 hl (by decide) rfl (fun ls hl => ?_)
  refine j_aload_n (r := x2) hx hb dL_law_581 rfl (lv_at hl 4 rfl) ?_
  obtain ⟨b12, ⟨hrb12, hfs⟩, hw⟩ := hw
  refine j_goz hI (va_runV (As := []) (rest := []) ⟨hx, hb, hml, hown, hts⟩ (kX10_thrown l hfl D z b12  μ8 H.size _) (cwV 0 hts gL_law_X10_thrown rfl rfl rfl (by decide +kernel) ⟨Nat.le_of_ble_eq_true rfl, Nat.le_of_ble_eq_true rfl⟩) (j_prV2z hK hG hI hw (ci := 12) rfl hfs) rfl rfl hl.1 (by rw [hrb12]; rfl) (lv_room (Nat.le_of_ble_eq_true rfl)) dL_law_582 ⟨by show _ ≤ 601024; omega, by show _ ≤ 7293033; omega⟩) (fun v10 μ11 H locs hw hI => ?_)
  refine W.eq (g2 := F0 m 585 ls [.int v10]) rfl ?_
  refine lv_iload hx hb dL_law_585 (lv_at hl 1 rfl) ?_
  refine lv_icmp_eq (tgt := 592) hx hb dL_law_587 (by decide) (fun hc => ?_) (fun hc => ?_)
  · have hw := hw.1 hc
    refine lv_iload hx hb dL_law_592 (lv_at hl 1 rfl) ?_
    refine lv_if_ne (tgt := 609) hx hb dL_law_594 (by decide) (fun hc => ?_) (fun hc => ?_)
    · have hw := hw.1 hc
      refine lv_goto (tgt := 1855) hx hb dL_law_609 (by decide) ?_
      exact kL_law_1855 hX hK23 hw hI (lv_sub hl [2, 3, 4, 5, 6] rfl) (by omega) (by omega)
    · have hw := hw.2 hc
      refine j_aload_n (r := x3) hx hb dL_law_597 rfl (lv_at hl 5 rfl) ?_
      refine lv_iconst (v := (0)) hx hb dL_law_598 (by decide) ?_
      obtain ⟨v13, hv13, hw⟩ := hw
      refine j_laldz (r := x3) hx hb hK hI hv13 dL_law_599 ?_
      refine lv_iload hx hb dL_law_600 (lv_at hl 0 rfl) ?_
      refine lv_i2l hx hb dL_law_602 rfl ?_
      refine j_lcmp_eq (tgt := 609) hx hb dL_law_603 dL_law_604 (by decide) (fun hc => ?_) (fun hc => ?_)
      · have hw := hw.1 hc
        refine lv_goto (tgt := 1855) hx hb dL_law_609 (by decide) ?_
        exact kL_law_1855 hX hK23 hw hI (lv_sub hl [2, 3, 4, 5, 6] rfl) (by omega) (by omega)
      · have hw := hw.2 hc
        refine lv_iconst (v := (0)) hx hb dL_law_607 (by decide) ?_
        exact (show False from hw).elim
  · have hw := hw.2 hc
    refine lv_iconst (v := (0)) hx hb dL_law_590 (by decide) ?_
    exact (show False from hw).elim
set_option maxHeartbeats 4000000 in
set_option maxRecDepth 100000 in
theorem kL_law_612 {b : Nat} {L : Nat} {xs : Nat → Int32} (hX : jXL D z p l s m b L xs meth c) {capC capS : Nat} {K23 : Option Nat → Option Nat → Option Nat → Int32 → jM → Prop} (hK23 : ∀ {x1 : Option Nat} {x2 : Option Nat} {x3 : Option Nat} {x4 : Int32} {μ : jM} {H : Heap} {locs : List Loc} {ls : Array Slot} {cells slots : Nat}, K23 x1 x2 x3 x4 μ → jIz D z (jAL s) s.heap μ H locs → lv_has ls 8 [(0, va_rf (some b)), (1, va_rf x1), (2, va_rf x2), (3, va_rf x3), (4, .int x4)] → cells + capC ≤ 601024 → slots + capS ≤ 7293033 → W p l e room_1 s m #[Value.ref b] below meth c H locs cells slots (lw_Z below #[Value.ref b] s) (F0 m 23 ls [])) {x1 : Option Nat} {x2 : Option Nat} {x3 : Option Nat} {x4 : Int32} {μ : jM} {H : Heap} {locs : List Loc} {ls : Array Slot} {cells slots : Nat} (hw : wL_law_612 z b K23 L xs x1 x2 x3 x4 μ) (hI : jIz D z (jAL s) s.heap μ H locs) (hl : lv_has ls 8 [(0, va_rf (some b)), (1, va_rf x1), (2, va_rf x2), (3, va_rf x3), (4, .int x4)]) (hcn : cells + 0 + capC ≤ 601024) (hsn : slots + 0 + capS ≤ 7293033) : W p l e room_1 s m #[Value.ref b] below meth c H locs cells slots (lw_Z below #[Value.ref b] s) (F0 m 612 ls []) := by
  unfold wL_law_612 at hw
  obtain ⟨hx, hb, hml, hown, hts, hr, hlocks, hK, hG, hfl, hXs, hbl⟩ := id hX
  have hbA : ¬ jAL s b := Nat.not_le.mpr hbl
  refine j_aload_n (r := x1) hx hb dL_law_612 rfl (lv_at hl 1 rfl) ?_
  obtain ⟨b3, ⟨hrb3, hfs⟩, hw⟩ := hw
  refine j_goz hI (va_runV (As := []) (rest := []) ⟨hx, hb, hml, hown, hts⟩ (kX9_today l hfl D z b3  μ H.size _) (cwV 0 hts gL_law_X9_today rfl rfl rfl (by decide +kernel) ⟨Nat.le_of_ble_eq_true rfl, Nat.le_of_ble_eq_true rfl⟩) (j_prV2z hK hG hI hw (ci := 11) rfl hfs) rfl rfl hl.1 (by rw [hrb3]; rfl) (lv_room (Nat.le_of_ble_eq_true rfl)) dL_law_613 ⟨by show _ ≤ 601024; omega, by show _ ≤ 7293033; omega⟩) (fun v1 μ2 H locs hw hI => ?_)
  refine W.eq (g2 := F0 m 616 ls [.int v1]) rfl ?_
  refine j_aload_n (r := x2) hx hb dL_law_616 rfl (lv_at hl 2 rfl) ?_
  obtain ⟨b6, ⟨hrb6, hfs⟩, hw⟩ := hw
  refine j_goz hI (va_runV (As := []) (rest := [.int v1]) ⟨hx, hb, hml, hown, hts⟩ (kX10_today l hfl D z b6  μ2 H.size _) (cwV 0 hts gL_law_X10_today rfl rfl rfl (by decide +kernel) ⟨Nat.le_of_ble_eq_true rfl, Nat.le_of_ble_eq_true rfl⟩) (j_prV2z hK hG hI hw (ci := 12) rfl hfs) rfl rfl hl.1 (by rw [hrb6]; rfl) (lv_room (Nat.le_of_ble_eq_true rfl)) dL_law_617 ⟨by show _ ≤ 601024; omega, by show _ ≤ 7293033; omega⟩) (fun v4 μ5 H locs hw hI => ?_)
  refine W.eq (g2 := F0 m 620 ls [.int v4, .int v1]) rfl ?_
  refine lv_icmp_eq (tgt := 1855) hx hb dL_law_620 (by decide) (fun hc => ?_) (fun hc => ?_)
  · have hw := hw.1 hc
    exact kL_law_1855 hX hK23 hw hI (lv_sub hl [0, 1, 2, 3, 4] rfl) (by omega) (by omega)
  · have hw := hw.2 hc
    refine lv_iconst (v := (0)) hx hb dL_law_623 (by decide) ?_
    exact (show False from hw).elim
set_option maxHeartbeats 4000000 in
set_option maxRecDepth 100000 in
theorem kL_law_625 {b : Nat} {L : Nat} {xs : Nat → Int32} (hX : jXL D z p l s m b L xs meth c) {capC capS : Nat} {K23 : Option Nat → Option Nat → Option Nat → Int32 → jM → Prop} (hK23 : ∀ {x1 : Option Nat} {x2 : Option Nat} {x3 : Option Nat} {x4 : Int32} {μ : jM} {H : Heap} {locs : List Loc} {ls : Array Slot} {cells slots : Nat}, K23 x1 x2 x3 x4 μ → jIz D z (jAL s) s.heap μ H locs → lv_has ls 8 [(0, va_rf (some b)), (1, va_rf x1), (2, va_rf x2), (3, va_rf x3), (4, .int x4)] → cells + capC ≤ 601024 → slots + capS ≤ 7293033 → W p l e room_1 s m #[Value.ref b] below meth c H locs cells slots (lw_Z below #[Value.ref b] s) (F0 m 23 ls [])) {x1 : Option Nat} {x2 : Option Nat} {x3 : Option Nat} {x4 : Int32} {μ : jM} {H : Heap} {locs : List Loc} {ls : Array Slot} {cells slots : Nat} (hw : wL_law_625 z b K23 L xs x1 x2 x3 x4 μ) (hI : jIz D z (jAL s) s.heap μ H locs) (hl : lv_has ls 8 [(0, va_rf (some b)), (1, va_rf x1), (2, va_rf x2), (3, va_rf x3), (4, .int x4)]) (hcn : cells + 1 + capC ≤ 601024) (hsn : slots + 6 + capS ≤ 7293033) : W p l e room_1 s m #[Value.ref b] below meth c H locs cells slots (lw_Z below #[Value.ref b] s) (F0 m 625 ls []) := by
  unfold wL_law_625 at hw
  obtain ⟨hx, hb, hml, hown, hts, hr, hlocks, hK, hG, hfl, hXs, hbl⟩ := id hX
  have hbA : ¬ jAL s b := Nat.not_le.mpr hbl
  refine j_aload_n (r := x1) hx hb dL_law_625 rfl (lv_at hl 1 rfl) ?_
  refine j_aload_n (r := (some b)) hx hb dL_law_626 rfl (lv_at hl 0 rfl) ?_
  refine lv_iload hx hb dL_law_627 (lv_at hl 4 rfl) ?_
  refine lv_iconst (v := (1)) hx hb dL_law_629 (by decide) ?_
  refine lv_iadd hx hb dL_law_630 ?_
  obtain ⟨h1, hw⟩ := hw
  refine va_sld hx hb hXs hbl hbA hI.2.2.1 h1 dL_law_631 ?_
  refine j_aload_n (r := x3) hx hb dL_law_632 rfl (lv_at hl 3 rfl) ?_
  refine j_goXz hI (vx_runSX (As := [va_rf x1, .int (xs (Int32.toNatClampNeg (x4 + (1 : Int32)))), va_rf x3]) (rest := []) ⟨hx, hb, hml, hown, hts⟩ (kL_addHoliday l hfl D z x1 (xs (Int32.toNatClampNeg (x4 + (1 : Int32)))) x3 μ H.size _) (vx_cwSW 3 hts gL_law_L_addHoliday rfl rfl rfl (by decide +kernel) ⟨Nat.le_of_ble_eq_true rfl, Nat.le_of_ble_eq_true rfl⟩) (j_prS2z hK hG hI hw) rfl rfl hl.1 rfl (lv_room (Nat.le_of_ble_eq_true rfl)) dL_law_633 ⟨by show _ ≤ 601024; omega, by show _ ≤ 7293033; omega⟩) (fun E ce q9 μX H locs hw hI hce hcv hcl => (show False from hw).elim) (fun v2 μ3 H locs hw hI => ?_)
  refine W.eq (g2 := F0 m 636 ls [.int v2]) rfl ?_
  refine lv_istore (lv' := [(5, .int v2), (0, va_rf (some b)), (1, va_rf x1), (2, va_rf x2), (3, va_rf x3), (4, .int x4)]) hx hb dL_law_636 hl (by decide) rfl (fun ls hl => ?_)
  refine j_aload_n (r := x2) hx hb dL_law_638 rfl (lv_at hl 3 rfl) ?_
  refine j_aload_n (r := (some b)) hx hb dL_law_639 rfl (lv_at hl 1 rfl) ?_
  refine lv_iload hx hb dL_law_640 (lv_at hl 5 rfl) ?_
  refine lv_iconst (v := (1)) hx hb dL_law_642 (by decide) ?_
  refine lv_iadd hx hb dL_law_643 ?_
  obtain ⟨h4, hw⟩ := hw
  refine va_sld hx hb hXs hbl hbA hI.2.2.1 h4 dL_law_644 ?_
  obtain ⟨b7, ⟨hrb7, hfs⟩, hw⟩ := hw
  refine j_goz hI (va_runV (As := [.int (xs (Int32.toNatClampNeg (x4 + (1 : Int32))))]) (rest := []) ⟨hx, hb, hml, hown, hts⟩ (kX10_addHoliday l hfl D z b7 (xs (Int32.toNatClampNeg (x4 + (1 : Int32)))) μ3 H.size _) (cwV 1 hts gL_law_X10_addHoliday rfl rfl rfl (by decide +kernel) ⟨Nat.le_of_ble_eq_true rfl, Nat.le_of_ble_eq_true rfl⟩) (j_prV2z hK hG hI hw (ci := 12) rfl hfs) rfl rfl hl.1 (by rw [hrb7]; rfl) (lv_room (Nat.le_of_ble_eq_true rfl)) dL_law_645 ⟨by show _ ≤ 601024; omega, by show _ ≤ 7293033; omega⟩) (fun v5 μ6 H locs hw hI => ?_)
  refine W.eq (g2 := F0 m 648 ls [.int v5]) rfl ?_
  refine lv_istore (lv' := [(6, .int v5), (5, .int v2), (0, va_rf (some b)), (1, va_rf x1), (2, va_rf x2), (3, va_rf x3), (4, .int x4)]) hx hb dL_law_648 hl (by decide) rfl (fun ls hl => ?_)
  refine j_aload_n (r := x2) hx hb dL_law_650 rfl (lv_at hl 4 rfl) ?_
  obtain ⟨b10, ⟨hrb10, hfs⟩, hw⟩ := hw
  refine j_goz hI (va_runV (As := []) (rest := []) ⟨hx, hb, hml, hown, hts⟩ (kX10_thrown l hfl D z b10  μ6 H.size _) (cwV 0 hts gL_law_X10_thrown rfl rfl rfl (by decide +kernel) ⟨Nat.le_of_ble_eq_true rfl, Nat.le_of_ble_eq_true rfl⟩) (j_prV2z hK hG hI hw (ci := 12) rfl hfs) rfl rfl hl.1 (by rw [hrb10]; rfl) (lv_room (Nat.le_of_ble_eq_true rfl)) dL_law_651 ⟨by show _ ≤ 601024; omega, by show _ ≤ 7293033; omega⟩) (fun v8 μ9 H locs hw hI => ?_)
  refine W.eq (g2 := F0 m 654 ls [.int v8]) rfl ?_
  refine lv_iload hx hb dL_law_654 (lv_at hl 1 rfl) ?_
  refine lv_icmp_eq (tgt := 661) hx hb dL_law_656 (by decide) (fun hc => ?_) (fun hc => ?_)
  · have hw := hw.1 hc
    refine lv_iload hx hb dL_law_661 (lv_at hl 1 rfl) ?_
    refine lv_if_ne (tgt := 678) hx hb dL_law_663 (by decide) (fun hc => ?_) (fun hc => ?_)
    · have hw := hw.1 hc
      refine lv_goto (tgt := 1855) hx hb dL_law_678 (by decide) ?_
      exact kL_law_1855 hX hK23 hw hI (lv_sub hl [2, 3, 4, 5, 6] rfl) (by omega) (by omega)
    · have hw := hw.2 hc
      refine j_aload_n (r := x3) hx hb dL_law_666 rfl (lv_at hl 5 rfl) ?_
      refine lv_iconst (v := (0)) hx hb dL_law_667 (by decide) ?_
      obtain ⟨v11, hv11, hw⟩ := hw
      refine j_laldz (r := x3) hx hb hK hI hv11 dL_law_668 ?_
      refine lv_iload hx hb dL_law_669 (lv_at hl 0 rfl) ?_
      refine lv_i2l hx hb dL_law_671 rfl ?_
      refine j_lcmp_eq (tgt := 678) hx hb dL_law_672 dL_law_673 (by decide) (fun hc => ?_) (fun hc => ?_)
      · have hw := hw.1 hc
        refine lv_goto (tgt := 1855) hx hb dL_law_678 (by decide) ?_
        exact kL_law_1855 hX hK23 hw hI (lv_sub hl [2, 3, 4, 5, 6] rfl) (by omega) (by omega)
      · have hw := hw.2 hc
        refine lv_iconst (v := (0)) hx hb dL_law_676 (by decide) ?_
        exact (show False from hw).elim
  · have hw := hw.2 hc
    refine lv_iconst (v := (0)) hx hb dL_law_659 (by decide) ?_
    exact (show False from hw).elim
set_option maxHeartbeats 4000000 in
set_option maxRecDepth 100000 in
theorem kL_law_681 {b : Nat} {L : Nat} {xs : Nat → Int32} (hX : jXL D z p l s m b L xs meth c) {capC capS : Nat} {K23 : Option Nat → Option Nat → Option Nat → Int32 → jM → Prop} (hK23 : ∀ {x1 : Option Nat} {x2 : Option Nat} {x3 : Option Nat} {x4 : Int32} {μ : jM} {H : Heap} {locs : List Loc} {ls : Array Slot} {cells slots : Nat}, K23 x1 x2 x3 x4 μ → jIz D z (jAL s) s.heap μ H locs → lv_has ls 8 [(0, va_rf (some b)), (1, va_rf x1), (2, va_rf x2), (3, va_rf x3), (4, .int x4)] → cells + capC ≤ 601024 → slots + capS ≤ 7293033 → W p l e room_1 s m #[Value.ref b] below meth c H locs cells slots (lw_Z below #[Value.ref b] s) (F0 m 23 ls [])) {x1 : Option Nat} {x2 : Option Nat} {x3 : Option Nat} {x4 : Int32} {μ : jM} {H : Heap} {locs : List Loc} {ls : Array Slot} {cells slots : Nat} (hw : wL_law_681 z b K23 L xs x1 x2 x3 x4 μ) (hI : jIz D z (jAL s) s.heap μ H locs) (hl : lv_has ls 8 [(0, va_rf (some b)), (1, va_rf x1), (2, va_rf x2), (3, va_rf x3), (4, .int x4)]) (hcn : cells + 1 + capC ≤ 601024) (hsn : slots + 6 + capS ≤ 7293033) : W p l e room_1 s m #[Value.ref b] below meth c H locs cells slots (lw_Z below #[Value.ref b] s) (F0 m 681 ls []) := by
  unfold wL_law_681 at hw
  obtain ⟨hx, hb, hml, hown, hts, hr, hlocks, hK, hG, hfl, hXs, hbl⟩ := id hX
  have hbA : ¬ jAL s b := Nat.not_le.mpr hbl
  refine j_aload_n (r := x1) hx hb dL_law_681 rfl (lv_at hl 1 rfl) ?_
  refine j_aload_n (r := (some b)) hx hb dL_law_682 rfl (lv_at hl 0 rfl) ?_
  refine lv_iload hx hb dL_law_683 (lv_at hl 4 rfl) ?_
  refine lv_iconst (v := (1)) hx hb dL_law_685 (by decide) ?_
  refine lv_iadd hx hb dL_law_686 ?_
  obtain ⟨h1, hw⟩ := hw
  refine va_sld hx hb hXs hbl hbA hI.2.2.1 h1 dL_law_687 ?_
  refine j_aload_n (r := x3) hx hb dL_law_688 rfl (lv_at hl 3 rfl) ?_
  refine j_goXz hI (vx_runSX (As := [va_rf x1, .int (xs (Int32.toNatClampNeg (x4 + (1 : Int32)))), va_rf x3]) (rest := []) ⟨hx, hb, hml, hown, hts⟩ (kL_settlementDay l hfl D z x1 (xs (Int32.toNatClampNeg (x4 + (1 : Int32)))) x3 μ H.size _) (vx_cwSW 3 hts gL_law_L_settlementDay rfl rfl rfl (by decide +kernel) ⟨Nat.le_of_ble_eq_true rfl, Nat.le_of_ble_eq_true rfl⟩) (j_prS2z hK hG hI hw) rfl rfl hl.1 rfl (lv_room (Nat.le_of_ble_eq_true rfl)) dL_law_689 ⟨by show _ ≤ 601024; omega, by show _ ≤ 7293033; omega⟩) (fun E ce q9 μX H locs hw hI hce hcv hcl => (show False from hw).elim) (fun v2 μ3 H locs hw hI => ?_)
  refine W.eq (g2 := F0 m 692 ls [.int v2]) rfl ?_
  refine lv_istore (lv' := [(5, .int v2), (0, va_rf (some b)), (1, va_rf x1), (2, va_rf x2), (3, va_rf x3), (4, .int x4)]) hx hb dL_law_692 hl (by decide) rfl (fun ls hl => ?_)
  refine j_aload_n (r := x2) hx hb dL_law_694 rfl (lv_at hl 3 rfl) ?_
  refine j_aload_n (r := (some b)) hx hb dL_law_695 rfl (lv_at hl 1 rfl) ?_
  refine lv_iload hx hb dL_law_696 (lv_at hl 5 rfl) ?_
  refine lv_iconst (v := (1)) hx hb dL_law_698 (by decide) ?_
  refine lv_iadd hx hb dL_law_699 ?_
  obtain ⟨h4, hw⟩ := hw
  refine va_sld hx hb hXs hbl hbA hI.2.2.1 h4 dL_law_700 ?_
  obtain ⟨b7, ⟨hrb7, hfs⟩, hw⟩ := hw
  refine j_goz hI (va_runV (As := [.int (xs (Int32.toNatClampNeg (x4 + (1 : Int32))))]) (rest := []) ⟨hx, hb, hml, hown, hts⟩ (kX10_settlementDay l hfl D z b7 (xs (Int32.toNatClampNeg (x4 + (1 : Int32)))) μ3 H.size _) (cwV 1 hts gL_law_X10_settlementDay rfl rfl rfl (by decide +kernel) ⟨Nat.le_of_ble_eq_true rfl, Nat.le_of_ble_eq_true rfl⟩) (j_prV2z hK hG hI hw (ci := 12) rfl hfs) rfl rfl hl.1 (by rw [hrb7]; rfl) (lv_room (Nat.le_of_ble_eq_true rfl)) dL_law_701 ⟨by show _ ≤ 601024; omega, by show _ ≤ 7293033; omega⟩) (fun v5 μ6 H locs hw hI => ?_)
  refine W.eq (g2 := F0 m 704 ls [.int v5]) rfl ?_
  refine lv_istore (lv' := [(6, .int v5), (5, .int v2), (0, va_rf (some b)), (1, va_rf x1), (2, va_rf x2), (3, va_rf x3), (4, .int x4)]) hx hb dL_law_704 hl (by decide) rfl (fun ls hl => ?_)
  refine j_aload_n (r := x2) hx hb dL_law_706 rfl (lv_at hl 4 rfl) ?_
  obtain ⟨b10, ⟨hrb10, hfs⟩, hw⟩ := hw
  refine j_goz hI (va_runV (As := []) (rest := []) ⟨hx, hb, hml, hown, hts⟩ (kX10_thrown l hfl D z b10  μ6 H.size _) (cwV 0 hts gL_law_X10_thrown rfl rfl rfl (by decide +kernel) ⟨Nat.le_of_ble_eq_true rfl, Nat.le_of_ble_eq_true rfl⟩) (j_prV2z hK hG hI hw (ci := 12) rfl hfs) rfl rfl hl.1 (by rw [hrb10]; rfl) (lv_room (Nat.le_of_ble_eq_true rfl)) dL_law_707 ⟨by show _ ≤ 601024; omega, by show _ ≤ 7293033; omega⟩) (fun v8 μ9 H locs hw hI => ?_)
  refine W.eq (g2 := F0 m 710 ls [.int v8]) rfl ?_
  refine lv_iload hx hb dL_law_710 (lv_at hl 1 rfl) ?_
  refine lv_icmp_eq (tgt := 717) hx hb dL_law_712 (by decide) (fun hc => ?_) (fun hc => ?_)
  · have hw := hw.1 hc
    refine lv_iload hx hb dL_law_717 (lv_at hl 1 rfl) ?_
    refine lv_if_ne (tgt := 734) hx hb dL_law_719 (by decide) (fun hc => ?_) (fun hc => ?_)
    · have hw := hw.1 hc
      refine lv_goto (tgt := 1855) hx hb dL_law_734 (by decide) ?_
      exact kL_law_1855 hX hK23 hw hI (lv_sub hl [2, 3, 4, 5, 6] rfl) (by omega) (by omega)
    · have hw := hw.2 hc
      refine j_aload_n (r := x3) hx hb dL_law_722 rfl (lv_at hl 5 rfl) ?_
      refine lv_iconst (v := (0)) hx hb dL_law_723 (by decide) ?_
      obtain ⟨v11, hv11, hw⟩ := hw
      refine j_laldz (r := x3) hx hb hK hI hv11 dL_law_724 ?_
      refine lv_iload hx hb dL_law_725 (lv_at hl 0 rfl) ?_
      refine lv_i2l hx hb dL_law_727 rfl ?_
      refine j_lcmp_eq (tgt := 734) hx hb dL_law_728 dL_law_729 (by decide) (fun hc => ?_) (fun hc => ?_)
      · have hw := hw.1 hc
        refine lv_goto (tgt := 1855) hx hb dL_law_734 (by decide) ?_
        exact kL_law_1855 hX hK23 hw hI (lv_sub hl [2, 3, 4, 5, 6] rfl) (by omega) (by omega)
      · have hw := hw.2 hc
        refine lv_iconst (v := (0)) hx hb dL_law_732 (by decide) ?_
        exact (show False from hw).elim
  · have hw := hw.2 hc
    refine lv_iconst (v := (0)) hx hb dL_law_715 (by decide) ?_
    exact (show False from hw).elim
set_option maxHeartbeats 4000000 in
set_option maxRecDepth 100000 in
theorem kL_law_737 {b : Nat} {L : Nat} {xs : Nat → Int32} (hX : jXL D z p l s m b L xs meth c) {capC capS : Nat} {K23 : Option Nat → Option Nat → Option Nat → Int32 → jM → Prop} (hK23 : ∀ {x1 : Option Nat} {x2 : Option Nat} {x3 : Option Nat} {x4 : Int32} {μ : jM} {H : Heap} {locs : List Loc} {ls : Array Slot} {cells slots : Nat}, K23 x1 x2 x3 x4 μ → jIz D z (jAL s) s.heap μ H locs → lv_has ls 8 [(0, va_rf (some b)), (1, va_rf x1), (2, va_rf x2), (3, va_rf x3), (4, .int x4)] → cells + capC ≤ 601024 → slots + capS ≤ 7293033 → W p l e room_1 s m #[Value.ref b] below meth c H locs cells slots (lw_Z below #[Value.ref b] s) (F0 m 23 ls [])) {x1 : Option Nat} {x2 : Option Nat} {x3 : Option Nat} {x4 : Int32} {μ : jM} {H : Heap} {locs : List Loc} {ls : Array Slot} {cells slots : Nat} (hw : wL_law_737 z b K23 L xs x1 x2 x3 x4 μ) (hI : jIz D z (jAL s) s.heap μ H locs) (hl : lv_has ls 8 [(0, va_rf (some b)), (1, va_rf x1), (2, va_rf x2), (3, va_rf x3), (4, .int x4)]) (hcn : cells + 2 + capC ≤ 601024) (hsn : slots + 12 + capS ≤ 7293033) : W p l e room_1 s m #[Value.ref b] below meth c H locs cells slots (lw_Z below #[Value.ref b] s) (F0 m 737 ls []) := by
  unfold wL_law_737 at hw
  obtain ⟨hx, hb, hml, hown, hts, hr, hlocks, hK, hG, hfl, hXs, hbl⟩ := id hX
  have hbA : ¬ jAL s b := Nat.not_le.mpr hbl
  refine j_aload_n (r := x1) hx hb dL_law_737 rfl (lv_at hl 1 rfl) ?_
  refine j_aload_n (r := (some b)) hx hb dL_law_738 rfl (lv_at hl 0 rfl) ?_
  refine lv_iload hx hb dL_law_739 (lv_at hl 4 rfl) ?_
  refine lv_iconst (v := (1)) hx hb dL_law_741 (by decide) ?_
  refine lv_iadd hx hb dL_law_742 ?_
  obtain ⟨h1, hw⟩ := hw
  refine va_sld hx hb hXs hbl hbA hI.2.2.1 h1 dL_law_743 ?_
  refine j_aload_n (r := x3) hx hb dL_law_744 rfl (lv_at hl 3 rfl) ?_
  refine j_goXz hI (vx_runSX (As := [va_rf x1, .int (xs (Int32.toNatClampNeg (x4 + (1 : Int32)))), va_rf x3]) (rest := []) ⟨hx, hb, hml, hown, hts⟩ (kL_passDays l hfl D z x1 (xs (Int32.toNatClampNeg (x4 + (1 : Int32)))) x3 μ H.size _) (vx_cwSW 3 hts gL_law_L_passDays rfl rfl rfl (by decide +kernel) ⟨Nat.le_of_ble_eq_true rfl, Nat.le_of_ble_eq_true rfl⟩) (j_prS2z hK hG hI hw) rfl rfl hl.1 rfl (lv_room (Nat.le_of_ble_eq_true rfl)) dL_law_745 ⟨by show _ ≤ 601024; omega, by show _ ≤ 7293033; omega⟩) (fun E ce q9 μX H locs hw hI hce hcv hcl => (show False from hw).elim) (fun v2 μ3 H locs hw hI => ?_)
  refine W.eq (g2 := F0 m 748 ls [.int v2]) rfl ?_
  refine lv_istore (lv' := [(5, .int v2), (0, va_rf (some b)), (1, va_rf x1), (2, va_rf x2), (3, va_rf x3), (4, .int x4)]) hx hb dL_law_748 hl (by decide) rfl (fun ls hl => ?_)
  refine j_aload_n (r := x2) hx hb dL_law_750 rfl (lv_at hl 3 rfl) ?_
  refine j_aload_n (r := (some b)) hx hb dL_law_751 rfl (lv_at hl 1 rfl) ?_
  refine lv_iload hx hb dL_law_752 (lv_at hl 5 rfl) ?_
  refine lv_iconst (v := (1)) hx hb dL_law_754 (by decide) ?_
  refine lv_iadd hx hb dL_law_755 ?_
  obtain ⟨h4, hw⟩ := hw
  refine va_sld hx hb hXs hbl hbA hI.2.2.1 h4 dL_law_756 ?_
  obtain ⟨b7, ⟨hrb7, hfs⟩, hw⟩ := hw
  refine j_goz hI (va_runV (As := [.int (xs (Int32.toNatClampNeg (x4 + (1 : Int32))))]) (rest := []) ⟨hx, hb, hml, hown, hts⟩ (kX10_passDays l hfl D z b7 (xs (Int32.toNatClampNeg (x4 + (1 : Int32)))) μ3 H.size _) (cwV 1 hts gL_law_X10_passDays rfl rfl rfl (by decide +kernel) ⟨Nat.le_of_ble_eq_true rfl, Nat.le_of_ble_eq_true rfl⟩) (j_prV2z hK hG hI hw (ci := 12) rfl hfs) rfl rfl hl.1 (by rw [hrb7]; rfl) (lv_room (Nat.le_of_ble_eq_true rfl)) dL_law_757 ⟨by show _ ≤ 601024; omega, by show _ ≤ 7293033; omega⟩) (fun v5 μ6 H locs hw hI => ?_)
  refine W.eq (g2 := F0 m 760 ls [.int v5]) rfl ?_
  refine lv_istore (lv' := [(6, .int v5), (5, .int v2), (0, va_rf (some b)), (1, va_rf x1), (2, va_rf x2), (3, va_rf x3), (4, .int x4)]) hx hb dL_law_760 hl (by decide) rfl (fun ls hl => ?_)
  refine j_aload_n (r := x2) hx hb dL_law_762 rfl (lv_at hl 4 rfl) ?_
  obtain ⟨b10, ⟨hrb10, hfs⟩, hw⟩ := hw
  refine j_goz hI (va_runV (As := []) (rest := []) ⟨hx, hb, hml, hown, hts⟩ (kX10_thrown l hfl D z b10  μ6 H.size _) (cwV 0 hts gL_law_X10_thrown rfl rfl rfl (by decide +kernel) ⟨Nat.le_of_ble_eq_true rfl, Nat.le_of_ble_eq_true rfl⟩) (j_prV2z hK hG hI hw (ci := 12) rfl hfs) rfl rfl hl.1 (by rw [hrb10]; rfl) (lv_room (Nat.le_of_ble_eq_true rfl)) dL_law_763 ⟨by show _ ≤ 601024; omega, by show _ ≤ 7293033; omega⟩) (fun v8 μ9 H locs hw hI => ?_)
  refine W.eq (g2 := F0 m 766 ls [.int v8]) rfl ?_
  refine lv_iload hx hb dL_law_766 (lv_at hl 1 rfl) ?_
  refine lv_icmp_eq (tgt := 773) hx hb dL_law_768 (by decide) (fun hc => ?_) (fun hc => ?_)
  · have hw := hw.1 hc
    refine lv_iload hx hb dL_law_773 (lv_at hl 1 rfl) ?_
    refine lv_if_ne (tgt := 790) hx hb dL_law_775 (by decide) (fun hc => ?_) (fun hc => ?_)
    · have hw := hw.1 hc
      refine lv_goto (tgt := 1855) hx hb dL_law_790 (by decide) ?_
      exact kL_law_1855 hX hK23 hw hI (lv_sub hl [2, 3, 4, 5, 6] rfl) (by omega) (by omega)
    · have hw := hw.2 hc
      refine j_aload_n (r := x3) hx hb dL_law_778 rfl (lv_at hl 5 rfl) ?_
      refine lv_iconst (v := (0)) hx hb dL_law_779 (by decide) ?_
      obtain ⟨v11, hv11, hw⟩ := hw
      refine j_laldz (r := x3) hx hb hK hI hv11 dL_law_780 ?_
      refine lv_iload hx hb dL_law_781 (lv_at hl 0 rfl) ?_
      refine lv_i2l hx hb dL_law_783 rfl ?_
      refine j_lcmp_eq (tgt := 790) hx hb dL_law_784 dL_law_785 (by decide) (fun hc => ?_) (fun hc => ?_)
      · have hw := hw.1 hc
        refine lv_goto (tgt := 1855) hx hb dL_law_790 (by decide) ?_
        exact kL_law_1855 hX hK23 hw hI (lv_sub hl [2, 3, 4, 5, 6] rfl) (by omega) (by omega)
      · have hw := hw.2 hc
        refine lv_iconst (v := (0)) hx hb dL_law_788 (by decide) ?_
        exact (show False from hw).elim
  · have hw := hw.2 hc
    refine lv_iconst (v := (0)) hx hb dL_law_771 (by decide) ?_
    exact (show False from hw).elim
set_option maxHeartbeats 4000000 in
set_option maxRecDepth 100000 in
theorem kL_law_793 {b : Nat} {L : Nat} {xs : Nat → Int32} (hX : jXL D z p l s m b L xs meth c) {capC capS : Nat} {K23 : Option Nat → Option Nat → Option Nat → Int32 → jM → Prop} (hK23 : ∀ {x1 : Option Nat} {x2 : Option Nat} {x3 : Option Nat} {x4 : Int32} {μ : jM} {H : Heap} {locs : List Loc} {ls : Array Slot} {cells slots : Nat}, K23 x1 x2 x3 x4 μ → jIz D z (jAL s) s.heap μ H locs → lv_has ls 8 [(0, va_rf (some b)), (1, va_rf x1), (2, va_rf x2), (3, va_rf x3), (4, .int x4)] → cells + capC ≤ 601024 → slots + capS ≤ 7293033 → W p l e room_1 s m #[Value.ref b] below meth c H locs cells slots (lw_Z below #[Value.ref b] s) (F0 m 23 ls [])) {x1 : Option Nat} {x2 : Option Nat} {x3 : Option Nat} {x4 : Int32} {μ : jM} {H : Heap} {locs : List Loc} {ls : Array Slot} {cells slots : Nat} (hw : wL_law_793 z b K23 L xs x1 x2 x3 x4 μ) (hI : jIz D z (jAL s) s.heap μ H locs) (hl : lv_has ls 8 [(0, va_rf (some b)), (1, va_rf x1), (2, va_rf x2), (3, va_rf x3), (4, .int x4)]) (hcn : cells + 3 + capC ≤ 601024) (hsn : slots + 18 + capS ≤ 7293033) : W p l e room_1 s m #[Value.ref b] below meth c H locs cells slots (lw_Z below #[Value.ref b] s) (F0 m 793 ls []) := by
  unfold wL_law_793 at hw
  obtain ⟨hx, hb, hml, hown, hts, hr, hlocks, hK, hG, hfl, hXs, hbl⟩ := id hX
  have hbA : ¬ jAL s b := Nat.not_le.mpr hbl
  refine j_aload_n (r := x1) hx hb dL_law_793 rfl (lv_at hl 1 rfl) ?_
  refine j_aload_n (r := (some b)) hx hb dL_law_794 rfl (lv_at hl 0 rfl) ?_
  refine lv_iload hx hb dL_law_795 (lv_at hl 4 rfl) ?_
  refine lv_iconst (v := (1)) hx hb dL_law_797 (by decide) ?_
  refine lv_iadd hx hb dL_law_798 ?_
  obtain ⟨h1, hw⟩ := hw
  refine va_sld hx hb hXs hbl hbA hI.2.2.1 h1 dL_law_799 ?_
  refine j_aload_n (r := (some b)) hx hb dL_law_800 rfl (lv_at hl 0 rfl) ?_
  refine lv_iload hx hb dL_law_801 (lv_at hl 4 rfl) ?_
  refine lv_iconst (v := (2)) hx hb dL_law_803 (by decide) ?_
  refine lv_iadd hx hb dL_law_804 ?_
  obtain ⟨h2, hw⟩ := hw
  refine va_sld hx hb hXs hbl hbA hI.2.2.1 h2 dL_law_805 ?_
  refine j_aload_n (r := x3) hx hb dL_law_806 rfl (lv_at hl 3 rfl) ?_
  refine j_goXz hI (vx_runSX (As := [va_rf x1, .int (xs (Int32.toNatClampNeg (x4 + (1 : Int32)))), .int (xs (Int32.toNatClampNeg (x4 + (2 : Int32)))), va_rf x3]) (rest := []) ⟨hx, hb, hml, hown, hts⟩ (kL_book l hfl D z x1 (xs (Int32.toNatClampNeg (x4 + (1 : Int32)))) (xs (Int32.toNatClampNeg (x4 + (2 : Int32)))) x3 μ H.size _) (vx_cwSW 4 hts gL_law_L_book rfl rfl rfl (by decide +kernel) ⟨Nat.le_of_ble_eq_true rfl, Nat.le_of_ble_eq_true rfl⟩) (j_prS2z hK hG hI hw) rfl rfl hl.1 rfl (lv_room (Nat.le_of_ble_eq_true rfl)) dL_law_807 ⟨by show _ ≤ 601024; omega, by show _ ≤ 7293033; omega⟩) (fun E ce q9 μX H locs hw hI hce hcv hcl => (show False from hw).elim) (fun v3 μ4 H locs hw hI => ?_)
  refine W.eq (g2 := F0 m 810 ls [.int v3]) rfl ?_
  refine lv_istore (lv' := [(5, .int v3), (0, va_rf (some b)), (1, va_rf x1), (2, va_rf x2), (3, va_rf x3), (4, .int x4)]) hx hb dL_law_810 hl (by decide) rfl (fun ls hl => ?_)
  refine j_aload_n (r := x2) hx hb dL_law_812 rfl (lv_at hl 3 rfl) ?_
  refine j_aload_n (r := (some b)) hx hb dL_law_813 rfl (lv_at hl 1 rfl) ?_
  refine lv_iload hx hb dL_law_814 (lv_at hl 5 rfl) ?_
  refine lv_iconst (v := (1)) hx hb dL_law_816 (by decide) ?_
  refine lv_iadd hx hb dL_law_817 ?_
  obtain ⟨h5, hw⟩ := hw
  refine va_sld hx hb hXs hbl hbA hI.2.2.1 h5 dL_law_818 ?_
  refine j_aload_n (r := (some b)) hx hb dL_law_819 rfl (lv_at hl 1 rfl) ?_
  refine lv_iload hx hb dL_law_820 (lv_at hl 5 rfl) ?_
  refine lv_iconst (v := (2)) hx hb dL_law_822 (by decide) ?_
  refine lv_iadd hx hb dL_law_823 ?_
  obtain ⟨h6, hw⟩ := hw
  refine va_sld hx hb hXs hbl hbA hI.2.2.1 h6 dL_law_824 ?_
  obtain ⟨b9, ⟨hrb9, hfs⟩, hw⟩ := hw
  refine j_goz hI (va_runV (As := [.int (xs (Int32.toNatClampNeg (x4 + (1 : Int32)))), .int (xs (Int32.toNatClampNeg (x4 + (2 : Int32))))]) (rest := []) ⟨hx, hb, hml, hown, hts⟩ (kX10_book l hfl D z b9 (xs (Int32.toNatClampNeg (x4 + (1 : Int32)))) (xs (Int32.toNatClampNeg (x4 + (2 : Int32)))) μ4 H.size _) (cwV 2 hts gL_law_X10_book rfl rfl rfl (by decide +kernel) ⟨Nat.le_of_ble_eq_true rfl, Nat.le_of_ble_eq_true rfl⟩) (j_prV2z hK hG hI hw (ci := 12) rfl hfs) rfl rfl hl.1 (by rw [hrb9]; rfl) (lv_room (Nat.le_of_ble_eq_true rfl)) dL_law_825 ⟨by show _ ≤ 601024; omega, by show _ ≤ 7293033; omega⟩) (fun v7 μ8 H locs hw hI => ?_)
  refine W.eq (g2 := F0 m 828 ls [.long v7]) rfl ?_
  refine lv_lstore (lv' := [(6, .long v7), (5, .int v3), (0, va_rf (some b)), (1, va_rf x1), (2, va_rf x2), (3, va_rf x3), (4, .int x4)]) hx hb dL_law_828 hl (by decide) rfl (fun ls hl => ?_)
  refine j_aload_n (r := x2) hx hb dL_law_830 rfl (lv_at hl 4 rfl) ?_
  obtain ⟨b12, ⟨hrb12, hfs⟩, hw⟩ := hw
  refine j_goz hI (va_runV (As := []) (rest := []) ⟨hx, hb, hml, hown, hts⟩ (kX10_thrown l hfl D z b12  μ8 H.size _) (cwV 0 hts gL_law_X10_thrown rfl rfl rfl (by decide +kernel) ⟨Nat.le_of_ble_eq_true rfl, Nat.le_of_ble_eq_true rfl⟩) (j_prV2z hK hG hI hw (ci := 12) rfl hfs) rfl rfl hl.1 (by rw [hrb12]; rfl) (lv_room (Nat.le_of_ble_eq_true rfl)) dL_law_831 ⟨by show _ ≤ 601024; omega, by show _ ≤ 7293033; omega⟩) (fun v10 μ11 H locs hw hI => ?_)
  refine W.eq (g2 := F0 m 834 ls [.int v10]) rfl ?_
  refine lv_iload hx hb dL_law_834 (lv_at hl 1 rfl) ?_
  refine lv_icmp_eq (tgt := 841) hx hb dL_law_836 (by decide) (fun hc => ?_) (fun hc => ?_)
  · have hw := hw.1 hc
    refine lv_iload hx hb dL_law_841 (lv_at hl 1 rfl) ?_
    refine lv_if_ne (tgt := 857) hx hb dL_law_843 (by decide) (fun hc => ?_) (fun hc => ?_)
    · have hw := hw.1 hc
      refine lv_goto (tgt := 1855) hx hb dL_law_857 (by decide) ?_
      exact kL_law_1855 hX hK23 hw hI (lv_sub hl [2, 3, 4, 5, 6] rfl) (by omega) (by omega)
    · have hw := hw.2 hc
      refine j_aload_n (r := x3) hx hb dL_law_846 rfl (lv_at hl 5 rfl) ?_
      refine lv_iconst (v := (0)) hx hb dL_law_847 (by decide) ?_
      obtain ⟨v13, hv13, hw⟩ := hw
      refine j_laldz (r := x3) hx hb hK hI hv13 dL_law_848 ?_
      refine lv_lload hx hb dL_law_849 (lv_at hl 0 rfl) ?_
      refine j_lcmp_eq (tgt := 857) hx hb dL_law_851 dL_law_852 (by decide) (fun hc => ?_) (fun hc => ?_)
      · have hw := hw.1 hc
        refine lv_goto (tgt := 1855) hx hb dL_law_857 (by decide) ?_
        exact kL_law_1855 hX hK23 hw hI (lv_sub hl [2, 3, 4, 5, 6] rfl) (by omega) (by omega)
      · have hw := hw.2 hc
        refine lv_iconst (v := (0)) hx hb dL_law_855 (by decide) ?_
        exact (show False from hw).elim
  · have hw := hw.2 hc
    refine lv_iconst (v := (0)) hx hb dL_law_839 (by decide) ?_
    exact (show False from hw).elim
set_option maxHeartbeats 4000000 in
set_option maxRecDepth 100000 in
theorem kL_law_860 {b : Nat} {L : Nat} {xs : Nat → Int32} (hX : jXL D z p l s m b L xs meth c) {capC capS : Nat} {K23 : Option Nat → Option Nat → Option Nat → Int32 → jM → Prop} (hK23 : ∀ {x1 : Option Nat} {x2 : Option Nat} {x3 : Option Nat} {x4 : Int32} {μ : jM} {H : Heap} {locs : List Loc} {ls : Array Slot} {cells slots : Nat}, K23 x1 x2 x3 x4 μ → jIz D z (jAL s) s.heap μ H locs → lv_has ls 8 [(0, va_rf (some b)), (1, va_rf x1), (2, va_rf x2), (3, va_rf x3), (4, .int x4)] → cells + capC ≤ 601024 → slots + capS ≤ 7293033 → W p l e room_1 s m #[Value.ref b] below meth c H locs cells slots (lw_Z below #[Value.ref b] s) (F0 m 23 ls [])) {x1 : Option Nat} {x2 : Option Nat} {x3 : Option Nat} {x4 : Int32} {μ : jM} {H : Heap} {locs : List Loc} {ls : Array Slot} {cells slots : Nat} (hw : wL_law_860 z b K23 L xs x1 x2 x3 x4 μ) (hI : jIz D z (jAL s) s.heap μ H locs) (hl : lv_has ls 8 [(0, va_rf (some b)), (1, va_rf x1), (2, va_rf x2), (3, va_rf x3), (4, .int x4)]) (hcn : cells + 8 + capC ≤ 601024) (hsn : slots + 75 + capS ≤ 7293033) : W p l e room_1 s m #[Value.ref b] below meth c H locs cells slots (lw_Z below #[Value.ref b] s) (F0 m 860 ls []) := by
  unfold wL_law_860 at hw
  obtain ⟨hx, hb, hml, hown, hts, hr, hlocks, hK, hG, hfl, hXs, hbl⟩ := id hX
  have hbA : ¬ jAL s b := Nat.not_le.mpr hbl
  refine j_aload_n (r := x1) hx hb dL_law_860 rfl (lv_at hl 1 rfl) ?_
  refine j_aload_n (r := (some b)) hx hb dL_law_861 rfl (lv_at hl 0 rfl) ?_
  refine lv_iload hx hb dL_law_862 (lv_at hl 4 rfl) ?_
  refine lv_iconst (v := (1)) hx hb dL_law_864 (by decide) ?_
  refine lv_iadd hx hb dL_law_865 ?_
  obtain ⟨h1, hw⟩ := hw
  refine va_sld hx hb hXs hbl hbA hI.2.2.1 h1 dL_law_866 ?_
  refine j_aload_n (r := (some b)) hx hb dL_law_867 rfl (lv_at hl 0 rfl) ?_
  refine lv_iload hx hb dL_law_868 (lv_at hl 4 rfl) ?_
  refine lv_iconst (v := (2)) hx hb dL_law_870 (by decide) ?_
  refine lv_iadd hx hb dL_law_871 ?_
  obtain ⟨h2, hw⟩ := hw
  refine va_sld hx hb hXs hbl hbA hI.2.2.1 h2 dL_law_872 ?_
  refine j_aload_n (r := (some b)) hx hb dL_law_873 rfl (lv_at hl 0 rfl) ?_
  refine lv_iload hx hb dL_law_874 (lv_at hl 4 rfl) ?_
  refine lv_iconst (v := (3)) hx hb dL_law_876 (by decide) ?_
  refine lv_iadd hx hb dL_law_877 ?_
  obtain ⟨h3, hw⟩ := hw
  refine va_sld hx hb hXs hbl hbA hI.2.2.1 h3 dL_law_878 ?_
  refine j_aload_n (r := (some b)) hx hb dL_law_879 rfl (lv_at hl 0 rfl) ?_
  refine lv_iload hx hb dL_law_880 (lv_at hl 4 rfl) ?_
  refine lv_iconst (v := (4)) hx hb dL_law_882 (by decide) ?_
  refine lv_iadd hx hb dL_law_883 ?_
  obtain ⟨h4, hw⟩ := hw
  refine va_sld hx hb hXs hbl hbA hI.2.2.1 h4 dL_law_884 ?_
  refine j_aload_n (r := (some b)) hx hb dL_law_885 rfl (lv_at hl 0 rfl) ?_
  refine lv_iload hx hb dL_law_886 (lv_at hl 4 rfl) ?_
  refine lv_iconst (v := (5)) hx hb dL_law_888 (by decide) ?_
  refine lv_iadd hx hb dL_law_889 ?_
  obtain ⟨h5, hw⟩ := hw
  refine va_sld hx hb hXs hbl hbA hI.2.2.1 h5 dL_law_890 ?_
  refine j_aload_n (r := x3) hx hb dL_law_891 rfl (lv_at hl 3 rfl) ?_
  refine j_goXz hI (vx_runSX (As := [va_rf x1, .int (xs (Int32.toNatClampNeg (x4 + (1 : Int32)))), .int (xs (Int32.toNatClampNeg (x4 + (2 : Int32)))), .int (xs (Int32.toNatClampNeg (x4 + (3 : Int32)))), .int (xs (Int32.toNatClampNeg (x4 + (4 : Int32)))), .int (xs (Int32.toNatClampNeg (x4 + (5 : Int32)))), va_rf x3]) (rest := []) ⟨hx, hb, hml, hown, hts⟩ (kL_schedule l hfl D z x1 (xs (Int32.toNatClampNeg (x4 + (1 : Int32)))) (xs (Int32.toNatClampNeg (x4 + (2 : Int32)))) (xs (Int32.toNatClampNeg (x4 + (3 : Int32)))) (xs (Int32.toNatClampNeg (x4 + (4 : Int32)))) (xs (Int32.toNatClampNeg (x4 + (5 : Int32)))) x3 μ H.size _) (vx_cwSW 7 hts gL_law_L_schedule rfl rfl rfl (by decide +kernel) ⟨Nat.le_of_ble_eq_true rfl, Nat.le_of_ble_eq_true rfl⟩) (j_prS2z hK hG hI hw) rfl rfl hl.1 rfl (lv_room (Nat.le_of_ble_eq_true rfl)) dL_law_892 ⟨by show _ ≤ 601024; omega, by show _ ≤ 7293033; omega⟩) (fun E ce q9 μX H locs hw hI hce hcv hcl => (show False from hw).elim) (fun v6 μ7 H locs hw hI => ?_)
  refine W.eq (g2 := F0 m 895 ls [.int v6]) rfl ?_
  refine lv_istore (lv' := [(5, .int v6), (0, va_rf (some b)), (1, va_rf x1), (2, va_rf x2), (3, va_rf x3), (4, .int x4)]) hx hb dL_law_895 hl (by decide) rfl (fun ls hl => ?_)
  refine j_aload_n (r := x2) hx hb dL_law_897 rfl (lv_at hl 3 rfl) ?_
  refine j_aload_n (r := (some b)) hx hb dL_law_898 rfl (lv_at hl 1 rfl) ?_
  refine lv_iload hx hb dL_law_899 (lv_at hl 5 rfl) ?_
  refine lv_iconst (v := (1)) hx hb dL_law_901 (by decide) ?_
  refine lv_iadd hx hb dL_law_902 ?_
  obtain ⟨h8, hw⟩ := hw
  refine va_sld hx hb hXs hbl hbA hI.2.2.1 h8 dL_law_903 ?_
  refine j_aload_n (r := (some b)) hx hb dL_law_904 rfl (lv_at hl 1 rfl) ?_
  refine lv_iload hx hb dL_law_905 (lv_at hl 5 rfl) ?_
  refine lv_iconst (v := (2)) hx hb dL_law_907 (by decide) ?_
  refine lv_iadd hx hb dL_law_908 ?_
  obtain ⟨h9, hw⟩ := hw
  refine va_sld hx hb hXs hbl hbA hI.2.2.1 h9 dL_law_909 ?_
  refine j_aload_n (r := (some b)) hx hb dL_law_910 rfl (lv_at hl 1 rfl) ?_
  refine lv_iload hx hb dL_law_911 (lv_at hl 5 rfl) ?_
  refine lv_iconst (v := (3)) hx hb dL_law_913 (by decide) ?_
  refine lv_iadd hx hb dL_law_914 ?_
  obtain ⟨h10, hw⟩ := hw
  refine va_sld hx hb hXs hbl hbA hI.2.2.1 h10 dL_law_915 ?_
  refine j_aload_n (r := (some b)) hx hb dL_law_916 rfl (lv_at hl 1 rfl) ?_
  refine lv_iload hx hb dL_law_917 (lv_at hl 5 rfl) ?_
  refine lv_iconst (v := (4)) hx hb dL_law_919 (by decide) ?_
  refine lv_iadd hx hb dL_law_920 ?_
  obtain ⟨h11, hw⟩ := hw
  refine va_sld hx hb hXs hbl hbA hI.2.2.1 h11 dL_law_921 ?_
  refine j_aload_n (r := (some b)) hx hb dL_law_922 rfl (lv_at hl 1 rfl) ?_
  refine lv_iload hx hb dL_law_923 (lv_at hl 5 rfl) ?_
  refine lv_iconst (v := (5)) hx hb dL_law_925 (by decide) ?_
  refine lv_iadd hx hb dL_law_926 ?_
  obtain ⟨h12, hw⟩ := hw
  refine va_sld hx hb hXs hbl hbA hI.2.2.1 h12 dL_law_927 ?_
  obtain ⟨b15, ⟨hrb15, hfs⟩, hw⟩ := hw
  refine j_goz hI (va_runV (As := [.int (xs (Int32.toNatClampNeg (x4 + (1 : Int32)))), .int (xs (Int32.toNatClampNeg (x4 + (2 : Int32)))), .int (xs (Int32.toNatClampNeg (x4 + (3 : Int32)))), .int (xs (Int32.toNatClampNeg (x4 + (4 : Int32)))), .int (xs (Int32.toNatClampNeg (x4 + (5 : Int32))))]) (rest := []) ⟨hx, hb, hml, hown, hts⟩ (kX10_schedule l hfl D z b15 (xs (Int32.toNatClampNeg (x4 + (1 : Int32)))) (xs (Int32.toNatClampNeg (x4 + (2 : Int32)))) (xs (Int32.toNatClampNeg (x4 + (3 : Int32)))) (xs (Int32.toNatClampNeg (x4 + (4 : Int32)))) (xs (Int32.toNatClampNeg (x4 + (5 : Int32)))) μ7 H.size _) (cwV 5 hts gL_law_X10_schedule rfl rfl rfl (by decide +kernel) ⟨Nat.le_of_ble_eq_true rfl, Nat.le_of_ble_eq_true rfl⟩) (j_prV2z hK hG hI hw (ci := 12) rfl hfs) rfl rfl hl.1 (by rw [hrb15]; rfl) (lv_room (Nat.le_of_ble_eq_true rfl)) dL_law_928 ⟨by show _ ≤ 601024; omega, by show _ ≤ 7293033; omega⟩) (fun v13 μ14 H locs hw hI => ?_)
  refine W.eq (g2 := F0 m 931 ls [.int v13]) rfl ?_
  refine lv_istore (lv' := [(6, .int v13), (5, .int v6), (0, va_rf (some b)), (1, va_rf x1), (2, va_rf x2), (3, va_rf x3), (4, .int x4)]) hx hb dL_law_931 hl (by decide) rfl (fun ls hl => ?_)
  refine j_aload_n (r := x2) hx hb dL_law_933 rfl (lv_at hl 4 rfl) ?_
  obtain ⟨b18, ⟨hrb18, hfs⟩, hw⟩ := hw
  refine j_goz hI (va_runV (As := []) (rest := []) ⟨hx, hb, hml, hown, hts⟩ (kX10_thrown l hfl D z b18  μ14 H.size _) (cwV 0 hts gL_law_X10_thrown rfl rfl rfl (by decide +kernel) ⟨Nat.le_of_ble_eq_true rfl, Nat.le_of_ble_eq_true rfl⟩) (j_prV2z hK hG hI hw (ci := 12) rfl hfs) rfl rfl hl.1 (by rw [hrb18]; rfl) (lv_room (Nat.le_of_ble_eq_true rfl)) dL_law_934 ⟨by show _ ≤ 601024; omega, by show _ ≤ 7293033; omega⟩) (fun v16 μ17 H locs hw hI => ?_)
  refine W.eq (g2 := F0 m 937 ls [.int v16]) rfl ?_
  refine lv_iload hx hb dL_law_937 (lv_at hl 1 rfl) ?_
  refine lv_icmp_eq (tgt := 944) hx hb dL_law_939 (by decide) (fun hc => ?_) (fun hc => ?_)
  · have hw := hw.1 hc
    refine lv_iload hx hb dL_law_944 (lv_at hl 1 rfl) ?_
    refine lv_if_ne (tgt := 961) hx hb dL_law_946 (by decide) (fun hc => ?_) (fun hc => ?_)
    · have hw := hw.1 hc
      refine lv_goto (tgt := 1855) hx hb dL_law_961 (by decide) ?_
      exact kL_law_1855 hX hK23 hw hI (lv_sub hl [2, 3, 4, 5, 6] rfl) (by omega) (by omega)
    · have hw := hw.2 hc
      refine j_aload_n (r := x3) hx hb dL_law_949 rfl (lv_at hl 5 rfl) ?_
      refine lv_iconst (v := (0)) hx hb dL_law_950 (by decide) ?_
      obtain ⟨v19, hv19, hw⟩ := hw
      refine j_laldz (r := x3) hx hb hK hI hv19 dL_law_951 ?_
      refine lv_iload hx hb dL_law_952 (lv_at hl 0 rfl) ?_
      refine lv_i2l hx hb dL_law_954 rfl ?_
      refine j_lcmp_eq (tgt := 961) hx hb dL_law_955 dL_law_956 (by decide) (fun hc => ?_) (fun hc => ?_)
      · have hw := hw.1 hc
        refine lv_goto (tgt := 1855) hx hb dL_law_961 (by decide) ?_
        exact kL_law_1855 hX hK23 hw hI (lv_sub hl [2, 3, 4, 5, 6] rfl) (by omega) (by omega)
      · have hw := hw.2 hc
        refine lv_iconst (v := (0)) hx hb dL_law_959 (by decide) ?_
        exact (show False from hw).elim
  · have hw := hw.2 hc
    refine lv_iconst (v := (0)) hx hb dL_law_942 (by decide) ?_
    exact (show False from hw).elim
set_option maxHeartbeats 4000000 in
set_option maxRecDepth 100000 in
theorem kL_law_964 {b : Nat} {L : Nat} {xs : Nat → Int32} (hX : jXL D z p l s m b L xs meth c) {capC capS : Nat} {K23 : Option Nat → Option Nat → Option Nat → Int32 → jM → Prop} (hK23 : ∀ {x1 : Option Nat} {x2 : Option Nat} {x3 : Option Nat} {x4 : Int32} {μ : jM} {H : Heap} {locs : List Loc} {ls : Array Slot} {cells slots : Nat}, K23 x1 x2 x3 x4 μ → jIz D z (jAL s) s.heap μ H locs → lv_has ls 8 [(0, va_rf (some b)), (1, va_rf x1), (2, va_rf x2), (3, va_rf x3), (4, .int x4)] → cells + capC ≤ 601024 → slots + capS ≤ 7293033 → W p l e room_1 s m #[Value.ref b] below meth c H locs cells slots (lw_Z below #[Value.ref b] s) (F0 m 23 ls [])) {x1 : Option Nat} {x2 : Option Nat} {x3 : Option Nat} {x4 : Int32} {μ : jM} {H : Heap} {locs : List Loc} {ls : Array Slot} {cells slots : Nat} (hw : wL_law_964 z b K23 L xs x1 x2 x3 x4 μ) (hI : jIz D z (jAL s) s.heap μ H locs) (hl : lv_has ls 8 [(0, va_rf (some b)), (1, va_rf x1), (2, va_rf x2), (3, va_rf x3), (4, .int x4)]) (hcn : cells + 1 + capC ≤ 601024) (hsn : slots + 6 + capS ≤ 7293033) : W p l e room_1 s m #[Value.ref b] below meth c H locs cells slots (lw_Z below #[Value.ref b] s) (F0 m 964 ls []) := by
  unfold wL_law_964 at hw
  obtain ⟨hx, hb, hml, hown, hts, hr, hlocks, hK, hG, hfl, hXs, hbl⟩ := id hX
  have hbA : ¬ jAL s b := Nat.not_le.mpr hbl
  refine j_aload_n (r := x1) hx hb dL_law_964 rfl (lv_at hl 1 rfl) ?_
  refine j_aload_n (r := (some b)) hx hb dL_law_965 rfl (lv_at hl 0 rfl) ?_
  refine lv_iload hx hb dL_law_966 (lv_at hl 4 rfl) ?_
  refine lv_iconst (v := (1)) hx hb dL_law_968 (by decide) ?_
  refine lv_iadd hx hb dL_law_969 ?_
  obtain ⟨h1, hw⟩ := hw
  refine va_sld hx hb hXs hbl hbA hI.2.2.1 h1 dL_law_970 ?_
  refine j_aload_n (r := x3) hx hb dL_law_971 rfl (lv_at hl 3 rfl) ?_
  refine j_goXz hI (vx_runSX (As := [va_rf x1, .int (xs (Int32.toNatClampNeg (x4 + (1 : Int32)))), va_rf x3]) (rest := []) ⟨hx, hb, hml, hown, hts⟩ (kL_cancel l hfl D z x1 (xs (Int32.toNatClampNeg (x4 + (1 : Int32)))) x3 μ H.size _) (vx_cwSW 3 hts gL_law_L_cancel rfl rfl rfl (by decide +kernel) ⟨Nat.le_of_ble_eq_true rfl, Nat.le_of_ble_eq_true rfl⟩) (j_prS2z hK hG hI hw) rfl rfl hl.1 rfl (lv_room (Nat.le_of_ble_eq_true rfl)) dL_law_972 ⟨by show _ ≤ 601024; omega, by show _ ≤ 7293033; omega⟩) (fun E ce q9 μX H locs hw hI hce hcv hcl => (show False from hw).elim) (fun v2 μ3 H locs hw hI => ?_)
  refine W.eq (g2 := F0 m 975 ls [.int v2]) rfl ?_
  refine lv_istore (lv' := [(5, .int v2), (0, va_rf (some b)), (1, va_rf x1), (2, va_rf x2), (3, va_rf x3), (4, .int x4)]) hx hb dL_law_975 hl (by decide) rfl (fun ls hl => ?_)
  refine j_aload_n (r := x2) hx hb dL_law_977 rfl (lv_at hl 3 rfl) ?_
  refine j_aload_n (r := (some b)) hx hb dL_law_978 rfl (lv_at hl 1 rfl) ?_
  refine lv_iload hx hb dL_law_979 (lv_at hl 5 rfl) ?_
  refine lv_iconst (v := (1)) hx hb dL_law_981 (by decide) ?_
  refine lv_iadd hx hb dL_law_982 ?_
  obtain ⟨h4, hw⟩ := hw
  refine va_sld hx hb hXs hbl hbA hI.2.2.1 h4 dL_law_983 ?_
  obtain ⟨b7, ⟨hrb7, hfs⟩, hw⟩ := hw
  refine j_goz hI (va_runV (As := [.int (xs (Int32.toNatClampNeg (x4 + (1 : Int32))))]) (rest := []) ⟨hx, hb, hml, hown, hts⟩ (kX10_cancel l hfl D z b7 (xs (Int32.toNatClampNeg (x4 + (1 : Int32)))) μ3 H.size _) (cwV 1 hts gL_law_X10_cancel rfl rfl rfl (by decide +kernel) ⟨Nat.le_of_ble_eq_true rfl, Nat.le_of_ble_eq_true rfl⟩) (j_prV2z hK hG hI hw (ci := 12) rfl hfs) rfl rfl hl.1 (by rw [hrb7]; rfl) (lv_room (Nat.le_of_ble_eq_true rfl)) dL_law_984 ⟨by show _ ≤ 601024; omega, by show _ ≤ 7293033; omega⟩) (fun v5 μ6 H locs hw hI => ?_)
  refine W.eq (g2 := F0 m 987 ls [.int v5]) rfl ?_
  refine lv_istore (lv' := [(6, .int v5), (5, .int v2), (0, va_rf (some b)), (1, va_rf x1), (2, va_rf x2), (3, va_rf x3), (4, .int x4)]) hx hb dL_law_987 hl (by decide) rfl (fun ls hl => ?_)
  refine j_aload_n (r := x2) hx hb dL_law_989 rfl (lv_at hl 4 rfl) ?_
  obtain ⟨b10, ⟨hrb10, hfs⟩, hw⟩ := hw
  refine j_goz hI (va_runV (As := []) (rest := []) ⟨hx, hb, hml, hown, hts⟩ (kX10_thrown l hfl D z b10  μ6 H.size _) (cwV 0 hts gL_law_X10_thrown rfl rfl rfl (by decide +kernel) ⟨Nat.le_of_ble_eq_true rfl, Nat.le_of_ble_eq_true rfl⟩) (j_prV2z hK hG hI hw (ci := 12) rfl hfs) rfl rfl hl.1 (by rw [hrb10]; rfl) (lv_room (Nat.le_of_ble_eq_true rfl)) dL_law_990 ⟨by show _ ≤ 601024; omega, by show _ ≤ 7293033; omega⟩) (fun v8 μ9 H locs hw hI => ?_)
  refine W.eq (g2 := F0 m 993 ls [.int v8]) rfl ?_
  refine lv_iload hx hb dL_law_993 (lv_at hl 1 rfl) ?_
  refine lv_icmp_eq (tgt := 1000) hx hb dL_law_995 (by decide) (fun hc => ?_) (fun hc => ?_)
  · have hw := hw.1 hc
    refine lv_iload hx hb dL_law_1000 (lv_at hl 1 rfl) ?_
    refine lv_if_ne (tgt := 1017) hx hb dL_law_1002 (by decide) (fun hc => ?_) (fun hc => ?_)
    · have hw := hw.1 hc
      refine lv_goto (tgt := 1855) hx hb dL_law_1017 (by decide) ?_
      exact kL_law_1855 hX hK23 hw hI (lv_sub hl [2, 3, 4, 5, 6] rfl) (by omega) (by omega)
    · have hw := hw.2 hc
      refine j_aload_n (r := x3) hx hb dL_law_1005 rfl (lv_at hl 5 rfl) ?_
      refine lv_iconst (v := (0)) hx hb dL_law_1006 (by decide) ?_
      obtain ⟨v11, hv11, hw⟩ := hw
      refine j_laldz (r := x3) hx hb hK hI hv11 dL_law_1007 ?_
      refine lv_iload hx hb dL_law_1008 (lv_at hl 0 rfl) ?_
      refine lv_i2l hx hb dL_law_1010 rfl ?_
      refine j_lcmp_eq (tgt := 1017) hx hb dL_law_1011 dL_law_1012 (by decide) (fun hc => ?_) (fun hc => ?_)
      · have hw := hw.1 hc
        refine lv_goto (tgt := 1855) hx hb dL_law_1017 (by decide) ?_
        exact kL_law_1855 hX hK23 hw hI (lv_sub hl [2, 3, 4, 5, 6] rfl) (by omega) (by omega)
      · have hw := hw.2 hc
        refine lv_iconst (v := (0)) hx hb dL_law_1015 (by decide) ?_
        exact (show False from hw).elim
  · have hw := hw.2 hc
    refine lv_iconst (v := (0)) hx hb dL_law_998 (by decide) ?_
    exact (show False from hw).elim
set_option maxHeartbeats 4000000 in
set_option maxRecDepth 100000 in
theorem kL_law_1020 {b : Nat} {L : Nat} {xs : Nat → Int32} (hX : jXL D z p l s m b L xs meth c) {capC capS : Nat} {K23 : Option Nat → Option Nat → Option Nat → Int32 → jM → Prop} (hK23 : ∀ {x1 : Option Nat} {x2 : Option Nat} {x3 : Option Nat} {x4 : Int32} {μ : jM} {H : Heap} {locs : List Loc} {ls : Array Slot} {cells slots : Nat}, K23 x1 x2 x3 x4 μ → jIz D z (jAL s) s.heap μ H locs → lv_has ls 8 [(0, va_rf (some b)), (1, va_rf x1), (2, va_rf x2), (3, va_rf x3), (4, .int x4)] → cells + capC ≤ 601024 → slots + capS ≤ 7293033 → W p l e room_1 s m #[Value.ref b] below meth c H locs cells slots (lw_Z below #[Value.ref b] s) (F0 m 23 ls [])) {x1 : Option Nat} {x2 : Option Nat} {x3 : Option Nat} {x4 : Int32} {μ : jM} {H : Heap} {locs : List Loc} {ls : Array Slot} {cells slots : Nat} (hw : wL_law_1020 z b K23 L xs x1 x2 x3 x4 μ) (hI : jIz D z (jAL s) s.heap μ H locs) (hl : lv_has ls 8 [(0, va_rf (some b)), (1, va_rf x1), (2, va_rf x2), (3, va_rf x3), (4, .int x4)]) (hcn : cells + 1 + capC ≤ 601024) (hsn : slots + 6 + capS ≤ 7293033) : W p l e room_1 s m #[Value.ref b] below meth c H locs cells slots (lw_Z below #[Value.ref b] s) (F0 m 1020 ls []) := by
  unfold wL_law_1020 at hw
  obtain ⟨hx, hb, hml, hown, hts, hr, hlocks, hK, hG, hfl, hXs, hbl⟩ := id hX
  have hbA : ¬ jAL s b := Nat.not_le.mpr hbl
  refine j_aload_n (r := x1) hx hb dL_law_1020 rfl (lv_at hl 1 rfl) ?_
  refine j_aload_n (r := (some b)) hx hb dL_law_1021 rfl (lv_at hl 0 rfl) ?_
  refine lv_iload hx hb dL_law_1022 (lv_at hl 4 rfl) ?_
  refine lv_iconst (v := (1)) hx hb dL_law_1024 (by decide) ?_
  refine lv_iadd hx hb dL_law_1025 ?_
  obtain ⟨h1, hw⟩ := hw
  refine va_sld hx hb hXs hbl hbA hI.2.2.1 h1 dL_law_1026 ?_
  refine j_aload_n (r := x3) hx hb dL_law_1027 rfl (lv_at hl 3 rfl) ?_
  refine j_goXz hI (vx_runSX (As := [va_rf x1, .int (xs (Int32.toNatClampNeg (x4 + (1 : Int32)))), va_rf x3]) (rest := []) ⟨hx, hb, hml, hown, hts⟩ (kL_timesLeft l hfl D z x1 (xs (Int32.toNatClampNeg (x4 + (1 : Int32)))) x3 μ H.size _) (vx_cwSW 3 hts gL_law_L_timesLeft rfl rfl rfl (by decide +kernel) ⟨Nat.le_of_ble_eq_true rfl, Nat.le_of_ble_eq_true rfl⟩) (j_prS2z hK hG hI hw) rfl rfl hl.1 rfl (lv_room (Nat.le_of_ble_eq_true rfl)) dL_law_1028 ⟨by show _ ≤ 601024; omega, by show _ ≤ 7293033; omega⟩) (fun E ce q9 μX H locs hw hI hce hcv hcl => (show False from hw).elim) (fun v2 μ3 H locs hw hI => ?_)
  refine W.eq (g2 := F0 m 1031 ls [.int v2]) rfl ?_
  refine lv_istore (lv' := [(5, .int v2), (0, va_rf (some b)), (1, va_rf x1), (2, va_rf x2), (3, va_rf x3), (4, .int x4)]) hx hb dL_law_1031 hl (by decide) rfl (fun ls hl => ?_)
  refine j_aload_n (r := x2) hx hb dL_law_1033 rfl (lv_at hl 3 rfl) ?_
  refine j_aload_n (r := (some b)) hx hb dL_law_1034 rfl (lv_at hl 1 rfl) ?_
  refine lv_iload hx hb dL_law_1035 (lv_at hl 5 rfl) ?_
  refine lv_iconst (v := (1)) hx hb dL_law_1037 (by decide) ?_
  refine lv_iadd hx hb dL_law_1038 ?_
  obtain ⟨h4, hw⟩ := hw
  refine va_sld hx hb hXs hbl hbA hI.2.2.1 h4 dL_law_1039 ?_
  obtain ⟨b7, ⟨hrb7, hfs⟩, hw⟩ := hw
  refine j_goz hI (va_runV (As := [.int (xs (Int32.toNatClampNeg (x4 + (1 : Int32))))]) (rest := []) ⟨hx, hb, hml, hown, hts⟩ (kX10_timesLeft l hfl D z b7 (xs (Int32.toNatClampNeg (x4 + (1 : Int32)))) μ3 H.size _) (cwV 1 hts gL_law_X10_timesLeft rfl rfl rfl (by decide +kernel) ⟨Nat.le_of_ble_eq_true rfl, Nat.le_of_ble_eq_true rfl⟩) (j_prV2z hK hG hI hw (ci := 12) rfl hfs) rfl rfl hl.1 (by rw [hrb7]; rfl) (lv_room (Nat.le_of_ble_eq_true rfl)) dL_law_1040 ⟨by show _ ≤ 601024; omega, by show _ ≤ 7293033; omega⟩) (fun v5 μ6 H locs hw hI => ?_)
  refine W.eq (g2 := F0 m 1043 ls [.int v5]) rfl ?_
  refine lv_istore (lv' := [(6, .int v5), (5, .int v2), (0, va_rf (some b)), (1, va_rf x1), (2, va_rf x2), (3, va_rf x3), (4, .int x4)]) hx hb dL_law_1043 hl (by decide) rfl (fun ls hl => ?_)
  refine j_aload_n (r := x2) hx hb dL_law_1045 rfl (lv_at hl 4 rfl) ?_
  obtain ⟨b10, ⟨hrb10, hfs⟩, hw⟩ := hw
  refine j_goz hI (va_runV (As := []) (rest := []) ⟨hx, hb, hml, hown, hts⟩ (kX10_thrown l hfl D z b10  μ6 H.size _) (cwV 0 hts gL_law_X10_thrown rfl rfl rfl (by decide +kernel) ⟨Nat.le_of_ble_eq_true rfl, Nat.le_of_ble_eq_true rfl⟩) (j_prV2z hK hG hI hw (ci := 12) rfl hfs) rfl rfl hl.1 (by rw [hrb10]; rfl) (lv_room (Nat.le_of_ble_eq_true rfl)) dL_law_1046 ⟨by show _ ≤ 601024; omega, by show _ ≤ 7293033; omega⟩) (fun v8 μ9 H locs hw hI => ?_)
  refine W.eq (g2 := F0 m 1049 ls [.int v8]) rfl ?_
  refine lv_iload hx hb dL_law_1049 (lv_at hl 1 rfl) ?_
  refine lv_icmp_eq (tgt := 1056) hx hb dL_law_1051 (by decide) (fun hc => ?_) (fun hc => ?_)
  · have hw := hw.1 hc
    refine lv_iload hx hb dL_law_1056 (lv_at hl 1 rfl) ?_
    refine lv_if_ne (tgt := 1073) hx hb dL_law_1058 (by decide) (fun hc => ?_) (fun hc => ?_)
    · have hw := hw.1 hc
      refine lv_goto (tgt := 1855) hx hb dL_law_1073 (by decide) ?_
      exact kL_law_1855 hX hK23 hw hI (lv_sub hl [2, 3, 4, 5, 6] rfl) (by omega) (by omega)
    · have hw := hw.2 hc
      refine j_aload_n (r := x3) hx hb dL_law_1061 rfl (lv_at hl 5 rfl) ?_
      refine lv_iconst (v := (0)) hx hb dL_law_1062 (by decide) ?_
      obtain ⟨v11, hv11, hw⟩ := hw
      refine j_laldz (r := x3) hx hb hK hI hv11 dL_law_1063 ?_
      refine lv_iload hx hb dL_law_1064 (lv_at hl 0 rfl) ?_
      refine lv_i2l hx hb dL_law_1066 rfl ?_
      refine j_lcmp_eq (tgt := 1073) hx hb dL_law_1067 dL_law_1068 (by decide) (fun hc => ?_) (fun hc => ?_)
      · have hw := hw.1 hc
        refine lv_goto (tgt := 1855) hx hb dL_law_1073 (by decide) ?_
        exact kL_law_1855 hX hK23 hw hI (lv_sub hl [2, 3, 4, 5, 6] rfl) (by omega) (by omega)
      · have hw := hw.2 hc
        refine lv_iconst (v := (0)) hx hb dL_law_1071 (by decide) ?_
        exact (show False from hw).elim
  · have hw := hw.2 hc
    refine lv_iconst (v := (0)) hx hb dL_law_1054 (by decide) ?_
    exact (show False from hw).elim
set_option maxHeartbeats 4000000 in
set_option maxRecDepth 100000 in
theorem kL_law_1076 {b : Nat} {L : Nat} {xs : Nat → Int32} (hX : jXL D z p l s m b L xs meth c) {capC capS : Nat} {K23 : Option Nat → Option Nat → Option Nat → Int32 → jM → Prop} (hK23 : ∀ {x1 : Option Nat} {x2 : Option Nat} {x3 : Option Nat} {x4 : Int32} {μ : jM} {H : Heap} {locs : List Loc} {ls : Array Slot} {cells slots : Nat}, K23 x1 x2 x3 x4 μ → jIz D z (jAL s) s.heap μ H locs → lv_has ls 8 [(0, va_rf (some b)), (1, va_rf x1), (2, va_rf x2), (3, va_rf x3), (4, .int x4)] → cells + capC ≤ 601024 → slots + capS ≤ 7293033 → W p l e room_1 s m #[Value.ref b] below meth c H locs cells slots (lw_Z below #[Value.ref b] s) (F0 m 23 ls [])) {x1 : Option Nat} {x2 : Option Nat} {x3 : Option Nat} {x4 : Int32} {μ : jM} {H : Heap} {locs : List Loc} {ls : Array Slot} {cells slots : Nat} (hw : wL_law_1076 z b K23 L xs x1 x2 x3 x4 μ) (hI : jIz D z (jAL s) s.heap μ H locs) (hl : lv_has ls 8 [(0, va_rf (some b)), (1, va_rf x1), (2, va_rf x2), (3, va_rf x3), (4, .int x4)]) (hcn : cells + 3 + capC ≤ 601024) (hsn : slots + 18 + capS ≤ 7293033) : W p l e room_1 s m #[Value.ref b] below meth c H locs cells slots (lw_Z below #[Value.ref b] s) (F0 m 1076 ls []) := by
  unfold wL_law_1076 at hw
  obtain ⟨hx, hb, hml, hown, hts, hr, hlocks, hK, hG, hfl, hXs, hbl⟩ := id hX
  have hbA : ¬ jAL s b := Nat.not_le.mpr hbl
  refine j_aload_n (r := x1) hx hb dL_law_1076 rfl (lv_at hl 1 rfl) ?_
  refine j_aload_n (r := (some b)) hx hb dL_law_1077 rfl (lv_at hl 0 rfl) ?_
  refine lv_iload hx hb dL_law_1078 (lv_at hl 4 rfl) ?_
  refine lv_iconst (v := (1)) hx hb dL_law_1080 (by decide) ?_
  refine lv_iadd hx hb dL_law_1081 ?_
  obtain ⟨h1, hw⟩ := hw
  refine va_sld hx hb hXs hbl hbA hI.2.2.1 h1 dL_law_1082 ?_
  refine j_aload_n (r := (some b)) hx hb dL_law_1083 rfl (lv_at hl 0 rfl) ?_
  refine lv_iload hx hb dL_law_1084 (lv_at hl 4 rfl) ?_
  refine lv_iconst (v := (2)) hx hb dL_law_1086 (by decide) ?_
  refine lv_iadd hx hb dL_law_1087 ?_
  obtain ⟨h2, hw⟩ := hw
  refine va_sld hx hb hXs hbl hbA hI.2.2.1 h2 dL_law_1088 ?_
  refine j_aload_n (r := (some b)) hx hb dL_law_1089 rfl (lv_at hl 0 rfl) ?_
  refine lv_iload hx hb dL_law_1090 (lv_at hl 4 rfl) ?_
  refine lv_iconst (v := (3)) hx hb dL_law_1092 (by decide) ?_
  refine lv_iadd hx hb dL_law_1093 ?_
  obtain ⟨h3, hw⟩ := hw
  refine va_sld hx hb hXs hbl hbA hI.2.2.1 h3 dL_law_1094 ?_
  refine j_aload_n (r := x3) hx hb dL_law_1095 rfl (lv_at hl 3 rfl) ?_
  refine j_goXz hI (vx_runSX (As := [va_rf x1, .int (xs (Int32.toNatClampNeg (x4 + (1 : Int32)))), .int (xs (Int32.toNatClampNeg (x4 + (2 : Int32)))), .int (xs (Int32.toNatClampNeg (x4 + (3 : Int32)))), va_rf x3]) (rest := []) ⟨hx, hb, hml, hown, hts⟩ (kL_scheduled l hfl D z x1 (xs (Int32.toNatClampNeg (x4 + (1 : Int32)))) (xs (Int32.toNatClampNeg (x4 + (2 : Int32)))) (xs (Int32.toNatClampNeg (x4 + (3 : Int32)))) x3 μ H.size _) (vx_cwSW 5 hts gL_law_L_scheduled rfl rfl rfl (by decide +kernel) ⟨Nat.le_of_ble_eq_true rfl, Nat.le_of_ble_eq_true rfl⟩) (j_prS2z hK hG hI hw) rfl rfl hl.1 rfl (lv_room (Nat.le_of_ble_eq_true rfl)) dL_law_1096 ⟨by show _ ≤ 601024; omega, by show _ ≤ 7293033; omega⟩) (fun E ce q9 μX H locs hw hI hce hcv hcl => (show False from hw).elim) (fun v4 μ5 H locs hw hI => ?_)
  refine W.eq (g2 := F0 m 1099 ls [.int v4]) rfl ?_
  refine lv_istore (lv' := [(5, .int v4), (0, va_rf (some b)), (1, va_rf x1), (2, va_rf x2), (3, va_rf x3), (4, .int x4)]) hx hb dL_law_1099 hl (by decide) rfl (fun ls hl => ?_)
  refine j_aload_n (r := x2) hx hb dL_law_1101 rfl (lv_at hl 3 rfl) ?_
  refine j_aload_n (r := (some b)) hx hb dL_law_1102 rfl (lv_at hl 1 rfl) ?_
  refine lv_iload hx hb dL_law_1103 (lv_at hl 5 rfl) ?_
  refine lv_iconst (v := (1)) hx hb dL_law_1105 (by decide) ?_
  refine lv_iadd hx hb dL_law_1106 ?_
  obtain ⟨h6, hw⟩ := hw
  refine va_sld hx hb hXs hbl hbA hI.2.2.1 h6 dL_law_1107 ?_
  refine j_aload_n (r := (some b)) hx hb dL_law_1108 rfl (lv_at hl 1 rfl) ?_
  refine lv_iload hx hb dL_law_1109 (lv_at hl 5 rfl) ?_
  refine lv_iconst (v := (2)) hx hb dL_law_1111 (by decide) ?_
  refine lv_iadd hx hb dL_law_1112 ?_
  obtain ⟨h7, hw⟩ := hw
  refine va_sld hx hb hXs hbl hbA hI.2.2.1 h7 dL_law_1113 ?_
  refine j_aload_n (r := (some b)) hx hb dL_law_1114 rfl (lv_at hl 1 rfl) ?_
  refine lv_iload hx hb dL_law_1115 (lv_at hl 5 rfl) ?_
  refine lv_iconst (v := (3)) hx hb dL_law_1117 (by decide) ?_
  refine lv_iadd hx hb dL_law_1118 ?_
  obtain ⟨h8, hw⟩ := hw
  refine va_sld hx hb hXs hbl hbA hI.2.2.1 h8 dL_law_1119 ?_
  obtain ⟨b11, ⟨hrb11, hfs⟩, hw⟩ := hw
  refine j_goz hI (va_runV (As := [.int (xs (Int32.toNatClampNeg (x4 + (1 : Int32)))), .int (xs (Int32.toNatClampNeg (x4 + (2 : Int32)))), .int (xs (Int32.toNatClampNeg (x4 + (3 : Int32))))]) (rest := []) ⟨hx, hb, hml, hown, hts⟩ (kX10_scheduled l hfl D z b11 (xs (Int32.toNatClampNeg (x4 + (1 : Int32)))) (xs (Int32.toNatClampNeg (x4 + (2 : Int32)))) (xs (Int32.toNatClampNeg (x4 + (3 : Int32)))) μ5 H.size _) (cwV 3 hts gL_law_X10_scheduled rfl rfl rfl (by decide +kernel) ⟨Nat.le_of_ble_eq_true rfl, Nat.le_of_ble_eq_true rfl⟩) (j_prV2z hK hG hI hw (ci := 12) rfl hfs) rfl rfl hl.1 (by rw [hrb11]; rfl) (lv_room (Nat.le_of_ble_eq_true rfl)) dL_law_1120 ⟨by show _ ≤ 601024; omega, by show _ ≤ 7293033; omega⟩) (fun v9 μ10 H locs hw hI => ?_)
  refine W.eq (g2 := F0 m 1123 ls [.long v9]) rfl ?_
  refine lv_lstore (lv' := [(6, .long v9), (5, .int v4), (0, va_rf (some b)), (1, va_rf x1), (2, va_rf x2), (3, va_rf x3), (4, .int x4)]) hx hb dL_law_1123 hl (by decide) rfl (fun ls hl => ?_)
  refine j_aload_n (r := x2) hx hb dL_law_1125 rfl (lv_at hl 4 rfl) ?_
  obtain ⟨b14, ⟨hrb14, hfs⟩, hw⟩ := hw
  refine j_goz hI (va_runV (As := []) (rest := []) ⟨hx, hb, hml, hown, hts⟩ (kX10_thrown l hfl D z b14  μ10 H.size _) (cwV 0 hts gL_law_X10_thrown rfl rfl rfl (by decide +kernel) ⟨Nat.le_of_ble_eq_true rfl, Nat.le_of_ble_eq_true rfl⟩) (j_prV2z hK hG hI hw (ci := 12) rfl hfs) rfl rfl hl.1 (by rw [hrb14]; rfl) (lv_room (Nat.le_of_ble_eq_true rfl)) dL_law_1126 ⟨by show _ ≤ 601024; omega, by show _ ≤ 7293033; omega⟩) (fun v12 μ13 H locs hw hI => ?_)
  refine W.eq (g2 := F0 m 1129 ls [.int v12]) rfl ?_
  refine lv_iload hx hb dL_law_1129 (lv_at hl 1 rfl) ?_
  refine lv_icmp_eq (tgt := 1136) hx hb dL_law_1131 (by decide) (fun hc => ?_) (fun hc => ?_)
  · have hw := hw.1 hc
    refine lv_iload hx hb dL_law_1136 (lv_at hl 1 rfl) ?_
    refine lv_if_ne (tgt := 1152) hx hb dL_law_1138 (by decide) (fun hc => ?_) (fun hc => ?_)
    · have hw := hw.1 hc
      refine lv_goto (tgt := 1855) hx hb dL_law_1152 (by decide) ?_
      exact kL_law_1855 hX hK23 hw hI (lv_sub hl [2, 3, 4, 5, 6] rfl) (by omega) (by omega)
    · have hw := hw.2 hc
      refine j_aload_n (r := x3) hx hb dL_law_1141 rfl (lv_at hl 5 rfl) ?_
      refine lv_iconst (v := (0)) hx hb dL_law_1142 (by decide) ?_
      obtain ⟨v15, hv15, hw⟩ := hw
      refine j_laldz (r := x3) hx hb hK hI hv15 dL_law_1143 ?_
      refine lv_lload hx hb dL_law_1144 (lv_at hl 0 rfl) ?_
      refine j_lcmp_eq (tgt := 1152) hx hb dL_law_1146 dL_law_1147 (by decide) (fun hc => ?_) (fun hc => ?_)
      · have hw := hw.1 hc
        refine lv_goto (tgt := 1855) hx hb dL_law_1152 (by decide) ?_
        exact kL_law_1855 hX hK23 hw hI (lv_sub hl [2, 3, 4, 5, 6] rfl) (by omega) (by omega)
      · have hw := hw.2 hc
        refine lv_iconst (v := (0)) hx hb dL_law_1150 (by decide) ?_
        exact (show False from hw).elim
  · have hw := hw.2 hc
    refine lv_iconst (v := (0)) hx hb dL_law_1134 (by decide) ?_
    exact (show False from hw).elim
set_option maxHeartbeats 4000000 in
set_option maxRecDepth 100000 in
theorem kL_law_1155 {b : Nat} {L : Nat} {xs : Nat → Int32} (hX : jXL D z p l s m b L xs meth c) {capC capS : Nat} {K23 : Option Nat → Option Nat → Option Nat → Int32 → jM → Prop} (hK23 : ∀ {x1 : Option Nat} {x2 : Option Nat} {x3 : Option Nat} {x4 : Int32} {μ : jM} {H : Heap} {locs : List Loc} {ls : Array Slot} {cells slots : Nat}, K23 x1 x2 x3 x4 μ → jIz D z (jAL s) s.heap μ H locs → lv_has ls 8 [(0, va_rf (some b)), (1, va_rf x1), (2, va_rf x2), (3, va_rf x3), (4, .int x4)] → cells + capC ≤ 601024 → slots + capS ≤ 7293033 → W p l e room_1 s m #[Value.ref b] below meth c H locs cells slots (lw_Z below #[Value.ref b] s) (F0 m 23 ls [])) {x1 : Option Nat} {x2 : Option Nat} {x3 : Option Nat} {x4 : Int32} {μ : jM} {H : Heap} {locs : List Loc} {ls : Array Slot} {cells slots : Nat} (hw : wL_law_1155 z b K23 L xs x1 x2 x3 x4 μ) (hI : jIz D z (jAL s) s.heap μ H locs) (hl : lv_has ls 8 [(0, va_rf (some b)), (1, va_rf x1), (2, va_rf x2), (3, va_rf x3), (4, .int x4)]) (hcn : cells + 0 + capC ≤ 601024) (hsn : slots + 0 + capS ≤ 7293033) : W p l e room_1 s m #[Value.ref b] below meth c H locs cells slots (lw_Z below #[Value.ref b] s) (F0 m 1155 ls []) := by
  unfold wL_law_1155 at hw
  obtain ⟨hx, hb, hml, hown, hts, hr, hlocks, hK, hG, hfl, hXs, hbl⟩ := id hX
  have hbA : ¬ jAL s b := Nat.not_le.mpr hbl
  refine j_aload_n (r := x1) hx hb dL_law_1155 rfl (lv_at hl 1 rfl) ?_
  obtain ⟨b3, ⟨hrb3, hfs⟩, hw⟩ := hw
  refine j_goz hI (va_runV (As := []) (rest := []) ⟨hx, hb, hml, hown, hts⟩ (kX9_accounts l hfl D z b3  μ H.size _) (cwV 0 hts gL_law_X9_accounts rfl rfl rfl (by decide +kernel) ⟨Nat.le_of_ble_eq_true rfl, Nat.le_of_ble_eq_true rfl⟩) (j_prV2z hK hG hI hw (ci := 11) rfl hfs) rfl rfl hl.1 (by rw [hrb3]; rfl) (lv_room (Nat.le_of_ble_eq_true rfl)) dL_law_1156 ⟨by show _ ≤ 601024; omega, by show _ ≤ 7293033; omega⟩) (fun v1 μ2 H locs hw hI => ?_)
  refine W.eq (g2 := F0 m 1159 ls [.int v1]) rfl ?_
  refine j_aload_n (r := x2) hx hb dL_law_1159 rfl (lv_at hl 2 rfl) ?_
  obtain ⟨b6, ⟨hrb6, hfs⟩, hw⟩ := hw
  refine j_goz hI (va_runV (As := []) (rest := [.int v1]) ⟨hx, hb, hml, hown, hts⟩ (kX10_accounts l hfl D z b6  μ2 H.size _) (cwV 0 hts gL_law_X10_accounts rfl rfl rfl (by decide +kernel) ⟨Nat.le_of_ble_eq_true rfl, Nat.le_of_ble_eq_true rfl⟩) (j_prV2z hK hG hI hw (ci := 12) rfl hfs) rfl rfl hl.1 (by rw [hrb6]; rfl) (lv_room (Nat.le_of_ble_eq_true rfl)) dL_law_1160 ⟨by show _ ≤ 601024; omega, by show _ ≤ 7293033; omega⟩) (fun v4 μ5 H locs hw hI => ?_)
  refine W.eq (g2 := F0 m 1163 ls [.int v4, .int v1]) rfl ?_
  refine lv_icmp_eq (tgt := 1855) hx hb dL_law_1163 (by decide) (fun hc => ?_) (fun hc => ?_)
  · have hw := hw.1 hc
    exact kL_law_1855 hX hK23 hw hI (lv_sub hl [0, 1, 2, 3, 4] rfl) (by omega) (by omega)
  · have hw := hw.2 hc
    refine lv_iconst (v := (0)) hx hb dL_law_1166 (by decide) ?_
    exact (show False from hw).elim
set_option maxHeartbeats 4000000 in
set_option maxRecDepth 100000 in
theorem kL_law_1168 {b : Nat} {L : Nat} {xs : Nat → Int32} (hX : jXL D z p l s m b L xs meth c) {capC capS : Nat} {K23 : Option Nat → Option Nat → Option Nat → Int32 → jM → Prop} (hK23 : ∀ {x1 : Option Nat} {x2 : Option Nat} {x3 : Option Nat} {x4 : Int32} {μ : jM} {H : Heap} {locs : List Loc} {ls : Array Slot} {cells slots : Nat}, K23 x1 x2 x3 x4 μ → jIz D z (jAL s) s.heap μ H locs → lv_has ls 8 [(0, va_rf (some b)), (1, va_rf x1), (2, va_rf x2), (3, va_rf x3), (4, .int x4)] → cells + capC ≤ 601024 → slots + capS ≤ 7293033 → W p l e room_1 s m #[Value.ref b] below meth c H locs cells slots (lw_Z below #[Value.ref b] s) (F0 m 23 ls [])) {x1 : Option Nat} {x2 : Option Nat} {x3 : Option Nat} {x4 : Int32} {μ : jM} {H : Heap} {locs : List Loc} {ls : Array Slot} {cells slots : Nat} (hw : wL_law_1168 z b K23 L xs x1 x2 x3 x4 μ) (hI : jIz D z (jAL s) s.heap μ H locs) (hl : lv_has ls 8 [(0, va_rf (some b)), (1, va_rf x1), (2, va_rf x2), (3, va_rf x3), (4, .int x4)]) (hcn : cells + 1 + capC ≤ 601024) (hsn : slots + 6 + capS ≤ 7293033) : W p l e room_1 s m #[Value.ref b] below meth c H locs cells slots (lw_Z below #[Value.ref b] s) (F0 m 1168 ls []) := by
  unfold wL_law_1168 at hw
  obtain ⟨hx, hb, hml, hown, hts, hr, hlocks, hK, hG, hfl, hXs, hbl⟩ := id hX
  have hbA : ¬ jAL s b := Nat.not_le.mpr hbl
  refine j_aload_n (r := x1) hx hb dL_law_1168 rfl (lv_at hl 1 rfl) ?_
  refine j_aload_n (r := (some b)) hx hb dL_law_1169 rfl (lv_at hl 0 rfl) ?_
  refine lv_iload hx hb dL_law_1170 (lv_at hl 4 rfl) ?_
  refine lv_iconst (v := (1)) hx hb dL_law_1172 (by decide) ?_
  refine lv_iadd hx hb dL_law_1173 ?_
  obtain ⟨h1, hw⟩ := hw
  refine va_sld hx hb hXs hbl hbA hI.2.2.1 h1 dL_law_1174 ?_
  refine j_aload_n (r := x3) hx hb dL_law_1175 rfl (lv_at hl 3 rfl) ?_
  refine j_goXz hI (vx_runSX (As := [va_rf x1, .int (xs (Int32.toNatClampNeg (x4 + (1 : Int32)))), va_rf x3]) (rest := []) ⟨hx, hb, hml, hown, hts⟩ (kL_poolOf l hfl D z x1 (xs (Int32.toNatClampNeg (x4 + (1 : Int32)))) x3 μ H.size _) (vx_cwSW 3 hts gL_law_L_poolOf rfl rfl rfl (by decide +kernel) ⟨Nat.le_of_ble_eq_true rfl, Nat.le_of_ble_eq_true rfl⟩) (j_prS2z hK hG hI hw) rfl rfl hl.1 rfl (lv_room (Nat.le_of_ble_eq_true rfl)) dL_law_1176 ⟨by show _ ≤ 601024; omega, by show _ ≤ 7293033; omega⟩) (fun E ce q9 μX H locs hw hI hce hcv hcl => (show False from hw).elim) (fun v2 μ3 H locs hw hI => ?_)
  refine W.eq (g2 := F0 m 1179 ls [.int v2]) rfl ?_
  refine lv_istore (lv' := [(5, .int v2), (0, va_rf (some b)), (1, va_rf x1), (2, va_rf x2), (3, va_rf x3), (4, .int x4)]) hx hb dL_law_1179 hl (by decide) rfl (fun ls hl => ?_)
  refine j_aload_n (r := x2) hx hb dL_law_1181 rfl (lv_at hl 3 rfl) ?_
  refine j_aload_n (r := (some b)) hx hb dL_law_1182 rfl (lv_at hl 1 rfl) ?_
  refine lv_iload hx hb dL_law_1183 (lv_at hl 5 rfl) ?_
  refine lv_iconst (v := (1)) hx hb dL_law_1185 (by decide) ?_
  refine lv_iadd hx hb dL_law_1186 ?_
  obtain ⟨h4, hw⟩ := hw
  refine va_sld hx hb hXs hbl hbA hI.2.2.1 h4 dL_law_1187 ?_
  obtain ⟨b7, ⟨hrb7, hfs⟩, hw⟩ := hw
  refine j_goz hI (va_runV (As := [.int (xs (Int32.toNatClampNeg (x4 + (1 : Int32))))]) (rest := []) ⟨hx, hb, hml, hown, hts⟩ (kX10_poolOf l hfl D z b7 (xs (Int32.toNatClampNeg (x4 + (1 : Int32)))) μ3 H.size _) (cwV 1 hts gL_law_X10_poolOf rfl rfl rfl (by decide +kernel) ⟨Nat.le_of_ble_eq_true rfl, Nat.le_of_ble_eq_true rfl⟩) (j_prV2z hK hG hI hw (ci := 12) rfl hfs) rfl rfl hl.1 (by rw [hrb7]; rfl) (lv_room (Nat.le_of_ble_eq_true rfl)) dL_law_1188 ⟨by show _ ≤ 601024; omega, by show _ ≤ 7293033; omega⟩) (fun v5 μ6 H locs hw hI => ?_)
  refine W.eq (g2 := F0 m 1191 ls [.int v5]) rfl ?_
  refine lv_istore (lv' := [(6, .int v5), (5, .int v2), (0, va_rf (some b)), (1, va_rf x1), (2, va_rf x2), (3, va_rf x3), (4, .int x4)]) hx hb dL_law_1191 hl (by decide) rfl (fun ls hl => ?_)
  refine j_aload_n (r := x2) hx hb dL_law_1193 rfl (lv_at hl 4 rfl) ?_
  obtain ⟨b10, ⟨hrb10, hfs⟩, hw⟩ := hw
  refine j_goz hI (va_runV (As := []) (rest := []) ⟨hx, hb, hml, hown, hts⟩ (kX10_thrown l hfl D z b10  μ6 H.size _) (cwV 0 hts gL_law_X10_thrown rfl rfl rfl (by decide +kernel) ⟨Nat.le_of_ble_eq_true rfl, Nat.le_of_ble_eq_true rfl⟩) (j_prV2z hK hG hI hw (ci := 12) rfl hfs) rfl rfl hl.1 (by rw [hrb10]; rfl) (lv_room (Nat.le_of_ble_eq_true rfl)) dL_law_1194 ⟨by show _ ≤ 601024; omega, by show _ ≤ 7293033; omega⟩) (fun v8 μ9 H locs hw hI => ?_)
  refine W.eq (g2 := F0 m 1197 ls [.int v8]) rfl ?_
  refine lv_iload hx hb dL_law_1197 (lv_at hl 1 rfl) ?_
  refine lv_icmp_eq (tgt := 1204) hx hb dL_law_1199 (by decide) (fun hc => ?_) (fun hc => ?_)
  · have hw := hw.1 hc
    refine lv_iload hx hb dL_law_1204 (lv_at hl 1 rfl) ?_
    refine lv_if_ne (tgt := 1221) hx hb dL_law_1206 (by decide) (fun hc => ?_) (fun hc => ?_)
    · have hw := hw.1 hc
      refine lv_goto (tgt := 1855) hx hb dL_law_1221 (by decide) ?_
      exact kL_law_1855 hX hK23 hw hI (lv_sub hl [2, 3, 4, 5, 6] rfl) (by omega) (by omega)
    · have hw := hw.2 hc
      refine j_aload_n (r := x3) hx hb dL_law_1209 rfl (lv_at hl 5 rfl) ?_
      refine lv_iconst (v := (0)) hx hb dL_law_1210 (by decide) ?_
      obtain ⟨v11, hv11, hw⟩ := hw
      refine j_laldz (r := x3) hx hb hK hI hv11 dL_law_1211 ?_
      refine lv_iload hx hb dL_law_1212 (lv_at hl 0 rfl) ?_
      refine lv_i2l hx hb dL_law_1214 rfl ?_
      refine j_lcmp_eq (tgt := 1221) hx hb dL_law_1215 dL_law_1216 (by decide) (fun hc => ?_) (fun hc => ?_)
      · have hw := hw.1 hc
        refine lv_goto (tgt := 1855) hx hb dL_law_1221 (by decide) ?_
        exact kL_law_1855 hX hK23 hw hI (lv_sub hl [2, 3, 4, 5, 6] rfl) (by omega) (by omega)
      · have hw := hw.2 hc
        refine lv_iconst (v := (0)) hx hb dL_law_1219 (by decide) ?_
        exact (show False from hw).elim
  · have hw := hw.2 hc
    refine lv_iconst (v := (0)) hx hb dL_law_1202 (by decide) ?_
    exact (show False from hw).elim
set_option maxHeartbeats 4000000 in
set_option maxRecDepth 100000 in
theorem kL_law_1224 {b : Nat} {L : Nat} {xs : Nat → Int32} (hX : jXL D z p l s m b L xs meth c) {capC capS : Nat} {K23 : Option Nat → Option Nat → Option Nat → Int32 → jM → Prop} (hK23 : ∀ {x1 : Option Nat} {x2 : Option Nat} {x3 : Option Nat} {x4 : Int32} {μ : jM} {H : Heap} {locs : List Loc} {ls : Array Slot} {cells slots : Nat}, K23 x1 x2 x3 x4 μ → jIz D z (jAL s) s.heap μ H locs → lv_has ls 8 [(0, va_rf (some b)), (1, va_rf x1), (2, va_rf x2), (3, va_rf x3), (4, .int x4)] → cells + capC ≤ 601024 → slots + capS ≤ 7293033 → W p l e room_1 s m #[Value.ref b] below meth c H locs cells slots (lw_Z below #[Value.ref b] s) (F0 m 23 ls [])) {x1 : Option Nat} {x2 : Option Nat} {x3 : Option Nat} {x4 : Int32} {μ : jM} {H : Heap} {locs : List Loc} {ls : Array Slot} {cells slots : Nat} (hw : wL_law_1224 z b K23 L xs x1 x2 x3 x4 μ) (hI : jIz D z (jAL s) s.heap μ H locs) (hl : lv_has ls 8 [(0, va_rf (some b)), (1, va_rf x1), (2, va_rf x2), (3, va_rf x3), (4, .int x4)]) (hcn : cells + 1 + capC ≤ 601024) (hsn : slots + 6 + capS ≤ 7293033) : W p l e room_1 s m #[Value.ref b] below meth c H locs cells slots (lw_Z below #[Value.ref b] s) (F0 m 1224 ls []) := by
  unfold wL_law_1224 at hw
  obtain ⟨hx, hb, hml, hown, hts, hr, hlocks, hK, hG, hfl, hXs, hbl⟩ := id hX
  have hbA : ¬ jAL s b := Nat.not_le.mpr hbl
  refine j_aload_n (r := x1) hx hb dL_law_1224 rfl (lv_at hl 1 rfl) ?_
  refine j_aload_n (r := (some b)) hx hb dL_law_1225 rfl (lv_at hl 0 rfl) ?_
  refine lv_iload hx hb dL_law_1226 (lv_at hl 4 rfl) ?_
  refine lv_iconst (v := (1)) hx hb dL_law_1228 (by decide) ?_
  refine lv_iadd hx hb dL_law_1229 ?_
  obtain ⟨h1, hw⟩ := hw
  refine va_sld hx hb hXs hbl hbA hI.2.2.1 h1 dL_law_1230 ?_
  refine j_aload_n (r := x3) hx hb dL_law_1231 rfl (lv_at hl 3 rfl) ?_
  refine j_goXz hI (vx_runSX (As := [va_rf x1, .int (xs (Int32.toNatClampNeg (x4 + (1 : Int32)))), va_rf x3]) (rest := []) ⟨hx, hb, hml, hown, hts⟩ (kL_balance l hfl D z x1 (xs (Int32.toNatClampNeg (x4 + (1 : Int32)))) x3 μ H.size _) (vx_cwSW 3 hts gL_law_L_balance rfl rfl rfl (by decide +kernel) ⟨Nat.le_of_ble_eq_true rfl, Nat.le_of_ble_eq_true rfl⟩) (j_prS2z hK hG hI hw) rfl rfl hl.1 rfl (lv_room (Nat.le_of_ble_eq_true rfl)) dL_law_1232 ⟨by show _ ≤ 601024; omega, by show _ ≤ 7293033; omega⟩) (fun E ce q9 μX H locs hw hI hce hcv hcl => (show False from hw).elim) (fun v2 μ3 H locs hw hI => ?_)
  refine W.eq (g2 := F0 m 1235 ls [.int v2]) rfl ?_
  refine lv_istore (lv' := [(5, .int v2), (0, va_rf (some b)), (1, va_rf x1), (2, va_rf x2), (3, va_rf x3), (4, .int x4)]) hx hb dL_law_1235 hl (by decide) rfl (fun ls hl => ?_)
  refine j_aload_n (r := x2) hx hb dL_law_1237 rfl (lv_at hl 3 rfl) ?_
  refine j_aload_n (r := (some b)) hx hb dL_law_1238 rfl (lv_at hl 1 rfl) ?_
  refine lv_iload hx hb dL_law_1239 (lv_at hl 5 rfl) ?_
  refine lv_iconst (v := (1)) hx hb dL_law_1241 (by decide) ?_
  refine lv_iadd hx hb dL_law_1242 ?_
  obtain ⟨h4, hw⟩ := hw
  refine va_sld hx hb hXs hbl hbA hI.2.2.1 h4 dL_law_1243 ?_
  obtain ⟨b7, ⟨hrb7, hfs⟩, hw⟩ := hw
  refine j_goz hI (va_runV (As := [.int (xs (Int32.toNatClampNeg (x4 + (1 : Int32))))]) (rest := []) ⟨hx, hb, hml, hown, hts⟩ (kX10_balance l hfl D z b7 (xs (Int32.toNatClampNeg (x4 + (1 : Int32)))) μ3 H.size _) (cwV 1 hts gL_law_X10_balance rfl rfl rfl (by decide +kernel) ⟨Nat.le_of_ble_eq_true rfl, Nat.le_of_ble_eq_true rfl⟩) (j_prV2z hK hG hI hw (ci := 12) rfl hfs) rfl rfl hl.1 (by rw [hrb7]; rfl) (lv_room (Nat.le_of_ble_eq_true rfl)) dL_law_1244 ⟨by show _ ≤ 601024; omega, by show _ ≤ 7293033; omega⟩) (fun v5 μ6 H locs hw hI => ?_)
  refine W.eq (g2 := F0 m 1247 ls [.long v5]) rfl ?_
  refine lv_lstore (lv' := [(6, .long v5), (5, .int v2), (0, va_rf (some b)), (1, va_rf x1), (2, va_rf x2), (3, va_rf x3), (4, .int x4)]) hx hb dL_law_1247 hl (by decide) rfl (fun ls hl => ?_)
  refine j_aload_n (r := x2) hx hb dL_law_1249 rfl (lv_at hl 4 rfl) ?_
  obtain ⟨b10, ⟨hrb10, hfs⟩, hw⟩ := hw
  refine j_goz hI (va_runV (As := []) (rest := []) ⟨hx, hb, hml, hown, hts⟩ (kX10_thrown l hfl D z b10  μ6 H.size _) (cwV 0 hts gL_law_X10_thrown rfl rfl rfl (by decide +kernel) ⟨Nat.le_of_ble_eq_true rfl, Nat.le_of_ble_eq_true rfl⟩) (j_prV2z hK hG hI hw (ci := 12) rfl hfs) rfl rfl hl.1 (by rw [hrb10]; rfl) (lv_room (Nat.le_of_ble_eq_true rfl)) dL_law_1250 ⟨by show _ ≤ 601024; omega, by show _ ≤ 7293033; omega⟩) (fun v8 μ9 H locs hw hI => ?_)
  refine W.eq (g2 := F0 m 1253 ls [.int v8]) rfl ?_
  refine lv_iload hx hb dL_law_1253 (lv_at hl 1 rfl) ?_
  refine lv_icmp_eq (tgt := 1260) hx hb dL_law_1255 (by decide) (fun hc => ?_) (fun hc => ?_)
  · have hw := hw.1 hc
    refine lv_iload hx hb dL_law_1260 (lv_at hl 1 rfl) ?_
    refine lv_if_ne (tgt := 1276) hx hb dL_law_1262 (by decide) (fun hc => ?_) (fun hc => ?_)
    · have hw := hw.1 hc
      refine lv_goto (tgt := 1855) hx hb dL_law_1276 (by decide) ?_
      exact kL_law_1855 hX hK23 hw hI (lv_sub hl [2, 3, 4, 5, 6] rfl) (by omega) (by omega)
    · have hw := hw.2 hc
      refine j_aload_n (r := x3) hx hb dL_law_1265 rfl (lv_at hl 5 rfl) ?_
      refine lv_iconst (v := (0)) hx hb dL_law_1266 (by decide) ?_
      obtain ⟨v11, hv11, hw⟩ := hw
      refine j_laldz (r := x3) hx hb hK hI hv11 dL_law_1267 ?_
      refine lv_lload hx hb dL_law_1268 (lv_at hl 0 rfl) ?_
      refine j_lcmp_eq (tgt := 1276) hx hb dL_law_1270 dL_law_1271 (by decide) (fun hc => ?_) (fun hc => ?_)
      · have hw := hw.1 hc
        refine lv_goto (tgt := 1855) hx hb dL_law_1276 (by decide) ?_
        exact kL_law_1855 hX hK23 hw hI (lv_sub hl [2, 3, 4, 5, 6] rfl) (by omega) (by omega)
      · have hw := hw.2 hc
        refine lv_iconst (v := (0)) hx hb dL_law_1274 (by decide) ?_
        exact (show False from hw).elim
  · have hw := hw.2 hc
    refine lv_iconst (v := (0)) hx hb dL_law_1258 (by decide) ?_
    exact (show False from hw).elim
set_option maxHeartbeats 4000000 in
set_option maxRecDepth 100000 in
theorem kL_law_1279 {b : Nat} {L : Nat} {xs : Nat → Int32} (hX : jXL D z p l s m b L xs meth c) {capC capS : Nat} {K23 : Option Nat → Option Nat → Option Nat → Int32 → jM → Prop} (hK23 : ∀ {x1 : Option Nat} {x2 : Option Nat} {x3 : Option Nat} {x4 : Int32} {μ : jM} {H : Heap} {locs : List Loc} {ls : Array Slot} {cells slots : Nat}, K23 x1 x2 x3 x4 μ → jIz D z (jAL s) s.heap μ H locs → lv_has ls 8 [(0, va_rf (some b)), (1, va_rf x1), (2, va_rf x2), (3, va_rf x3), (4, .int x4)] → cells + capC ≤ 601024 → slots + capS ≤ 7293033 → W p l e room_1 s m #[Value.ref b] below meth c H locs cells slots (lw_Z below #[Value.ref b] s) (F0 m 23 ls [])) {x1 : Option Nat} {x2 : Option Nat} {x3 : Option Nat} {x4 : Int32} {μ : jM} {H : Heap} {locs : List Loc} {ls : Array Slot} {cells slots : Nat} (hw : wL_law_1279 z b K23 L xs x1 x2 x3 x4 μ) (hI : jIz D z (jAL s) s.heap μ H locs) (hl : lv_has ls 8 [(0, va_rf (some b)), (1, va_rf x1), (2, va_rf x2), (3, va_rf x3), (4, .int x4)]) (hcn : cells + 1 + capC ≤ 601024) (hsn : slots + 6 + capS ≤ 7293033) : W p l e room_1 s m #[Value.ref b] below meth c H locs cells slots (lw_Z below #[Value.ref b] s) (F0 m 1279 ls []) := by
  unfold wL_law_1279 at hw
  obtain ⟨hx, hb, hml, hown, hts, hr, hlocks, hK, hG, hfl, hXs, hbl⟩ := id hX
  have hbA : ¬ jAL s b := Nat.not_le.mpr hbl
  refine j_aload_n (r := x1) hx hb dL_law_1279 rfl (lv_at hl 1 rfl) ?_
  refine j_aload_n (r := (some b)) hx hb dL_law_1280 rfl (lv_at hl 0 rfl) ?_
  refine lv_iload hx hb dL_law_1281 (lv_at hl 4 rfl) ?_
  refine lv_iconst (v := (1)) hx hb dL_law_1283 (by decide) ?_
  refine lv_iadd hx hb dL_law_1284 ?_
  obtain ⟨h1, hw⟩ := hw
  refine va_sld hx hb hXs hbl hbA hI.2.2.1 h1 dL_law_1285 ?_
  refine j_aload_n (r := x3) hx hb dL_law_1286 rfl (lv_at hl 3 rfl) ?_
  refine j_goXz hI (vx_runSX (As := [va_rf x1, .int (xs (Int32.toNatClampNeg (x4 + (1 : Int32)))), va_rf x3]) (rest := []) ⟨hx, hb, hml, hown, hts⟩ (kL_total l hfl D z x1 (xs (Int32.toNatClampNeg (x4 + (1 : Int32)))) x3 μ H.size _) (vx_cwSW 3 hts gL_law_L_total rfl rfl rfl (by decide +kernel) ⟨Nat.le_of_ble_eq_true rfl, Nat.le_of_ble_eq_true rfl⟩) (j_prS2z hK hG hI hw) rfl rfl hl.1 rfl (lv_room (Nat.le_of_ble_eq_true rfl)) dL_law_1287 ⟨by show _ ≤ 601024; omega, by show _ ≤ 7293033; omega⟩) (fun E ce q9 μX H locs hw hI hce hcv hcl => (show False from hw).elim) (fun v2 μ3 H locs hw hI => ?_)
  refine W.eq (g2 := F0 m 1290 ls [.int v2]) rfl ?_
  refine lv_istore (lv' := [(5, .int v2), (0, va_rf (some b)), (1, va_rf x1), (2, va_rf x2), (3, va_rf x3), (4, .int x4)]) hx hb dL_law_1290 hl (by decide) rfl (fun ls hl => ?_)
  refine j_aload_n (r := x2) hx hb dL_law_1292 rfl (lv_at hl 3 rfl) ?_
  refine j_aload_n (r := (some b)) hx hb dL_law_1293 rfl (lv_at hl 1 rfl) ?_
  refine lv_iload hx hb dL_law_1294 (lv_at hl 5 rfl) ?_
  refine lv_iconst (v := (1)) hx hb dL_law_1296 (by decide) ?_
  refine lv_iadd hx hb dL_law_1297 ?_
  obtain ⟨h4, hw⟩ := hw
  refine va_sld hx hb hXs hbl hbA hI.2.2.1 h4 dL_law_1298 ?_
  obtain ⟨b7, ⟨hrb7, hfs⟩, hw⟩ := hw
  refine j_goz hI (va_runV (As := [.int (xs (Int32.toNatClampNeg (x4 + (1 : Int32))))]) (rest := []) ⟨hx, hb, hml, hown, hts⟩ (kX10_total l hfl D z b7 (xs (Int32.toNatClampNeg (x4 + (1 : Int32)))) μ3 H.size _) (cwV 1 hts gL_law_X10_total rfl rfl rfl (by decide +kernel) ⟨Nat.le_of_ble_eq_true rfl, Nat.le_of_ble_eq_true rfl⟩) (j_prV2z hK hG hI hw (ci := 12) rfl hfs) rfl rfl hl.1 (by rw [hrb7]; rfl) (lv_room (Nat.le_of_ble_eq_true rfl)) dL_law_1299 ⟨by show _ ≤ 601024; omega, by show _ ≤ 7293033; omega⟩) (fun v5 μ6 H locs hw hI => ?_)
  refine W.eq (g2 := F0 m 1302 ls [.long v5]) rfl ?_
  refine lv_lstore (lv' := [(6, .long v5), (5, .int v2), (0, va_rf (some b)), (1, va_rf x1), (2, va_rf x2), (3, va_rf x3), (4, .int x4)]) hx hb dL_law_1302 hl (by decide) rfl (fun ls hl => ?_)
  refine j_aload_n (r := x2) hx hb dL_law_1304 rfl (lv_at hl 4 rfl) ?_
  obtain ⟨b10, ⟨hrb10, hfs⟩, hw⟩ := hw
  refine j_goz hI (va_runV (As := []) (rest := []) ⟨hx, hb, hml, hown, hts⟩ (kX10_thrown l hfl D z b10  μ6 H.size _) (cwV 0 hts gL_law_X10_thrown rfl rfl rfl (by decide +kernel) ⟨Nat.le_of_ble_eq_true rfl, Nat.le_of_ble_eq_true rfl⟩) (j_prV2z hK hG hI hw (ci := 12) rfl hfs) rfl rfl hl.1 (by rw [hrb10]; rfl) (lv_room (Nat.le_of_ble_eq_true rfl)) dL_law_1305 ⟨by show _ ≤ 601024; omega, by show _ ≤ 7293033; omega⟩) (fun v8 μ9 H locs hw hI => ?_)
  refine W.eq (g2 := F0 m 1308 ls [.int v8]) rfl ?_
  refine lv_iload hx hb dL_law_1308 (lv_at hl 1 rfl) ?_
  refine lv_icmp_eq (tgt := 1315) hx hb dL_law_1310 (by decide) (fun hc => ?_) (fun hc => ?_)
  · have hw := hw.1 hc
    refine lv_iload hx hb dL_law_1315 (lv_at hl 1 rfl) ?_
    refine lv_if_ne (tgt := 1331) hx hb dL_law_1317 (by decide) (fun hc => ?_) (fun hc => ?_)
    · have hw := hw.1 hc
      refine lv_goto (tgt := 1855) hx hb dL_law_1331 (by decide) ?_
      exact kL_law_1855 hX hK23 hw hI (lv_sub hl [2, 3, 4, 5, 6] rfl) (by omega) (by omega)
    · have hw := hw.2 hc
      refine j_aload_n (r := x3) hx hb dL_law_1320 rfl (lv_at hl 5 rfl) ?_
      refine lv_iconst (v := (0)) hx hb dL_law_1321 (by decide) ?_
      obtain ⟨v11, hv11, hw⟩ := hw
      refine j_laldz (r := x3) hx hb hK hI hv11 dL_law_1322 ?_
      refine lv_lload hx hb dL_law_1323 (lv_at hl 0 rfl) ?_
      refine j_lcmp_eq (tgt := 1331) hx hb dL_law_1325 dL_law_1326 (by decide) (fun hc => ?_) (fun hc => ?_)
      · have hw := hw.1 hc
        refine lv_goto (tgt := 1855) hx hb dL_law_1331 (by decide) ?_
        exact kL_law_1855 hX hK23 hw hI (lv_sub hl [2, 3, 4, 5, 6] rfl) (by omega) (by omega)
      · have hw := hw.2 hc
        refine lv_iconst (v := (0)) hx hb dL_law_1329 (by decide) ?_
        exact (show False from hw).elim
  · have hw := hw.2 hc
    refine lv_iconst (v := (0)) hx hb dL_law_1313 (by decide) ?_
    exact (show False from hw).elim
set_option maxHeartbeats 4000000 in
set_option maxRecDepth 100000 in
theorem kL_law_1334 {b : Nat} {L : Nat} {xs : Nat → Int32} (hX : jXL D z p l s m b L xs meth c) {capC capS : Nat} {K23 : Option Nat → Option Nat → Option Nat → Int32 → jM → Prop} (hK23 : ∀ {x1 : Option Nat} {x2 : Option Nat} {x3 : Option Nat} {x4 : Int32} {μ : jM} {H : Heap} {locs : List Loc} {ls : Array Slot} {cells slots : Nat}, K23 x1 x2 x3 x4 μ → jIz D z (jAL s) s.heap μ H locs → lv_has ls 8 [(0, va_rf (some b)), (1, va_rf x1), (2, va_rf x2), (3, va_rf x3), (4, .int x4)] → cells + capC ≤ 601024 → slots + capS ≤ 7293033 → W p l e room_1 s m #[Value.ref b] below meth c H locs cells slots (lw_Z below #[Value.ref b] s) (F0 m 23 ls [])) {x1 : Option Nat} {x2 : Option Nat} {x3 : Option Nat} {x4 : Int32} {μ : jM} {H : Heap} {locs : List Loc} {ls : Array Slot} {cells slots : Nat} (hw : wL_law_1334 z b K23 L xs x1 x2 x3 x4 μ) (hI : jIz D z (jAL s) s.heap μ H locs) (hl : lv_has ls 8 [(0, va_rf (some b)), (1, va_rf x1), (2, va_rf x2), (3, va_rf x3), (4, .int x4)]) (hcn : cells + 1 + capC ≤ 601024) (hsn : slots + 6 + capS ≤ 7293033) : W p l e room_1 s m #[Value.ref b] below meth c H locs cells slots (lw_Z below #[Value.ref b] s) (F0 m 1334 ls []) := by
  unfold wL_law_1334 at hw
  obtain ⟨hx, hb, hml, hown, hts, hr, hlocks, hK, hG, hfl, hXs, hbl⟩ := id hX
  have hbA : ¬ jAL s b := Nat.not_le.mpr hbl
  refine j_aload_n (r := x1) hx hb dL_law_1334 rfl (lv_at hl 1 rfl) ?_
  refine j_aload_n (r := (some b)) hx hb dL_law_1335 rfl (lv_at hl 0 rfl) ?_
  refine lv_iload hx hb dL_law_1336 (lv_at hl 4 rfl) ?_
  refine lv_iconst (v := (1)) hx hb dL_law_1338 (by decide) ?_
  refine lv_iadd hx hb dL_law_1339 ?_
  obtain ⟨h1, hw⟩ := hw
  refine va_sld hx hb hXs hbl hbA hI.2.2.1 h1 dL_law_1340 ?_
  refine j_aload_n (r := x3) hx hb dL_law_1341 rfl (lv_at hl 3 rfl) ?_
  refine j_goXz hI (vx_runSX (As := [va_rf x1, .int (xs (Int32.toNatClampNeg (x4 + (1 : Int32)))), va_rf x3]) (rest := []) ⟨hx, hb, hml, hown, hts⟩ (kL_exposure l hfl D z x1 (xs (Int32.toNatClampNeg (x4 + (1 : Int32)))) x3 μ H.size _) (vx_cwSW 3 hts gL_law_L_exposure rfl rfl rfl (by decide +kernel) ⟨Nat.le_of_ble_eq_true rfl, Nat.le_of_ble_eq_true rfl⟩) (j_prS2z hK hG hI hw) rfl rfl hl.1 rfl (lv_room (Nat.le_of_ble_eq_true rfl)) dL_law_1342 ⟨by show _ ≤ 601024; omega, by show _ ≤ 7293033; omega⟩) (fun E ce q9 μX H locs hw hI hce hcv hcl => (show False from hw).elim) (fun v2 μ3 H locs hw hI => ?_)
  refine W.eq (g2 := F0 m 1345 ls [.int v2]) rfl ?_
  refine lv_istore (lv' := [(5, .int v2), (0, va_rf (some b)), (1, va_rf x1), (2, va_rf x2), (3, va_rf x3), (4, .int x4)]) hx hb dL_law_1345 hl (by decide) rfl (fun ls hl => ?_)
  refine j_aload_n (r := x2) hx hb dL_law_1347 rfl (lv_at hl 3 rfl) ?_
  refine j_aload_n (r := (some b)) hx hb dL_law_1348 rfl (lv_at hl 1 rfl) ?_
  refine lv_iload hx hb dL_law_1349 (lv_at hl 5 rfl) ?_
  refine lv_iconst (v := (1)) hx hb dL_law_1351 (by decide) ?_
  refine lv_iadd hx hb dL_law_1352 ?_
  obtain ⟨h4, hw⟩ := hw
  refine va_sld hx hb hXs hbl hbA hI.2.2.1 h4 dL_law_1353 ?_
  obtain ⟨b7, ⟨hrb7, hfs⟩, hw⟩ := hw
  refine j_goz hI (va_runV (As := [.int (xs (Int32.toNatClampNeg (x4 + (1 : Int32))))]) (rest := []) ⟨hx, hb, hml, hown, hts⟩ (kX10_exposure l hfl D z b7 (xs (Int32.toNatClampNeg (x4 + (1 : Int32)))) μ3 H.size _) (cwV 1 hts gL_law_X10_exposure rfl rfl rfl (by decide +kernel) ⟨Nat.le_of_ble_eq_true rfl, Nat.le_of_ble_eq_true rfl⟩) (j_prV2z hK hG hI hw (ci := 12) rfl hfs) rfl rfl hl.1 (by rw [hrb7]; rfl) (lv_room (Nat.le_of_ble_eq_true rfl)) dL_law_1354 ⟨by show _ ≤ 601024; omega, by show _ ≤ 7293033; omega⟩) (fun v5 μ6 H locs hw hI => ?_)
  refine W.eq (g2 := F0 m 1357 ls [.long v5]) rfl ?_
  refine lv_lstore (lv' := [(6, .long v5), (5, .int v2), (0, va_rf (some b)), (1, va_rf x1), (2, va_rf x2), (3, va_rf x3), (4, .int x4)]) hx hb dL_law_1357 hl (by decide) rfl (fun ls hl => ?_)
  refine j_aload_n (r := x2) hx hb dL_law_1359 rfl (lv_at hl 4 rfl) ?_
  obtain ⟨b10, ⟨hrb10, hfs⟩, hw⟩ := hw
  refine j_goz hI (va_runV (As := []) (rest := []) ⟨hx, hb, hml, hown, hts⟩ (kX10_thrown l hfl D z b10  μ6 H.size _) (cwV 0 hts gL_law_X10_thrown rfl rfl rfl (by decide +kernel) ⟨Nat.le_of_ble_eq_true rfl, Nat.le_of_ble_eq_true rfl⟩) (j_prV2z hK hG hI hw (ci := 12) rfl hfs) rfl rfl hl.1 (by rw [hrb10]; rfl) (lv_room (Nat.le_of_ble_eq_true rfl)) dL_law_1360 ⟨by show _ ≤ 601024; omega, by show _ ≤ 7293033; omega⟩) (fun v8 μ9 H locs hw hI => ?_)
  refine W.eq (g2 := F0 m 1363 ls [.int v8]) rfl ?_
  refine lv_iload hx hb dL_law_1363 (lv_at hl 1 rfl) ?_
  refine lv_icmp_eq (tgt := 1370) hx hb dL_law_1365 (by decide) (fun hc => ?_) (fun hc => ?_)
  · have hw := hw.1 hc
    refine lv_iload hx hb dL_law_1370 (lv_at hl 1 rfl) ?_
    refine lv_if_ne (tgt := 1386) hx hb dL_law_1372 (by decide) (fun hc => ?_) (fun hc => ?_)
    · have hw := hw.1 hc
      refine lv_goto (tgt := 1855) hx hb dL_law_1386 (by decide) ?_
      exact kL_law_1855 hX hK23 hw hI (lv_sub hl [2, 3, 4, 5, 6] rfl) (by omega) (by omega)
    · have hw := hw.2 hc
      refine j_aload_n (r := x3) hx hb dL_law_1375 rfl (lv_at hl 5 rfl) ?_
      refine lv_iconst (v := (0)) hx hb dL_law_1376 (by decide) ?_
      obtain ⟨v11, hv11, hw⟩ := hw
      refine j_laldz (r := x3) hx hb hK hI hv11 dL_law_1377 ?_
      refine lv_lload hx hb dL_law_1378 (lv_at hl 0 rfl) ?_
      refine j_lcmp_eq (tgt := 1386) hx hb dL_law_1380 dL_law_1381 (by decide) (fun hc => ?_) (fun hc => ?_)
      · have hw := hw.1 hc
        refine lv_goto (tgt := 1855) hx hb dL_law_1386 (by decide) ?_
        exact kL_law_1855 hX hK23 hw hI (lv_sub hl [2, 3, 4, 5, 6] rfl) (by omega) (by omega)
      · have hw := hw.2 hc
        refine lv_iconst (v := (0)) hx hb dL_law_1384 (by decide) ?_
        exact (show False from hw).elim
  · have hw := hw.2 hc
    refine lv_iconst (v := (0)) hx hb dL_law_1368 (by decide) ?_
    exact (show False from hw).elim
set_option maxHeartbeats 4000000 in
set_option maxRecDepth 100000 in
theorem kL_law_1389 {b : Nat} {L : Nat} {xs : Nat → Int32} (hX : jXL D z p l s m b L xs meth c) {capC capS : Nat} {K23 : Option Nat → Option Nat → Option Nat → Int32 → jM → Prop} (hK23 : ∀ {x1 : Option Nat} {x2 : Option Nat} {x3 : Option Nat} {x4 : Int32} {μ : jM} {H : Heap} {locs : List Loc} {ls : Array Slot} {cells slots : Nat}, K23 x1 x2 x3 x4 μ → jIz D z (jAL s) s.heap μ H locs → lv_has ls 8 [(0, va_rf (some b)), (1, va_rf x1), (2, va_rf x2), (3, va_rf x3), (4, .int x4)] → cells + capC ≤ 601024 → slots + capS ≤ 7293033 → W p l e room_1 s m #[Value.ref b] below meth c H locs cells slots (lw_Z below #[Value.ref b] s) (F0 m 23 ls [])) {x1 : Option Nat} {x2 : Option Nat} {x3 : Option Nat} {x4 : Int32} {μ : jM} {H : Heap} {locs : List Loc} {ls : Array Slot} {cells slots : Nat} (hw : wL_law_1389 z b K23 L xs x1 x2 x3 x4 μ) (hI : jIz D z (jAL s) s.heap μ H locs) (hl : lv_has ls 8 [(0, va_rf (some b)), (1, va_rf x1), (2, va_rf x2), (3, va_rf x3), (4, .int x4)]) (hcn : cells + 1 + capC ≤ 601024) (hsn : slots + 6 + capS ≤ 7293033) : W p l e room_1 s m #[Value.ref b] below meth c H locs cells slots (lw_Z below #[Value.ref b] s) (F0 m 1389 ls []) := by
  unfold wL_law_1389 at hw
  obtain ⟨hx, hb, hml, hown, hts, hr, hlocks, hK, hG, hfl, hXs, hbl⟩ := id hX
  have hbA : ¬ jAL s b := Nat.not_le.mpr hbl
  refine j_aload_n (r := x1) hx hb dL_law_1389 rfl (lv_at hl 1 rfl) ?_
  refine j_aload_n (r := (some b)) hx hb dL_law_1390 rfl (lv_at hl 0 rfl) ?_
  refine lv_iload hx hb dL_law_1391 (lv_at hl 4 rfl) ?_
  refine lv_iconst (v := (1)) hx hb dL_law_1393 (by decide) ?_
  refine lv_iadd hx hb dL_law_1394 ?_
  obtain ⟨h1, hw⟩ := hw
  refine va_sld hx hb hXs hbl hbA hI.2.2.1 h1 dL_law_1395 ?_
  refine j_aload_n (r := x3) hx hb dL_law_1396 rfl (lv_at hl 3 rfl) ?_
  refine j_goXz hI (vx_runSX (As := [va_rf x1, .int (xs (Int32.toNatClampNeg (x4 + (1 : Int32)))), va_rf x3]) (rest := []) ⟨hx, hb, hml, hown, hts⟩ (kL_drawn l hfl D z x1 (xs (Int32.toNatClampNeg (x4 + (1 : Int32)))) x3 μ H.size _) (vx_cwSW 3 hts gL_law_L_drawn rfl rfl rfl (by decide +kernel) ⟨Nat.le_of_ble_eq_true rfl, Nat.le_of_ble_eq_true rfl⟩) (j_prS2z hK hG hI hw) rfl rfl hl.1 rfl (lv_room (Nat.le_of_ble_eq_true rfl)) dL_law_1397 ⟨by show _ ≤ 601024; omega, by show _ ≤ 7293033; omega⟩) (fun E ce q9 μX H locs hw hI hce hcv hcl => (show False from hw).elim) (fun v2 μ3 H locs hw hI => ?_)
  refine W.eq (g2 := F0 m 1400 ls [.int v2]) rfl ?_
  refine lv_istore (lv' := [(5, .int v2), (0, va_rf (some b)), (1, va_rf x1), (2, va_rf x2), (3, va_rf x3), (4, .int x4)]) hx hb dL_law_1400 hl (by decide) rfl (fun ls hl => ?_)
  refine j_aload_n (r := x2) hx hb dL_law_1402 rfl (lv_at hl 3 rfl) ?_
  refine j_aload_n (r := (some b)) hx hb dL_law_1403 rfl (lv_at hl 1 rfl) ?_
  refine lv_iload hx hb dL_law_1404 (lv_at hl 5 rfl) ?_
  refine lv_iconst (v := (1)) hx hb dL_law_1406 (by decide) ?_
  refine lv_iadd hx hb dL_law_1407 ?_
  obtain ⟨h4, hw⟩ := hw
  refine va_sld hx hb hXs hbl hbA hI.2.2.1 h4 dL_law_1408 ?_
  obtain ⟨b7, ⟨hrb7, hfs⟩, hw⟩ := hw
  refine j_goz hI (va_runV (As := [.int (xs (Int32.toNatClampNeg (x4 + (1 : Int32))))]) (rest := []) ⟨hx, hb, hml, hown, hts⟩ (kX10_drawn l hfl D z b7 (xs (Int32.toNatClampNeg (x4 + (1 : Int32)))) μ3 H.size _) (cwV 1 hts gL_law_X10_drawn rfl rfl rfl (by decide +kernel) ⟨Nat.le_of_ble_eq_true rfl, Nat.le_of_ble_eq_true rfl⟩) (j_prV2z hK hG hI hw (ci := 12) rfl hfs) rfl rfl hl.1 (by rw [hrb7]; rfl) (lv_room (Nat.le_of_ble_eq_true rfl)) dL_law_1409 ⟨by show _ ≤ 601024; omega, by show _ ≤ 7293033; omega⟩) (fun v5 μ6 H locs hw hI => ?_)
  refine W.eq (g2 := F0 m 1412 ls [.int v5]) rfl ?_
  refine lv_istore (lv' := [(6, .int v5), (5, .int v2), (0, va_rf (some b)), (1, va_rf x1), (2, va_rf x2), (3, va_rf x3), (4, .int x4)]) hx hb dL_law_1412 hl (by decide) rfl (fun ls hl => ?_)
  refine j_aload_n (r := x2) hx hb dL_law_1414 rfl (lv_at hl 4 rfl) ?_
  obtain ⟨b10, ⟨hrb10, hfs⟩, hw⟩ := hw
  refine j_goz hI (va_runV (As := []) (rest := []) ⟨hx, hb, hml, hown, hts⟩ (kX10_thrown l hfl D z b10  μ6 H.size _) (cwV 0 hts gL_law_X10_thrown rfl rfl rfl (by decide +kernel) ⟨Nat.le_of_ble_eq_true rfl, Nat.le_of_ble_eq_true rfl⟩) (j_prV2z hK hG hI hw (ci := 12) rfl hfs) rfl rfl hl.1 (by rw [hrb10]; rfl) (lv_room (Nat.le_of_ble_eq_true rfl)) dL_law_1415 ⟨by show _ ≤ 601024; omega, by show _ ≤ 7293033; omega⟩) (fun v8 μ9 H locs hw hI => ?_)
  refine W.eq (g2 := F0 m 1418 ls [.int v8]) rfl ?_
  refine lv_iload hx hb dL_law_1418 (lv_at hl 1 rfl) ?_
  refine lv_icmp_eq (tgt := 1425) hx hb dL_law_1420 (by decide) (fun hc => ?_) (fun hc => ?_)
  · have hw := hw.1 hc
    refine lv_iload hx hb dL_law_1425 (lv_at hl 1 rfl) ?_
    refine lv_if_ne (tgt := 1442) hx hb dL_law_1427 (by decide) (fun hc => ?_) (fun hc => ?_)
    · have hw := hw.1 hc
      refine lv_goto (tgt := 1855) hx hb dL_law_1442 (by decide) ?_
      exact kL_law_1855 hX hK23 hw hI (lv_sub hl [2, 3, 4, 5, 6] rfl) (by omega) (by omega)
    · have hw := hw.2 hc
      refine j_aload_n (r := x3) hx hb dL_law_1430 rfl (lv_at hl 5 rfl) ?_
      refine lv_iconst (v := (0)) hx hb dL_law_1431 (by decide) ?_
      obtain ⟨v11, hv11, hw⟩ := hw
      refine j_laldz (r := x3) hx hb hK hI hv11 dL_law_1432 ?_
      refine lv_iload hx hb dL_law_1433 (lv_at hl 0 rfl) ?_
      refine lv_i2l hx hb dL_law_1435 rfl ?_
      refine j_lcmp_eq (tgt := 1442) hx hb dL_law_1436 dL_law_1437 (by decide) (fun hc => ?_) (fun hc => ?_)
      · have hw := hw.1 hc
        refine lv_goto (tgt := 1855) hx hb dL_law_1442 (by decide) ?_
        exact kL_law_1855 hX hK23 hw hI (lv_sub hl [2, 3, 4, 5, 6] rfl) (by omega) (by omega)
      · have hw := hw.2 hc
        refine lv_iconst (v := (0)) hx hb dL_law_1440 (by decide) ?_
        exact (show False from hw).elim
  · have hw := hw.2 hc
    refine lv_iconst (v := (0)) hx hb dL_law_1423 (by decide) ?_
    exact (show False from hw).elim
set_option maxHeartbeats 4000000 in
set_option maxRecDepth 100000 in
theorem kL_law_1445 {b : Nat} {L : Nat} {xs : Nat → Int32} (hX : jXL D z p l s m b L xs meth c) {capC capS : Nat} {K23 : Option Nat → Option Nat → Option Nat → Int32 → jM → Prop} (hK23 : ∀ {x1 : Option Nat} {x2 : Option Nat} {x3 : Option Nat} {x4 : Int32} {μ : jM} {H : Heap} {locs : List Loc} {ls : Array Slot} {cells slots : Nat}, K23 x1 x2 x3 x4 μ → jIz D z (jAL s) s.heap μ H locs → lv_has ls 8 [(0, va_rf (some b)), (1, va_rf x1), (2, va_rf x2), (3, va_rf x3), (4, .int x4)] → cells + capC ≤ 601024 → slots + capS ≤ 7293033 → W p l e room_1 s m #[Value.ref b] below meth c H locs cells slots (lw_Z below #[Value.ref b] s) (F0 m 23 ls [])) {x1 : Option Nat} {x2 : Option Nat} {x3 : Option Nat} {x4 : Int32} {μ : jM} {H : Heap} {locs : List Loc} {ls : Array Slot} {cells slots : Nat} (hw : wL_law_1445 z b K23 L xs x1 x2 x3 x4 μ) (hI : jIz D z (jAL s) s.heap μ H locs) (hl : lv_has ls 8 [(0, va_rf (some b)), (1, va_rf x1), (2, va_rf x2), (3, va_rf x3), (4, .int x4)]) (hcn : cells + 1 + capC ≤ 601024) (hsn : slots + 6 + capS ≤ 7293033) : W p l e room_1 s m #[Value.ref b] below meth c H locs cells slots (lw_Z below #[Value.ref b] s) (F0 m 1445 ls []) := by
  unfold wL_law_1445 at hw
  obtain ⟨hx, hb, hml, hown, hts, hr, hlocks, hK, hG, hfl, hXs, hbl⟩ := id hX
  have hbA : ¬ jAL s b := Nat.not_le.mpr hbl
  refine j_aload_n (r := x1) hx hb dL_law_1445 rfl (lv_at hl 1 rfl) ?_
  refine j_aload_n (r := (some b)) hx hb dL_law_1446 rfl (lv_at hl 0 rfl) ?_
  refine lv_iload hx hb dL_law_1447 (lv_at hl 4 rfl) ?_
  refine lv_iconst (v := (1)) hx hb dL_law_1449 (by decide) ?_
  refine lv_iadd hx hb dL_law_1450 ?_
  obtain ⟨h1, hw⟩ := hw
  refine va_sld hx hb hXs hbl hbA hI.2.2.1 h1 dL_law_1451 ?_
  refine j_aload_n (r := x3) hx hb dL_law_1452 rfl (lv_at hl 3 rfl) ?_
  refine j_goXz hI (vx_runSX (As := [va_rf x1, .int (xs (Int32.toNatClampNeg (x4 + (1 : Int32)))), va_rf x3]) (rest := []) ⟨hx, hb, hml, hown, hts⟩ (kL_costOf l hfl D z x1 (xs (Int32.toNatClampNeg (x4 + (1 : Int32)))) x3 μ H.size _) (vx_cwSW 3 hts gL_law_L_costOf rfl rfl rfl (by decide +kernel) ⟨Nat.le_of_ble_eq_true rfl, Nat.le_of_ble_eq_true rfl⟩) (j_prS2z hK hG hI hw) rfl rfl hl.1 rfl (lv_room (Nat.le_of_ble_eq_true rfl)) dL_law_1453 ⟨by show _ ≤ 601024; omega, by show _ ≤ 7293033; omega⟩) (fun E ce q9 μX H locs hw hI hce hcv hcl => (show False from hw).elim) (fun v2 μ3 H locs hw hI => ?_)
  refine W.eq (g2 := F0 m 1456 ls [.int v2]) rfl ?_
  refine lv_istore (lv' := [(5, .int v2), (0, va_rf (some b)), (1, va_rf x1), (2, va_rf x2), (3, va_rf x3), (4, .int x4)]) hx hb dL_law_1456 hl (by decide) rfl (fun ls hl => ?_)
  refine j_aload_n (r := x2) hx hb dL_law_1458 rfl (lv_at hl 3 rfl) ?_
  refine j_aload_n (r := (some b)) hx hb dL_law_1459 rfl (lv_at hl 1 rfl) ?_
  refine lv_iload hx hb dL_law_1460 (lv_at hl 5 rfl) ?_
  refine lv_iconst (v := (1)) hx hb dL_law_1462 (by decide) ?_
  refine lv_iadd hx hb dL_law_1463 ?_
  obtain ⟨h4, hw⟩ := hw
  refine va_sld hx hb hXs hbl hbA hI.2.2.1 h4 dL_law_1464 ?_
  obtain ⟨b7, ⟨hrb7, hfs⟩, hw⟩ := hw
  refine j_goz hI (va_runV (As := [.int (xs (Int32.toNatClampNeg (x4 + (1 : Int32))))]) (rest := []) ⟨hx, hb, hml, hown, hts⟩ (kX10_costOf l hfl D z b7 (xs (Int32.toNatClampNeg (x4 + (1 : Int32)))) μ3 H.size _) (cwV 1 hts gL_law_X10_costOf rfl rfl rfl (by decide +kernel) ⟨Nat.le_of_ble_eq_true rfl, Nat.le_of_ble_eq_true rfl⟩) (j_prV2z hK hG hI hw (ci := 12) rfl hfs) rfl rfl hl.1 (by rw [hrb7]; rfl) (lv_room (Nat.le_of_ble_eq_true rfl)) dL_law_1465 ⟨by show _ ≤ 601024; omega, by show _ ≤ 7293033; omega⟩) (fun v5 μ6 H locs hw hI => ?_)
  refine W.eq (g2 := F0 m 1468 ls [.long v5]) rfl ?_
  refine lv_lstore (lv' := [(6, .long v5), (5, .int v2), (0, va_rf (some b)), (1, va_rf x1), (2, va_rf x2), (3, va_rf x3), (4, .int x4)]) hx hb dL_law_1468 hl (by decide) rfl (fun ls hl => ?_)
  refine j_aload_n (r := x2) hx hb dL_law_1470 rfl (lv_at hl 4 rfl) ?_
  obtain ⟨b10, ⟨hrb10, hfs⟩, hw⟩ := hw
  refine j_goz hI (va_runV (As := []) (rest := []) ⟨hx, hb, hml, hown, hts⟩ (kX10_thrown l hfl D z b10  μ6 H.size _) (cwV 0 hts gL_law_X10_thrown rfl rfl rfl (by decide +kernel) ⟨Nat.le_of_ble_eq_true rfl, Nat.le_of_ble_eq_true rfl⟩) (j_prV2z hK hG hI hw (ci := 12) rfl hfs) rfl rfl hl.1 (by rw [hrb10]; rfl) (lv_room (Nat.le_of_ble_eq_true rfl)) dL_law_1471 ⟨by show _ ≤ 601024; omega, by show _ ≤ 7293033; omega⟩) (fun v8 μ9 H locs hw hI => ?_)
  refine W.eq (g2 := F0 m 1474 ls [.int v8]) rfl ?_
  refine lv_iload hx hb dL_law_1474 (lv_at hl 1 rfl) ?_
  refine lv_icmp_eq (tgt := 1481) hx hb dL_law_1476 (by decide) (fun hc => ?_) (fun hc => ?_)
  · have hw := hw.1 hc
    refine lv_iload hx hb dL_law_1481 (lv_at hl 1 rfl) ?_
    refine lv_if_ne (tgt := 1497) hx hb dL_law_1483 (by decide) (fun hc => ?_) (fun hc => ?_)
    · have hw := hw.1 hc
      refine lv_goto (tgt := 1855) hx hb dL_law_1497 (by decide) ?_
      exact kL_law_1855 hX hK23 hw hI (lv_sub hl [2, 3, 4, 5, 6] rfl) (by omega) (by omega)
    · have hw := hw.2 hc
      refine j_aload_n (r := x3) hx hb dL_law_1486 rfl (lv_at hl 5 rfl) ?_
      refine lv_iconst (v := (0)) hx hb dL_law_1487 (by decide) ?_
      obtain ⟨v11, hv11, hw⟩ := hw
      refine j_laldz (r := x3) hx hb hK hI hv11 dL_law_1488 ?_
      refine lv_lload hx hb dL_law_1489 (lv_at hl 0 rfl) ?_
      refine j_lcmp_eq (tgt := 1497) hx hb dL_law_1491 dL_law_1492 (by decide) (fun hc => ?_) (fun hc => ?_)
      · have hw := hw.1 hc
        refine lv_goto (tgt := 1855) hx hb dL_law_1497 (by decide) ?_
        exact kL_law_1855 hX hK23 hw hI (lv_sub hl [2, 3, 4, 5, 6] rfl) (by omega) (by omega)
      · have hw := hw.2 hc
        refine lv_iconst (v := (0)) hx hb dL_law_1495 (by decide) ?_
        exact (show False from hw).elim
  · have hw := hw.2 hc
    refine lv_iconst (v := (0)) hx hb dL_law_1479 (by decide) ?_
    exact (show False from hw).elim
set_option maxHeartbeats 4000000 in
set_option maxRecDepth 100000 in
theorem kL_law_1500 {b : Nat} {L : Nat} {xs : Nat → Int32} (hX : jXL D z p l s m b L xs meth c) {capC capS : Nat} {K23 : Option Nat → Option Nat → Option Nat → Int32 → jM → Prop} (hK23 : ∀ {x1 : Option Nat} {x2 : Option Nat} {x3 : Option Nat} {x4 : Int32} {μ : jM} {H : Heap} {locs : List Loc} {ls : Array Slot} {cells slots : Nat}, K23 x1 x2 x3 x4 μ → jIz D z (jAL s) s.heap μ H locs → lv_has ls 8 [(0, va_rf (some b)), (1, va_rf x1), (2, va_rf x2), (3, va_rf x3), (4, .int x4)] → cells + capC ≤ 601024 → slots + capS ≤ 7293033 → W p l e room_1 s m #[Value.ref b] below meth c H locs cells slots (lw_Z below #[Value.ref b] s) (F0 m 23 ls [])) {x1 : Option Nat} {x2 : Option Nat} {x3 : Option Nat} {x4 : Int32} {μ : jM} {H : Heap} {locs : List Loc} {ls : Array Slot} {cells slots : Nat} (hw : wL_law_1500 z b K23 L xs x1 x2 x3 x4 μ) (hI : jIz D z (jAL s) s.heap μ H locs) (hl : lv_has ls 8 [(0, va_rf (some b)), (1, va_rf x1), (2, va_rf x2), (3, va_rf x3), (4, .int x4)]) (hcn : cells + 1 + capC ≤ 601024) (hsn : slots + 6 + capS ≤ 7293033) : W p l e room_1 s m #[Value.ref b] below meth c H locs cells slots (lw_Z below #[Value.ref b] s) (F0 m 1500 ls []) := by
  unfold wL_law_1500 at hw
  obtain ⟨hx, hb, hml, hown, hts, hr, hlocks, hK, hG, hfl, hXs, hbl⟩ := id hX
  have hbA : ¬ jAL s b := Nat.not_le.mpr hbl
  refine j_aload_n (r := x1) hx hb dL_law_1500 rfl (lv_at hl 1 rfl) ?_
  refine j_aload_n (r := (some b)) hx hb dL_law_1501 rfl (lv_at hl 0 rfl) ?_
  refine lv_iload hx hb dL_law_1502 (lv_at hl 4 rfl) ?_
  refine lv_iconst (v := (1)) hx hb dL_law_1504 (by decide) ?_
  refine lv_iadd hx hb dL_law_1505 ?_
  obtain ⟨h1, hw⟩ := hw
  refine va_sld hx hb hXs hbl hbA hI.2.2.1 h1 dL_law_1506 ?_
  refine j_aload_n (r := x3) hx hb dL_law_1507 rfl (lv_at hl 3 rfl) ?_
  refine j_goXz hI (vx_runSX (As := [va_rf x1, .int (xs (Int32.toNatClampNeg (x4 + (1 : Int32)))), va_rf x3]) (rest := []) ⟨hx, hb, hml, hown, hts⟩ (kL_interestOf l hfl D z x1 (xs (Int32.toNatClampNeg (x4 + (1 : Int32)))) x3 μ H.size _) (vx_cwSW 3 hts gL_law_L_interestOf rfl rfl rfl (by decide +kernel) ⟨Nat.le_of_ble_eq_true rfl, Nat.le_of_ble_eq_true rfl⟩) (j_prS2z hK hG hI hw) rfl rfl hl.1 rfl (lv_room (Nat.le_of_ble_eq_true rfl)) dL_law_1508 ⟨by show _ ≤ 601024; omega, by show _ ≤ 7293033; omega⟩) (fun E ce q9 μX H locs hw hI hce hcv hcl => (show False from hw).elim) (fun v2 μ3 H locs hw hI => ?_)
  refine W.eq (g2 := F0 m 1511 ls [.int v2]) rfl ?_
  refine lv_istore (lv' := [(5, .int v2), (0, va_rf (some b)), (1, va_rf x1), (2, va_rf x2), (3, va_rf x3), (4, .int x4)]) hx hb dL_law_1511 hl (by decide) rfl (fun ls hl => ?_)
  refine j_aload_n (r := x2) hx hb dL_law_1513 rfl (lv_at hl 3 rfl) ?_
  refine j_aload_n (r := (some b)) hx hb dL_law_1514 rfl (lv_at hl 1 rfl) ?_
  refine lv_iload hx hb dL_law_1515 (lv_at hl 5 rfl) ?_
  refine lv_iconst (v := (1)) hx hb dL_law_1517 (by decide) ?_
  refine lv_iadd hx hb dL_law_1518 ?_
  obtain ⟨h4, hw⟩ := hw
  refine va_sld hx hb hXs hbl hbA hI.2.2.1 h4 dL_law_1519 ?_
  obtain ⟨b7, ⟨hrb7, hfs⟩, hw⟩ := hw
  refine j_goz hI (va_runV (As := [.int (xs (Int32.toNatClampNeg (x4 + (1 : Int32))))]) (rest := []) ⟨hx, hb, hml, hown, hts⟩ (kX10_interestOf l hfl D z b7 (xs (Int32.toNatClampNeg (x4 + (1 : Int32)))) μ3 H.size _) (cwV 1 hts gL_law_X10_interestOf rfl rfl rfl (by decide +kernel) ⟨Nat.le_of_ble_eq_true rfl, Nat.le_of_ble_eq_true rfl⟩) (j_prV2z hK hG hI hw (ci := 12) rfl hfs) rfl rfl hl.1 (by rw [hrb7]; rfl) (lv_room (Nat.le_of_ble_eq_true rfl)) dL_law_1520 ⟨by show _ ≤ 601024; omega, by show _ ≤ 7293033; omega⟩) (fun v5 μ6 H locs hw hI => ?_)
  refine W.eq (g2 := F0 m 1523 ls [.long v5]) rfl ?_
  refine lv_lstore (lv' := [(6, .long v5), (5, .int v2), (0, va_rf (some b)), (1, va_rf x1), (2, va_rf x2), (3, va_rf x3), (4, .int x4)]) hx hb dL_law_1523 hl (by decide) rfl (fun ls hl => ?_)
  refine j_aload_n (r := x2) hx hb dL_law_1525 rfl (lv_at hl 4 rfl) ?_
  obtain ⟨b10, ⟨hrb10, hfs⟩, hw⟩ := hw
  refine j_goz hI (va_runV (As := []) (rest := []) ⟨hx, hb, hml, hown, hts⟩ (kX10_thrown l hfl D z b10  μ6 H.size _) (cwV 0 hts gL_law_X10_thrown rfl rfl rfl (by decide +kernel) ⟨Nat.le_of_ble_eq_true rfl, Nat.le_of_ble_eq_true rfl⟩) (j_prV2z hK hG hI hw (ci := 12) rfl hfs) rfl rfl hl.1 (by rw [hrb10]; rfl) (lv_room (Nat.le_of_ble_eq_true rfl)) dL_law_1526 ⟨by show _ ≤ 601024; omega, by show _ ≤ 7293033; omega⟩) (fun v8 μ9 H locs hw hI => ?_)
  refine W.eq (g2 := F0 m 1529 ls [.int v8]) rfl ?_
  refine lv_iload hx hb dL_law_1529 (lv_at hl 1 rfl) ?_
  refine lv_icmp_eq (tgt := 1536) hx hb dL_law_1531 (by decide) (fun hc => ?_) (fun hc => ?_)
  · have hw := hw.1 hc
    refine lv_iload hx hb dL_law_1536 (lv_at hl 1 rfl) ?_
    refine lv_if_ne (tgt := 1552) hx hb dL_law_1538 (by decide) (fun hc => ?_) (fun hc => ?_)
    · have hw := hw.1 hc
      refine lv_goto (tgt := 1855) hx hb dL_law_1552 (by decide) ?_
      exact kL_law_1855 hX hK23 hw hI (lv_sub hl [2, 3, 4, 5, 6] rfl) (by omega) (by omega)
    · have hw := hw.2 hc
      refine j_aload_n (r := x3) hx hb dL_law_1541 rfl (lv_at hl 5 rfl) ?_
      refine lv_iconst (v := (0)) hx hb dL_law_1542 (by decide) ?_
      obtain ⟨v11, hv11, hw⟩ := hw
      refine j_laldz (r := x3) hx hb hK hI hv11 dL_law_1543 ?_
      refine lv_lload hx hb dL_law_1544 (lv_at hl 0 rfl) ?_
      refine j_lcmp_eq (tgt := 1552) hx hb dL_law_1546 dL_law_1547 (by decide) (fun hc => ?_) (fun hc => ?_)
      · have hw := hw.1 hc
        refine lv_goto (tgt := 1855) hx hb dL_law_1552 (by decide) ?_
        exact kL_law_1855 hX hK23 hw hI (lv_sub hl [2, 3, 4, 5, 6] rfl) (by omega) (by omega)
      · have hw := hw.2 hc
        refine lv_iconst (v := (0)) hx hb dL_law_1550 (by decide) ?_
        exact (show False from hw).elim
  · have hw := hw.2 hc
    refine lv_iconst (v := (0)) hx hb dL_law_1534 (by decide) ?_
    exact (show False from hw).elim
set_option maxHeartbeats 4000000 in
set_option maxRecDepth 100000 in
theorem kL_law_1555 {b : Nat} {L : Nat} {xs : Nat → Int32} (hX : jXL D z p l s m b L xs meth c) {capC capS : Nat} {K23 : Option Nat → Option Nat → Option Nat → Int32 → jM → Prop} (hK23 : ∀ {x1 : Option Nat} {x2 : Option Nat} {x3 : Option Nat} {x4 : Int32} {μ : jM} {H : Heap} {locs : List Loc} {ls : Array Slot} {cells slots : Nat}, K23 x1 x2 x3 x4 μ → jIz D z (jAL s) s.heap μ H locs → lv_has ls 8 [(0, va_rf (some b)), (1, va_rf x1), (2, va_rf x2), (3, va_rf x3), (4, .int x4)] → cells + capC ≤ 601024 → slots + capS ≤ 7293033 → W p l e room_1 s m #[Value.ref b] below meth c H locs cells slots (lw_Z below #[Value.ref b] s) (F0 m 23 ls [])) {x1 : Option Nat} {x2 : Option Nat} {x3 : Option Nat} {x4 : Int32} {μ : jM} {H : Heap} {locs : List Loc} {ls : Array Slot} {cells slots : Nat} (hw : wL_law_1555 z b K23 L xs x1 x2 x3 x4 μ) (hI : jIz D z (jAL s) s.heap μ H locs) (hl : lv_has ls 8 [(0, va_rf (some b)), (1, va_rf x1), (2, va_rf x2), (3, va_rf x3), (4, .int x4)]) (hcn : cells + 2 + capC ≤ 601024) (hsn : slots + 12 + capS ≤ 7293033) : W p l e room_1 s m #[Value.ref b] below meth c H locs cells slots (lw_Z below #[Value.ref b] s) (F0 m 1555 ls []) := by
  unfold wL_law_1555 at hw
  obtain ⟨hx, hb, hml, hown, hts, hr, hlocks, hK, hG, hfl, hXs, hbl⟩ := id hX
  have hbA : ¬ jAL s b := Nat.not_le.mpr hbl
  refine j_aload_n (r := x1) hx hb dL_law_1555 rfl (lv_at hl 1 rfl) ?_
  refine j_aload_n (r := (some b)) hx hb dL_law_1556 rfl (lv_at hl 0 rfl) ?_
  refine lv_iload hx hb dL_law_1557 (lv_at hl 4 rfl) ?_
  refine lv_iconst (v := (1)) hx hb dL_law_1559 (by decide) ?_
  refine lv_iadd hx hb dL_law_1560 ?_
  obtain ⟨h1, hw⟩ := hw
  refine va_sld hx hb hXs hbl hbA hI.2.2.1 h1 dL_law_1561 ?_
  refine j_aload_n (r := x3) hx hb dL_law_1562 rfl (lv_at hl 3 rfl) ?_
  refine j_goXz hI (vx_runSX (As := [va_rf x1, .int (xs (Int32.toNatClampNeg (x4 + (1 : Int32)))), va_rf x3]) (rest := []) ⟨hx, hb, hml, hown, hts⟩ (kL_poolInterest l hfl D z x1 (xs (Int32.toNatClampNeg (x4 + (1 : Int32)))) x3 μ H.size _) (vx_cwSW 3 hts gL_law_L_poolInterest rfl rfl rfl (by decide +kernel) ⟨Nat.le_of_ble_eq_true rfl, Nat.le_of_ble_eq_true rfl⟩) (j_prS2z hK hG hI hw) rfl rfl hl.1 rfl (lv_room (Nat.le_of_ble_eq_true rfl)) dL_law_1563 ⟨by show _ ≤ 601024; omega, by show _ ≤ 7293033; omega⟩) (fun E ce q9 μX H locs hw hI hce hcv hcl => (show False from hw).elim) (fun v2 μ3 H locs hw hI => ?_)
  refine W.eq (g2 := F0 m 1566 ls [.int v2]) rfl ?_
  refine lv_istore (lv' := [(5, .int v2), (0, va_rf (some b)), (1, va_rf x1), (2, va_rf x2), (3, va_rf x3), (4, .int x4)]) hx hb dL_law_1566 hl (by decide) rfl (fun ls hl => ?_)
  refine j_aload_n (r := x2) hx hb dL_law_1568 rfl (lv_at hl 3 rfl) ?_
  refine j_aload_n (r := (some b)) hx hb dL_law_1569 rfl (lv_at hl 1 rfl) ?_
  refine lv_iload hx hb dL_law_1570 (lv_at hl 5 rfl) ?_
  refine lv_iconst (v := (1)) hx hb dL_law_1572 (by decide) ?_
  refine lv_iadd hx hb dL_law_1573 ?_
  obtain ⟨h4, hw⟩ := hw
  refine va_sld hx hb hXs hbl hbA hI.2.2.1 h4 dL_law_1574 ?_
  obtain ⟨b7, ⟨hrb7, hfs⟩, hw⟩ := hw
  refine j_goz hI (va_runV (As := [.int (xs (Int32.toNatClampNeg (x4 + (1 : Int32))))]) (rest := []) ⟨hx, hb, hml, hown, hts⟩ (kX10_poolInterest l hfl D z b7 (xs (Int32.toNatClampNeg (x4 + (1 : Int32)))) μ3 H.size _) (cwV 1 hts gL_law_X10_poolInterest rfl rfl rfl (by decide +kernel) ⟨Nat.le_of_ble_eq_true rfl, Nat.le_of_ble_eq_true rfl⟩) (j_prV2z hK hG hI hw (ci := 12) rfl hfs) rfl rfl hl.1 (by rw [hrb7]; rfl) (lv_room (Nat.le_of_ble_eq_true rfl)) dL_law_1575 ⟨by show _ ≤ 601024; omega, by show _ ≤ 7293033; omega⟩) (fun v5 μ6 H locs hw hI => ?_)
  refine W.eq (g2 := F0 m 1578 ls [.long v5]) rfl ?_
  refine lv_lstore (lv' := [(6, .long v5), (5, .int v2), (0, va_rf (some b)), (1, va_rf x1), (2, va_rf x2), (3, va_rf x3), (4, .int x4)]) hx hb dL_law_1578 hl (by decide) rfl (fun ls hl => ?_)
  refine j_aload_n (r := x2) hx hb dL_law_1580 rfl (lv_at hl 4 rfl) ?_
  obtain ⟨b10, ⟨hrb10, hfs⟩, hw⟩ := hw
  refine j_goz hI (va_runV (As := []) (rest := []) ⟨hx, hb, hml, hown, hts⟩ (kX10_thrown l hfl D z b10  μ6 H.size _) (cwV 0 hts gL_law_X10_thrown rfl rfl rfl (by decide +kernel) ⟨Nat.le_of_ble_eq_true rfl, Nat.le_of_ble_eq_true rfl⟩) (j_prV2z hK hG hI hw (ci := 12) rfl hfs) rfl rfl hl.1 (by rw [hrb10]; rfl) (lv_room (Nat.le_of_ble_eq_true rfl)) dL_law_1581 ⟨by show _ ≤ 601024; omega, by show _ ≤ 7293033; omega⟩) (fun v8 μ9 H locs hw hI => ?_)
  refine W.eq (g2 := F0 m 1584 ls [.int v8]) rfl ?_
  refine lv_iload hx hb dL_law_1584 (lv_at hl 1 rfl) ?_
  refine lv_icmp_eq (tgt := 1591) hx hb dL_law_1586 (by decide) (fun hc => ?_) (fun hc => ?_)
  · have hw := hw.1 hc
    refine lv_iload hx hb dL_law_1591 (lv_at hl 1 rfl) ?_
    refine lv_if_ne (tgt := 1607) hx hb dL_law_1593 (by decide) (fun hc => ?_) (fun hc => ?_)
    · have hw := hw.1 hc
      refine lv_goto (tgt := 1855) hx hb dL_law_1607 (by decide) ?_
      exact kL_law_1855 hX hK23 hw hI (lv_sub hl [2, 3, 4, 5, 6] rfl) (by omega) (by omega)
    · have hw := hw.2 hc
      refine j_aload_n (r := x3) hx hb dL_law_1596 rfl (lv_at hl 5 rfl) ?_
      refine lv_iconst (v := (0)) hx hb dL_law_1597 (by decide) ?_
      obtain ⟨v11, hv11, hw⟩ := hw
      refine j_laldz (r := x3) hx hb hK hI hv11 dL_law_1598 ?_
      refine lv_lload hx hb dL_law_1599 (lv_at hl 0 rfl) ?_
      refine j_lcmp_eq (tgt := 1607) hx hb dL_law_1601 dL_law_1602 (by decide) (fun hc => ?_) (fun hc => ?_)
      · have hw := hw.1 hc
        refine lv_goto (tgt := 1855) hx hb dL_law_1607 (by decide) ?_
        exact kL_law_1855 hX hK23 hw hI (lv_sub hl [2, 3, 4, 5, 6] rfl) (by omega) (by omega)
      · have hw := hw.2 hc
        refine lv_iconst (v := (0)) hx hb dL_law_1605 (by decide) ?_
        exact (show False from hw).elim
  · have hw := hw.2 hc
    refine lv_iconst (v := (0)) hx hb dL_law_1589 (by decide) ?_
    exact (show False from hw).elim
set_option maxHeartbeats 4000000 in
set_option maxRecDepth 100000 in
theorem kL_law_1610 {b : Nat} {L : Nat} {xs : Nat → Int32} (hX : jXL D z p l s m b L xs meth c) {capC capS : Nat} {K23 : Option Nat → Option Nat → Option Nat → Int32 → jM → Prop} (hK23 : ∀ {x1 : Option Nat} {x2 : Option Nat} {x3 : Option Nat} {x4 : Int32} {μ : jM} {H : Heap} {locs : List Loc} {ls : Array Slot} {cells slots : Nat}, K23 x1 x2 x3 x4 μ → jIz D z (jAL s) s.heap μ H locs → lv_has ls 8 [(0, va_rf (some b)), (1, va_rf x1), (2, va_rf x2), (3, va_rf x3), (4, .int x4)] → cells + capC ≤ 601024 → slots + capS ≤ 7293033 → W p l e room_1 s m #[Value.ref b] below meth c H locs cells slots (lw_Z below #[Value.ref b] s) (F0 m 23 ls [])) {x1 : Option Nat} {x2 : Option Nat} {x3 : Option Nat} {x4 : Int32} {μ : jM} {H : Heap} {locs : List Loc} {ls : Array Slot} {cells slots : Nat} (hw : wL_law_1610 z b K23 L xs x1 x2 x3 x4 μ) (hI : jIz D z (jAL s) s.heap μ H locs) (hl : lv_has ls 8 [(0, va_rf (some b)), (1, va_rf x1), (2, va_rf x2), (3, va_rf x3), (4, .int x4)]) (hcn : cells + 1 + capC ≤ 601024) (hsn : slots + 6 + capS ≤ 7293033) : W p l e room_1 s m #[Value.ref b] below meth c H locs cells slots (lw_Z below #[Value.ref b] s) (F0 m 1610 ls []) := by
  unfold wL_law_1610 at hw
  obtain ⟨hx, hb, hml, hown, hts, hr, hlocks, hK, hG, hfl, hXs, hbl⟩ := id hX
  have hbA : ¬ jAL s b := Nat.not_le.mpr hbl
  refine j_aload_n (r := x1) hx hb dL_law_1610 rfl (lv_at hl 1 rfl) ?_
  refine j_aload_n (r := (some b)) hx hb dL_law_1611 rfl (lv_at hl 0 rfl) ?_
  refine lv_iload hx hb dL_law_1612 (lv_at hl 4 rfl) ?_
  refine lv_iconst (v := (1)) hx hb dL_law_1614 (by decide) ?_
  refine lv_iadd hx hb dL_law_1615 ?_
  obtain ⟨h1, hw⟩ := hw
  refine va_sld hx hb hXs hbl hbA hI.2.2.1 h1 dL_law_1616 ?_
  refine j_aload_n (r := x3) hx hb dL_law_1617 rfl (lv_at hl 3 rfl) ?_
  refine j_goXz hI (vx_runSX (As := [va_rf x1, .int (xs (Int32.toNatClampNeg (x4 + (1 : Int32)))), va_rf x3]) (rest := []) ⟨hx, hb, hml, hown, hts⟩ (kL_afterSweep l hfl D z x1 (xs (Int32.toNatClampNeg (x4 + (1 : Int32)))) x3 μ H.size _) (vx_cwSW 3 hts gL_law_L_afterSweep rfl rfl rfl (by decide +kernel) ⟨Nat.le_of_ble_eq_true rfl, Nat.le_of_ble_eq_true rfl⟩) (j_prS2z hK hG hI hw) rfl rfl hl.1 rfl (lv_room (Nat.le_of_ble_eq_true rfl)) dL_law_1618 ⟨by show _ ≤ 601024; omega, by show _ ≤ 7293033; omega⟩) (fun E ce q9 μX H locs hw hI hce hcv hcl => (show False from hw).elim) (fun v2 μ3 H locs hw hI => ?_)
  refine W.eq (g2 := F0 m 1621 ls [.int v2]) rfl ?_
  refine lv_istore (lv' := [(5, .int v2), (0, va_rf (some b)), (1, va_rf x1), (2, va_rf x2), (3, va_rf x3), (4, .int x4)]) hx hb dL_law_1621 hl (by decide) rfl (fun ls hl => ?_)
  refine j_aload_n (r := x2) hx hb dL_law_1623 rfl (lv_at hl 3 rfl) ?_
  refine j_aload_n (r := (some b)) hx hb dL_law_1624 rfl (lv_at hl 1 rfl) ?_
  refine lv_iload hx hb dL_law_1625 (lv_at hl 5 rfl) ?_
  refine lv_iconst (v := (1)) hx hb dL_law_1627 (by decide) ?_
  refine lv_iadd hx hb dL_law_1628 ?_
  obtain ⟨h4, hw⟩ := hw
  refine va_sld hx hb hXs hbl hbA hI.2.2.1 h4 dL_law_1629 ?_
  obtain ⟨b7, ⟨hrb7, hfs⟩, hw⟩ := hw
  refine j_goz hI (va_runV (As := [.int (xs (Int32.toNatClampNeg (x4 + (1 : Int32))))]) (rest := []) ⟨hx, hb, hml, hown, hts⟩ (kX10_afterSweep l hfl D z b7 (xs (Int32.toNatClampNeg (x4 + (1 : Int32)))) μ3 H.size _) (cwV 1 hts gL_law_X10_afterSweep rfl rfl rfl (by decide +kernel) ⟨Nat.le_of_ble_eq_true rfl, Nat.le_of_ble_eq_true rfl⟩) (j_prV2z hK hG hI hw (ci := 12) rfl hfs) rfl rfl hl.1 (by rw [hrb7]; rfl) (lv_room (Nat.le_of_ble_eq_true rfl)) dL_law_1630 ⟨by show _ ≤ 601024; omega, by show _ ≤ 7293033; omega⟩) (fun v5 μ6 H locs hw hI => ?_)
  refine W.eq (g2 := F0 m 1633 ls [.long v5]) rfl ?_
  refine lv_lstore (lv' := [(6, .long v5), (5, .int v2), (0, va_rf (some b)), (1, va_rf x1), (2, va_rf x2), (3, va_rf x3), (4, .int x4)]) hx hb dL_law_1633 hl (by decide) rfl (fun ls hl => ?_)
  refine j_aload_n (r := x2) hx hb dL_law_1635 rfl (lv_at hl 4 rfl) ?_
  obtain ⟨b10, ⟨hrb10, hfs⟩, hw⟩ := hw
  refine j_goz hI (va_runV (As := []) (rest := []) ⟨hx, hb, hml, hown, hts⟩ (kX10_thrown l hfl D z b10  μ6 H.size _) (cwV 0 hts gL_law_X10_thrown rfl rfl rfl (by decide +kernel) ⟨Nat.le_of_ble_eq_true rfl, Nat.le_of_ble_eq_true rfl⟩) (j_prV2z hK hG hI hw (ci := 12) rfl hfs) rfl rfl hl.1 (by rw [hrb10]; rfl) (lv_room (Nat.le_of_ble_eq_true rfl)) dL_law_1636 ⟨by show _ ≤ 601024; omega, by show _ ≤ 7293033; omega⟩) (fun v8 μ9 H locs hw hI => ?_)
  refine W.eq (g2 := F0 m 1639 ls [.int v8]) rfl ?_
  refine lv_iload hx hb dL_law_1639 (lv_at hl 1 rfl) ?_
  refine lv_icmp_eq (tgt := 1646) hx hb dL_law_1641 (by decide) (fun hc => ?_) (fun hc => ?_)
  · have hw := hw.1 hc
    refine lv_iload hx hb dL_law_1646 (lv_at hl 1 rfl) ?_
    refine lv_if_ne (tgt := 1662) hx hb dL_law_1648 (by decide) (fun hc => ?_) (fun hc => ?_)
    · have hw := hw.1 hc
      refine lv_goto (tgt := 1855) hx hb dL_law_1662 (by decide) ?_
      exact kL_law_1855 hX hK23 hw hI (lv_sub hl [2, 3, 4, 5, 6] rfl) (by omega) (by omega)
    · have hw := hw.2 hc
      refine j_aload_n (r := x3) hx hb dL_law_1651 rfl (lv_at hl 5 rfl) ?_
      refine lv_iconst (v := (0)) hx hb dL_law_1652 (by decide) ?_
      obtain ⟨v11, hv11, hw⟩ := hw
      refine j_laldz (r := x3) hx hb hK hI hv11 dL_law_1653 ?_
      refine lv_lload hx hb dL_law_1654 (lv_at hl 0 rfl) ?_
      refine j_lcmp_eq (tgt := 1662) hx hb dL_law_1656 dL_law_1657 (by decide) (fun hc => ?_) (fun hc => ?_)
      · have hw := hw.1 hc
        refine lv_goto (tgt := 1855) hx hb dL_law_1662 (by decide) ?_
        exact kL_law_1855 hX hK23 hw hI (lv_sub hl [2, 3, 4, 5, 6] rfl) (by omega) (by omega)
      · have hw := hw.2 hc
        refine lv_iconst (v := (0)) hx hb dL_law_1660 (by decide) ?_
        exact (show False from hw).elim
  · have hw := hw.2 hc
    refine lv_iconst (v := (0)) hx hb dL_law_1644 (by decide) ?_
    exact (show False from hw).elim
set_option maxHeartbeats 4000000 in
set_option maxRecDepth 100000 in
theorem kL_law_1665 {b : Nat} {L : Nat} {xs : Nat → Int32} (hX : jXL D z p l s m b L xs meth c) {capC capS : Nat} {K23 : Option Nat → Option Nat → Option Nat → Int32 → jM → Prop} (hK23 : ∀ {x1 : Option Nat} {x2 : Option Nat} {x3 : Option Nat} {x4 : Int32} {μ : jM} {H : Heap} {locs : List Loc} {ls : Array Slot} {cells slots : Nat}, K23 x1 x2 x3 x4 μ → jIz D z (jAL s) s.heap μ H locs → lv_has ls 8 [(0, va_rf (some b)), (1, va_rf x1), (2, va_rf x2), (3, va_rf x3), (4, .int x4)] → cells + capC ≤ 601024 → slots + capS ≤ 7293033 → W p l e room_1 s m #[Value.ref b] below meth c H locs cells slots (lw_Z below #[Value.ref b] s) (F0 m 23 ls [])) {x1 : Option Nat} {x2 : Option Nat} {x3 : Option Nat} {x4 : Int32} {μ : jM} {H : Heap} {locs : List Loc} {ls : Array Slot} {cells slots : Nat} (hw : wL_law_1665 z b K23 L xs x1 x2 x3 x4 μ) (hI : jIz D z (jAL s) s.heap μ H locs) (hl : lv_has ls 8 [(0, va_rf (some b)), (1, va_rf x1), (2, va_rf x2), (3, va_rf x3), (4, .int x4)]) (hcn : cells + 1 + capC ≤ 601024) (hsn : slots + 6 + capS ≤ 7293033) : W p l e room_1 s m #[Value.ref b] below meth c H locs cells slots (lw_Z below #[Value.ref b] s) (F0 m 1665 ls []) := by
  unfold wL_law_1665 at hw
  obtain ⟨hx, hb, hml, hown, hts, hr, hlocks, hK, hG, hfl, hXs, hbl⟩ := id hX
  have hbA : ¬ jAL s b := Nat.not_le.mpr hbl
  refine j_aload_n (r := x1) hx hb dL_law_1665 rfl (lv_at hl 1 rfl) ?_
  refine j_aload_n (r := (some b)) hx hb dL_law_1666 rfl (lv_at hl 0 rfl) ?_
  refine lv_iload hx hb dL_law_1667 (lv_at hl 4 rfl) ?_
  refine lv_iconst (v := (1)) hx hb dL_law_1669 (by decide) ?_
  refine lv_iadd hx hb dL_law_1670 ?_
  obtain ⟨h1, hw⟩ := hw
  refine va_sld hx hb hXs hbl hbA hI.2.2.1 h1 dL_law_1671 ?_
  refine j_aload_n (r := x3) hx hb dL_law_1672 rfl (lv_at hl 3 rfl) ?_
  refine j_goXz hI (vx_runSX (As := [va_rf x1, .int (xs (Int32.toNatClampNeg (x4 + (1 : Int32)))), va_rf x3]) (rest := []) ⟨hx, hb, hml, hown, hts⟩ (kL_afterSweepByMoves l hfl D z x1 (xs (Int32.toNatClampNeg (x4 + (1 : Int32)))) x3 μ H.size _) (vx_cwSW 3 hts gL_law_L_afterSweepByMoves rfl rfl rfl (by decide +kernel) ⟨Nat.le_of_ble_eq_true rfl, Nat.le_of_ble_eq_true rfl⟩) (j_prS2z hK hG hI hw) rfl rfl hl.1 rfl (lv_room (Nat.le_of_ble_eq_true rfl)) dL_law_1673 ⟨by show _ ≤ 601024; omega, by show _ ≤ 7293033; omega⟩) (fun E ce q9 μX H locs hw hI hce hcv hcl => (show False from hw).elim) (fun v2 μ3 H locs hw hI => ?_)
  refine W.eq (g2 := F0 m 1676 ls [.int v2]) rfl ?_
  refine lv_istore (lv' := [(5, .int v2), (0, va_rf (some b)), (1, va_rf x1), (2, va_rf x2), (3, va_rf x3), (4, .int x4)]) hx hb dL_law_1676 hl (by decide) rfl (fun ls hl => ?_)
  refine j_aload_n (r := x2) hx hb dL_law_1678 rfl (lv_at hl 3 rfl) ?_
  refine j_aload_n (r := (some b)) hx hb dL_law_1679 rfl (lv_at hl 1 rfl) ?_
  refine lv_iload hx hb dL_law_1680 (lv_at hl 5 rfl) ?_
  refine lv_iconst (v := (1)) hx hb dL_law_1682 (by decide) ?_
  refine lv_iadd hx hb dL_law_1683 ?_
  obtain ⟨h4, hw⟩ := hw
  refine va_sld hx hb hXs hbl hbA hI.2.2.1 h4 dL_law_1684 ?_
  obtain ⟨b7, ⟨hrb7, hfs⟩, hw⟩ := hw
  refine j_goz hI (va_runV (As := [.int (xs (Int32.toNatClampNeg (x4 + (1 : Int32))))]) (rest := []) ⟨hx, hb, hml, hown, hts⟩ (kX10_afterSweepByMoves l hfl D z b7 (xs (Int32.toNatClampNeg (x4 + (1 : Int32)))) μ3 H.size _) (cwV 1 hts gL_law_X10_afterSweepByMoves rfl rfl rfl (by decide +kernel) ⟨Nat.le_of_ble_eq_true rfl, Nat.le_of_ble_eq_true rfl⟩) (j_prV2z hK hG hI hw (ci := 12) rfl hfs) rfl rfl hl.1 (by rw [hrb7]; rfl) (lv_room (Nat.le_of_ble_eq_true rfl)) dL_law_1685 ⟨by show _ ≤ 601024; omega, by show _ ≤ 7293033; omega⟩) (fun v5 μ6 H locs hw hI => ?_)
  refine W.eq (g2 := F0 m 1688 ls [.long v5]) rfl ?_
  refine lv_lstore (lv' := [(6, .long v5), (5, .int v2), (0, va_rf (some b)), (1, va_rf x1), (2, va_rf x2), (3, va_rf x3), (4, .int x4)]) hx hb dL_law_1688 hl (by decide) rfl (fun ls hl => ?_)
  refine j_aload_n (r := x2) hx hb dL_law_1690 rfl (lv_at hl 4 rfl) ?_
  obtain ⟨b10, ⟨hrb10, hfs⟩, hw⟩ := hw
  refine j_goz hI (va_runV (As := []) (rest := []) ⟨hx, hb, hml, hown, hts⟩ (kX10_thrown l hfl D z b10  μ6 H.size _) (cwV 0 hts gL_law_X10_thrown rfl rfl rfl (by decide +kernel) ⟨Nat.le_of_ble_eq_true rfl, Nat.le_of_ble_eq_true rfl⟩) (j_prV2z hK hG hI hw (ci := 12) rfl hfs) rfl rfl hl.1 (by rw [hrb10]; rfl) (lv_room (Nat.le_of_ble_eq_true rfl)) dL_law_1691 ⟨by show _ ≤ 601024; omega, by show _ ≤ 7293033; omega⟩) (fun v8 μ9 H locs hw hI => ?_)
  refine W.eq (g2 := F0 m 1694 ls [.int v8]) rfl ?_
  refine lv_iload hx hb dL_law_1694 (lv_at hl 1 rfl) ?_
  refine lv_icmp_eq (tgt := 1701) hx hb dL_law_1696 (by decide) (fun hc => ?_) (fun hc => ?_)
  · have hw := hw.1 hc
    refine lv_iload hx hb dL_law_1701 (lv_at hl 1 rfl) ?_
    refine lv_if_ne (tgt := 1717) hx hb dL_law_1703 (by decide) (fun hc => ?_) (fun hc => ?_)
    · have hw := hw.1 hc
      refine lv_goto (tgt := 1855) hx hb dL_law_1717 (by decide) ?_
      exact kL_law_1855 hX hK23 hw hI (lv_sub hl [2, 3, 4, 5, 6] rfl) (by omega) (by omega)
    · have hw := hw.2 hc
      refine j_aload_n (r := x3) hx hb dL_law_1706 rfl (lv_at hl 5 rfl) ?_
      refine lv_iconst (v := (0)) hx hb dL_law_1707 (by decide) ?_
      obtain ⟨v11, hv11, hw⟩ := hw
      refine j_laldz (r := x3) hx hb hK hI hv11 dL_law_1708 ?_
      refine lv_lload hx hb dL_law_1709 (lv_at hl 0 rfl) ?_
      refine j_lcmp_eq (tgt := 1717) hx hb dL_law_1711 dL_law_1712 (by decide) (fun hc => ?_) (fun hc => ?_)
      · have hw := hw.1 hc
        refine lv_goto (tgt := 1855) hx hb dL_law_1717 (by decide) ?_
        exact kL_law_1855 hX hK23 hw hI (lv_sub hl [2, 3, 4, 5, 6] rfl) (by omega) (by omega)
      · have hw := hw.2 hc
        refine lv_iconst (v := (0)) hx hb dL_law_1715 (by decide) ?_
        exact (show False from hw).elim
  · have hw := hw.2 hc
    refine lv_iconst (v := (0)) hx hb dL_law_1699 (by decide) ?_
    exact (show False from hw).elim
set_option maxHeartbeats 4000000 in
set_option maxRecDepth 100000 in
theorem kL_law_1720 {b : Nat} {L : Nat} {xs : Nat → Int32} (hX : jXL D z p l s m b L xs meth c) {capC capS : Nat} {K23 : Option Nat → Option Nat → Option Nat → Int32 → jM → Prop} (hK23 : ∀ {x1 : Option Nat} {x2 : Option Nat} {x3 : Option Nat} {x4 : Int32} {μ : jM} {H : Heap} {locs : List Loc} {ls : Array Slot} {cells slots : Nat}, K23 x1 x2 x3 x4 μ → jIz D z (jAL s) s.heap μ H locs → lv_has ls 8 [(0, va_rf (some b)), (1, va_rf x1), (2, va_rf x2), (3, va_rf x3), (4, .int x4)] → cells + capC ≤ 601024 → slots + capS ≤ 7293033 → W p l e room_1 s m #[Value.ref b] below meth c H locs cells slots (lw_Z below #[Value.ref b] s) (F0 m 23 ls [])) {x1 : Option Nat} {x2 : Option Nat} {x3 : Option Nat} {x4 : Int32} {μ : jM} {H : Heap} {locs : List Loc} {ls : Array Slot} {cells slots : Nat} (hw : wL_law_1720 z b K23 L xs x1 x2 x3 x4 μ) (hI : jIz D z (jAL s) s.heap μ H locs) (hl : lv_has ls 8 [(0, va_rf (some b)), (1, va_rf x1), (2, va_rf x2), (3, va_rf x3), (4, .int x4)]) (hcn : cells + 2 + capC ≤ 601024) (hsn : slots + 12 + capS ≤ 7293033) : W p l e room_1 s m #[Value.ref b] below meth c H locs cells slots (lw_Z below #[Value.ref b] s) (F0 m 1720 ls []) := by
  unfold wL_law_1720 at hw
  obtain ⟨hx, hb, hml, hown, hts, hr, hlocks, hK, hG, hfl, hXs, hbl⟩ := id hX
  have hbA : ¬ jAL s b := Nat.not_le.mpr hbl
  refine j_aload_n (r := x1) hx hb dL_law_1720 rfl (lv_at hl 1 rfl) ?_
  refine j_aload_n (r := (some b)) hx hb dL_law_1721 rfl (lv_at hl 0 rfl) ?_
  refine lv_iload hx hb dL_law_1722 (lv_at hl 4 rfl) ?_
  refine lv_iconst (v := (1)) hx hb dL_law_1724 (by decide) ?_
  refine lv_iadd hx hb dL_law_1725 ?_
  obtain ⟨h1, hw⟩ := hw
  refine va_sld hx hb hXs hbl hbA hI.2.2.1 h1 dL_law_1726 ?_
  refine j_aload_n (r := (some b)) hx hb dL_law_1727 rfl (lv_at hl 0 rfl) ?_
  refine lv_iload hx hb dL_law_1728 (lv_at hl 4 rfl) ?_
  refine lv_iconst (v := (2)) hx hb dL_law_1730 (by decide) ?_
  refine lv_iadd hx hb dL_law_1731 ?_
  obtain ⟨h2, hw⟩ := hw
  refine va_sld hx hb hXs hbl hbA hI.2.2.1 h2 dL_law_1732 ?_
  refine j_aload_n (r := x3) hx hb dL_law_1733 rfl (lv_at hl 3 rfl) ?_
  refine j_goXz hI (vx_runSX (As := [va_rf x1, .int (xs (Int32.toNatClampNeg (x4 + (1 : Int32)))), .int (xs (Int32.toNatClampNeg (x4 + (2 : Int32)))), va_rf x3]) (rest := []) ⟨hx, hb, hml, hown, hts⟩ (kL_forecast l hfl D z x1 (xs (Int32.toNatClampNeg (x4 + (1 : Int32)))) (xs (Int32.toNatClampNeg (x4 + (2 : Int32)))) x3 μ H.size _) (vx_cwSW 4 hts gL_law_L_forecast rfl rfl rfl (by decide +kernel) ⟨Nat.le_of_ble_eq_true rfl, Nat.le_of_ble_eq_true rfl⟩) (j_prS2z hK hG hI hw) rfl rfl hl.1 rfl (lv_room (Nat.le_of_ble_eq_true rfl)) dL_law_1734 ⟨by show _ ≤ 601024; omega, by show _ ≤ 7293033; omega⟩) (fun E ce q9 μX H locs hw hI hce hcv hcl => (show False from hw).elim) (fun v3 μ4 H locs hw hI => ?_)
  refine W.eq (g2 := F0 m 1737 ls [.int v3]) rfl ?_
  refine lv_istore (lv' := [(5, .int v3), (0, va_rf (some b)), (1, va_rf x1), (2, va_rf x2), (3, va_rf x3), (4, .int x4)]) hx hb dL_law_1737 hl (by decide) rfl (fun ls hl => ?_)
  refine j_aload_n (r := x2) hx hb dL_law_1739 rfl (lv_at hl 3 rfl) ?_
  refine j_aload_n (r := (some b)) hx hb dL_law_1740 rfl (lv_at hl 1 rfl) ?_
  refine lv_iload hx hb dL_law_1741 (lv_at hl 5 rfl) ?_
  refine lv_iconst (v := (1)) hx hb dL_law_1743 (by decide) ?_
  refine lv_iadd hx hb dL_law_1744 ?_
  obtain ⟨h5, hw⟩ := hw
  refine va_sld hx hb hXs hbl hbA hI.2.2.1 h5 dL_law_1745 ?_
  refine j_aload_n (r := (some b)) hx hb dL_law_1746 rfl (lv_at hl 1 rfl) ?_
  refine lv_iload hx hb dL_law_1747 (lv_at hl 5 rfl) ?_
  refine lv_iconst (v := (2)) hx hb dL_law_1749 (by decide) ?_
  refine lv_iadd hx hb dL_law_1750 ?_
  obtain ⟨h6, hw⟩ := hw
  refine va_sld hx hb hXs hbl hbA hI.2.2.1 h6 dL_law_1751 ?_
  obtain ⟨b9, ⟨hrb9, hfs⟩, hw⟩ := hw
  refine j_goz hI (va_runV (As := [.int (xs (Int32.toNatClampNeg (x4 + (1 : Int32)))), .int (xs (Int32.toNatClampNeg (x4 + (2 : Int32))))]) (rest := []) ⟨hx, hb, hml, hown, hts⟩ (kX10_forecast l hfl D z b9 (xs (Int32.toNatClampNeg (x4 + (1 : Int32)))) (xs (Int32.toNatClampNeg (x4 + (2 : Int32)))) μ4 H.size _) (cwV 2 hts gL_law_X10_forecast rfl rfl rfl (by decide +kernel) ⟨Nat.le_of_ble_eq_true rfl, Nat.le_of_ble_eq_true rfl⟩) (j_prV2z hK hG hI hw (ci := 12) rfl hfs) rfl rfl hl.1 (by rw [hrb9]; rfl) (lv_room (Nat.le_of_ble_eq_true rfl)) dL_law_1752 ⟨by show _ ≤ 601024; omega, by show _ ≤ 7293033; omega⟩) (fun v7 μ8 H locs hw hI => ?_)
  refine W.eq (g2 := F0 m 1755 ls [.long v7]) rfl ?_
  refine lv_lstore (lv' := [(6, .long v7), (5, .int v3), (0, va_rf (some b)), (1, va_rf x1), (2, va_rf x2), (3, va_rf x3), (4, .int x4)]) hx hb dL_law_1755 hl (by decide) rfl (fun ls hl => ?_)
  refine j_aload_n (r := x2) hx hb dL_law_1757 rfl (lv_at hl 4 rfl) ?_
  obtain ⟨b12, ⟨hrb12, hfs⟩, hw⟩ := hw
  refine j_goz hI (va_runV (As := []) (rest := []) ⟨hx, hb, hml, hown, hts⟩ (kX10_thrown l hfl D z b12  μ8 H.size _) (cwV 0 hts gL_law_X10_thrown rfl rfl rfl (by decide +kernel) ⟨Nat.le_of_ble_eq_true rfl, Nat.le_of_ble_eq_true rfl⟩) (j_prV2z hK hG hI hw (ci := 12) rfl hfs) rfl rfl hl.1 (by rw [hrb12]; rfl) (lv_room (Nat.le_of_ble_eq_true rfl)) dL_law_1758 ⟨by show _ ≤ 601024; omega, by show _ ≤ 7293033; omega⟩) (fun v10 μ11 H locs hw hI => ?_)
  refine W.eq (g2 := F0 m 1761 ls [.int v10]) rfl ?_
  refine lv_iload hx hb dL_law_1761 (lv_at hl 1 rfl) ?_
  refine lv_icmp_eq (tgt := 1768) hx hb dL_law_1763 (by decide) (fun hc => ?_) (fun hc => ?_)
  · have hw := hw.1 hc
    refine lv_iload hx hb dL_law_1768 (lv_at hl 1 rfl) ?_
    refine lv_if_ne (tgt := 1784) hx hb dL_law_1770 (by decide) (fun hc => ?_) (fun hc => ?_)
    · have hw := hw.1 hc
      refine lv_goto (tgt := 1855) hx hb dL_law_1784 (by decide) ?_
      exact kL_law_1855 hX hK23 hw hI (lv_sub hl [2, 3, 4, 5, 6] rfl) (by omega) (by omega)
    · have hw := hw.2 hc
      refine j_aload_n (r := x3) hx hb dL_law_1773 rfl (lv_at hl 5 rfl) ?_
      refine lv_iconst (v := (0)) hx hb dL_law_1774 (by decide) ?_
      obtain ⟨v13, hv13, hw⟩ := hw
      refine j_laldz (r := x3) hx hb hK hI hv13 dL_law_1775 ?_
      refine lv_lload hx hb dL_law_1776 (lv_at hl 0 rfl) ?_
      refine j_lcmp_eq (tgt := 1784) hx hb dL_law_1778 dL_law_1779 (by decide) (fun hc => ?_) (fun hc => ?_)
      · have hw := hw.1 hc
        refine lv_goto (tgt := 1855) hx hb dL_law_1784 (by decide) ?_
        exact kL_law_1855 hX hK23 hw hI (lv_sub hl [2, 3, 4, 5, 6] rfl) (by omega) (by omega)
      · have hw := hw.2 hc
        refine lv_iconst (v := (0)) hx hb dL_law_1782 (by decide) ?_
        exact (show False from hw).elim
  · have hw := hw.2 hc
    refine lv_iconst (v := (0)) hx hb dL_law_1766 (by decide) ?_
    exact (show False from hw).elim
set_option maxHeartbeats 4000000 in
set_option maxRecDepth 100000 in
theorem kL_law_1787 {b : Nat} {L : Nat} {xs : Nat → Int32} (hX : jXL D z p l s m b L xs meth c) {capC capS : Nat} {K23 : Option Nat → Option Nat → Option Nat → Int32 → jM → Prop} (hK23 : ∀ {x1 : Option Nat} {x2 : Option Nat} {x3 : Option Nat} {x4 : Int32} {μ : jM} {H : Heap} {locs : List Loc} {ls : Array Slot} {cells slots : Nat}, K23 x1 x2 x3 x4 μ → jIz D z (jAL s) s.heap μ H locs → lv_has ls 8 [(0, va_rf (some b)), (1, va_rf x1), (2, va_rf x2), (3, va_rf x3), (4, .int x4)] → cells + capC ≤ 601024 → slots + capS ≤ 7293033 → W p l e room_1 s m #[Value.ref b] below meth c H locs cells slots (lw_Z below #[Value.ref b] s) (F0 m 23 ls [])) {x1 : Option Nat} {x2 : Option Nat} {x3 : Option Nat} {x4 : Int32} {μ : jM} {H : Heap} {locs : List Loc} {ls : Array Slot} {cells slots : Nat} (hw : wL_law_1787 z b K23 L xs x1 x2 x3 x4 μ) (hI : jIz D z (jAL s) s.heap μ H locs) (hl : lv_has ls 8 [(0, va_rf (some b)), (1, va_rf x1), (2, va_rf x2), (3, va_rf x3), (4, .int x4)]) (hcn : cells + 3 + capC ≤ 601024) (hsn : slots + 18 + capS ≤ 7293033) : W p l e room_1 s m #[Value.ref b] below meth c H locs cells slots (lw_Z below #[Value.ref b] s) (F0 m 1787 ls []) := by
  unfold wL_law_1787 at hw
  obtain ⟨hx, hb, hml, hown, hts, hr, hlocks, hK, hG, hfl, hXs, hbl⟩ := id hX
  have hbA : ¬ jAL s b := Nat.not_le.mpr hbl
  refine j_aload_n (r := x1) hx hb dL_law_1787 rfl (lv_at hl 1 rfl) ?_
  refine j_aload_n (r := (some b)) hx hb dL_law_1788 rfl (lv_at hl 0 rfl) ?_
  refine lv_iload hx hb dL_law_1789 (lv_at hl 4 rfl) ?_
  refine lv_iconst (v := (1)) hx hb dL_law_1791 (by decide) ?_
  refine lv_iadd hx hb dL_law_1792 ?_
  obtain ⟨h1, hw⟩ := hw
  refine va_sld hx hb hXs hbl hbA hI.2.2.1 h1 dL_law_1793 ?_
  refine j_aload_n (r := (some b)) hx hb dL_law_1794 rfl (lv_at hl 0 rfl) ?_
  refine lv_iload hx hb dL_law_1795 (lv_at hl 4 rfl) ?_
  refine lv_iconst (v := (2)) hx hb dL_law_1797 (by decide) ?_
  refine lv_iadd hx hb dL_law_1798 ?_
  obtain ⟨h2, hw⟩ := hw
  refine va_sld hx hb hXs hbl hbA hI.2.2.1 h2 dL_law_1799 ?_
  refine j_aload_n (r := x3) hx hb dL_law_1800 rfl (lv_at hl 3 rfl) ?_
  refine j_goXz hI (vx_runSX (As := [va_rf x1, .int (xs (Int32.toNatClampNeg (x4 + (1 : Int32)))), .int (xs (Int32.toNatClampNeg (x4 + (2 : Int32)))), va_rf x3]) (rest := []) ⟨hx, hb, hml, hown, hts⟩ (kL_daysToShort l hfl D z x1 (xs (Int32.toNatClampNeg (x4 + (1 : Int32)))) (xs (Int32.toNatClampNeg (x4 + (2 : Int32)))) x3 μ H.size _) (vx_cwSW 4 hts gL_law_L_daysToShort rfl rfl rfl (by decide +kernel) ⟨Nat.le_of_ble_eq_true rfl, Nat.le_of_ble_eq_true rfl⟩) (j_prS2z hK hG hI hw) rfl rfl hl.1 rfl (lv_room (Nat.le_of_ble_eq_true rfl)) dL_law_1801 ⟨by show _ ≤ 601024; omega, by show _ ≤ 7293033; omega⟩) (fun E ce q9 μX H locs hw hI hce hcv hcl => (show False from hw).elim) (fun v3 μ4 H locs hw hI => ?_)
  refine W.eq (g2 := F0 m 1804 ls [.int v3]) rfl ?_
  refine lv_istore (lv' := [(5, .int v3), (0, va_rf (some b)), (1, va_rf x1), (2, va_rf x2), (3, va_rf x3), (4, .int x4)]) hx hb dL_law_1804 hl (by decide) rfl (fun ls hl => ?_)
  refine j_aload_n (r := x2) hx hb dL_law_1806 rfl (lv_at hl 3 rfl) ?_
  refine j_aload_n (r := (some b)) hx hb dL_law_1807 rfl (lv_at hl 1 rfl) ?_
  refine lv_iload hx hb dL_law_1808 (lv_at hl 5 rfl) ?_
  refine lv_iconst (v := (1)) hx hb dL_law_1810 (by decide) ?_
  refine lv_iadd hx hb dL_law_1811 ?_
  obtain ⟨h5, hw⟩ := hw
  refine va_sld hx hb hXs hbl hbA hI.2.2.1 h5 dL_law_1812 ?_
  refine j_aload_n (r := (some b)) hx hb dL_law_1813 rfl (lv_at hl 1 rfl) ?_
  refine lv_iload hx hb dL_law_1814 (lv_at hl 5 rfl) ?_
  refine lv_iconst (v := (2)) hx hb dL_law_1816 (by decide) ?_
  refine lv_iadd hx hb dL_law_1817 ?_
  obtain ⟨h6, hw⟩ := hw
  refine va_sld hx hb hXs hbl hbA hI.2.2.1 h6 dL_law_1818 ?_
  obtain ⟨b9, ⟨hrb9, hfs⟩, hw⟩ := hw
  refine j_goz hI (va_runV (As := [.int (xs (Int32.toNatClampNeg (x4 + (1 : Int32)))), .int (xs (Int32.toNatClampNeg (x4 + (2 : Int32))))]) (rest := []) ⟨hx, hb, hml, hown, hts⟩ (kX10_daysToShort l hfl D z b9 (xs (Int32.toNatClampNeg (x4 + (1 : Int32)))) (xs (Int32.toNatClampNeg (x4 + (2 : Int32)))) μ4 H.size _) (cwV 2 hts gL_law_X10_daysToShort rfl rfl rfl (by decide +kernel) ⟨Nat.le_of_ble_eq_true rfl, Nat.le_of_ble_eq_true rfl⟩) (j_prV2z hK hG hI hw (ci := 12) rfl hfs) rfl rfl hl.1 (by rw [hrb9]; rfl) (lv_room (Nat.le_of_ble_eq_true rfl)) dL_law_1819 ⟨by show _ ≤ 601024; omega, by show _ ≤ 7293033; omega⟩) (fun v7 μ8 H locs hw hI => ?_)
  refine W.eq (g2 := F0 m 1822 ls [.int v7]) rfl ?_
  refine lv_istore (lv' := [(6, .int v7), (5, .int v3), (0, va_rf (some b)), (1, va_rf x1), (2, va_rf x2), (3, va_rf x3), (4, .int x4)]) hx hb dL_law_1822 hl (by decide) rfl (fun ls hl => ?_)
  refine j_aload_n (r := x2) hx hb dL_law_1824 rfl (lv_at hl 4 rfl) ?_
  obtain ⟨b12, ⟨hrb12, hfs⟩, hw⟩ := hw
  refine j_goz hI (va_runV (As := []) (rest := []) ⟨hx, hb, hml, hown, hts⟩ (kX10_thrown l hfl D z b12  μ8 H.size _) (cwV 0 hts gL_law_X10_thrown rfl rfl rfl (by decide +kernel) ⟨Nat.le_of_ble_eq_true rfl, Nat.le_of_ble_eq_true rfl⟩) (j_prV2z hK hG hI hw (ci := 12) rfl hfs) rfl rfl hl.1 (by rw [hrb12]; rfl) (lv_room (Nat.le_of_ble_eq_true rfl)) dL_law_1825 ⟨by show _ ≤ 601024; omega, by show _ ≤ 7293033; omega⟩) (fun v10 μ11 H locs hw hI => ?_)
  refine W.eq (g2 := F0 m 1828 ls [.int v10]) rfl ?_
  refine lv_iload hx hb dL_law_1828 (lv_at hl 1 rfl) ?_
  refine lv_icmp_eq (tgt := 1835) hx hb dL_law_1830 (by decide) (fun hc => ?_) (fun hc => ?_)
  · have hw := hw.1 hc
    refine lv_iload hx hb dL_law_1835 (lv_at hl 1 rfl) ?_
    refine lv_if_ne (tgt := 1852) hx hb dL_law_1837 (by decide) (fun hc => ?_) (fun hc => ?_)
    · have hw := hw.1 hc
      refine lv_goto (tgt := 1855) hx hb dL_law_1852 (by decide) ?_
      exact kL_law_1855 hX hK23 hw hI (lv_sub hl [2, 3, 4, 5, 6] rfl) (by omega) (by omega)
    · have hw := hw.2 hc
      refine j_aload_n (r := x3) hx hb dL_law_1840 rfl (lv_at hl 5 rfl) ?_
      refine lv_iconst (v := (0)) hx hb dL_law_1841 (by decide) ?_
      obtain ⟨v13, hv13, hw⟩ := hw
      refine j_laldz (r := x3) hx hb hK hI hv13 dL_law_1842 ?_
      refine lv_iload hx hb dL_law_1843 (lv_at hl 0 rfl) ?_
      refine lv_i2l hx hb dL_law_1845 rfl ?_
      refine j_lcmp_eq (tgt := 1852) hx hb dL_law_1846 dL_law_1847 (by decide) (fun hc => ?_) (fun hc => ?_)
      · have hw := hw.1 hc
        refine lv_goto (tgt := 1855) hx hb dL_law_1852 (by decide) ?_
        exact kL_law_1855 hX hK23 hw hI (lv_sub hl [2, 3, 4, 5, 6] rfl) (by omega) (by omega)
      · have hw := hw.2 hc
        refine lv_iconst (v := (0)) hx hb dL_law_1850 (by decide) ?_
        exact (show False from hw).elim
  · have hw := hw.2 hc
    refine lv_iconst (v := (0)) hx hb dL_law_1833 (by decide) ?_
    exact (show False from hw).elim
set_option maxHeartbeats 4000000 in
set_option maxRecDepth 100000 in
theorem kL_law_23 {b : Nat} {L : Nat} {xs : Nat → Int32} (hX : jXL D z p l s m b L xs meth c)  (n : Nat) : ∀ {x1 : Option Nat} {x2 : Option Nat} {x3 : Option Nat} {x4 : Int32} {μ : jM} {H : Heap} {locs : List Loc} {ls : Array Slot} {cells slots : Nat}, wL_law_23 z b L xs n x1 x2 x3 x4 μ → jIz D z (jAL s) s.heap μ H locs → lv_has ls 8 [(0, va_rf (some b)), (1, va_rf x1), (2, va_rf x2), (3, va_rf x3), (4, .int x4)] → cells + n * 22 + 22 ≤ 601024 → slots + n * 246 + 246 ≤ 7293033 → W p l e room_1 s m #[Value.ref b] below meth c H locs cells slots (lw_Z below #[Value.ref b] s) (F0 m 23 ls []) := by
  induction n with
  | zero =>
    intros
    rename_i hw _ _ _ _
    exact (show False from hw).elim
  | succ n ih =>
    intro x1 x2 x3 x4 μ H locs ls cells slots hw hI hl hcn hsn
    have hw : wL_law_23_b z b L xs (wL_law_23 z b L xs n) x1 x2 x3 x4 μ := hw
    unfold wL_law_23_b at hw
    obtain ⟨hx, hb, hml, hown, hts, hr, hlocks, hK, hG, hfl, hXs, hbl⟩ := id hX
    have hbA : ¬ jAL s b := Nat.not_le.mpr hbl
    refine lv_iload hx hb dL_law_23 (lv_at hl 4 rfl) ?_
    refine j_aload_n (r := (some b)) hx hb dL_law_25 rfl (lv_at hl 0 rfl) ?_
    refine va_slen hx hb hXs hbl hbA hI.2.2.1 dL_law_26 ?_
    refine lv_bipush (v := (6)) hx hb dL_law_27 (by decide) ?_
    refine lv_isub hx hb dL_law_29 ?_
    refine lv_icmp_gt (tgt := 1861) hx hb dL_law_30 (by decide) (fun hc => ?_) (fun hc => ?_)
    · have hw := hw.1 hc
      refine lv_iconst (v := (1)) hx hb dL_law_1861 (by decide) ?_
      refine W.widen (k := 601024) (n := 7293033) (by omega) (by omega) ?_
      refine va_forget (fun q hq => hI.2.2.1.2.2 q hq) ?_
      exact lw_ret hx hb hr hlocks dL_law_1862
    · have hw := hw.2 hc
      refine j_aload_n (r := (some b)) hx hb dL_law_33 rfl (lv_at hl 0 rfl) ?_
      refine lv_iload hx hb dL_law_34 (lv_at hl 4 rfl) ?_
      obtain ⟨h1, hw⟩ := hw
      refine va_sld hx hb hXs hbl hbA hI.2.2.1 h1 dL_law_36 ?_
      refine lv_bipush (v := (31)) hx hb dL_law_37 (by decide) ?_
      refine lv_iand hx hb dL_law_39 ?_
      by_cases hc0 : ((xs (Int32.toNatClampNeg x4)) &&& (31 : Int32)) = (0 : Int32)
      · have hw := hw.1 hc0
        refine lv_tableIn (off := 128) (tgt := 168) hx hb dL_law_40 (by rw [hc0]; decide) (by rw [hc0]; decide) (by rw [hc0]; rfl) (by decide) ?_
        exact kL_law_168 hX (capC := n * 22 + 22) (capS := n * 246 + 246) (fun hw hI hl hcn hsn => ih hw hI hl (by omega) (by omega)) hw hI (lv_sub hl [0, 1, 2, 3, 4] rfl) (by omega) (by omega)
      have hw := hw.2 hc0
      by_cases hc1 : ((xs (Int32.toNatClampNeg x4)) &&& (31 : Int32)) = (1 : Int32)
      · have hw := hw.1 hc1
        refine lv_tableIn (off := 208) (tgt := 248) hx hb dL_law_40 (by rw [hc1]; decide) (by rw [hc1]; decide) (by rw [hc1]; rfl) (by decide) ?_
        exact kL_law_248 hX (capC := n * 22 + 22) (capS := n * 246 + 246) (fun hw hI hl hcn hsn => ih hw hI hl (by omega) (by omega)) hw hI (lv_sub hl [0, 1, 2, 3, 4] rfl) (by omega) (by omega)
      have hw := hw.2 hc1
      by_cases hc2 : ((xs (Int32.toNatClampNeg x4)) &&& (31 : Int32)) = (2 : Int32)
      · have hw := hw.1 hc2
        refine lv_tableIn (off := 276) (tgt := 316) hx hb dL_law_40 (by rw [hc2]; decide) (by rw [hc2]; decide) (by rw [hc2]; rfl) (by decide) ?_
        exact kL_law_316 hX (capC := n * 22 + 22) (capS := n * 246 + 246) (fun hw hI hl hcn hsn => ih hw hI hl (by omega) (by omega)) hw hI (lv_sub hl [0, 1, 2, 3, 4] rfl) (by omega) (by omega)
      have hw := hw.2 hc2
      by_cases hc3 : ((xs (Int32.toNatClampNeg x4)) &&& (31 : Int32)) = (3 : Int32)
      · have hw := hw.1 hc3
        refine lv_tableIn (off := 356) (tgt := 396) hx hb dL_law_40 (by rw [hc3]; decide) (by rw [hc3]; decide) (by rw [hc3]; rfl) (by decide) ?_
        exact kL_law_396 hX (capC := n * 22 + 22) (capS := n * 246 + 246) (fun hw hI hl hcn hsn => ih hw hI hl (by omega) (by omega)) hw hI (lv_sub hl [0, 1, 2, 3, 4] rfl) (by omega) (by omega)
      have hw := hw.2 hc3
      by_cases hc4 : ((xs (Int32.toNatClampNeg x4)) &&& (31 : Int32)) = (4 : Int32)
      · have hw := hw.1 hc4
        refine lv_tableIn (off := 424) (tgt := 464) hx hb dL_law_40 (by rw [hc4]; decide) (by rw [hc4]; decide) (by rw [hc4]; rfl) (by decide) ?_
        exact kL_law_464 hX (capC := n * 22 + 22) (capS := n * 246 + 246) (fun hw hI hl hcn hsn => ih hw hI hl (by omega) (by omega)) hw hI (lv_sub hl [0, 1, 2, 3, 4] rfl) (by omega) (by omega)
      have hw := hw.2 hc4
      by_cases hc5 : ((xs (Int32.toNatClampNeg x4)) &&& (31 : Int32)) = (5 : Int32)
      · have hw := hw.1 hc5
        refine lv_tableIn (off := 504) (tgt := 544) hx hb dL_law_40 (by rw [hc5]; decide) (by rw [hc5]; decide) (by rw [hc5]; rfl) (by decide) ?_
        exact kL_law_544 hX (capC := n * 22 + 22) (capS := n * 246 + 246) (fun hw hI hl hcn hsn => ih hw hI hl (by omega) (by omega)) hw hI (lv_sub hl [0, 1, 2, 3, 4] rfl) (by omega) (by omega)
      have hw := hw.2 hc5
      by_cases hc6 : ((xs (Int32.toNatClampNeg x4)) &&& (31 : Int32)) = (6 : Int32)
      · have hw := hw.1 hc6
        refine lv_tableIn (off := 572) (tgt := 612) hx hb dL_law_40 (by rw [hc6]; decide) (by rw [hc6]; decide) (by rw [hc6]; rfl) (by decide) ?_
        exact kL_law_612 hX (capC := n * 22 + 22) (capS := n * 246 + 246) (fun hw hI hl hcn hsn => ih hw hI hl (by omega) (by omega)) hw hI (lv_sub hl [0, 1, 2, 3, 4] rfl) (by omega) (by omega)
      have hw := hw.2 hc6
      by_cases hc7 : ((xs (Int32.toNatClampNeg x4)) &&& (31 : Int32)) = (7 : Int32)
      · have hw := hw.1 hc7
        refine lv_tableIn (off := 585) (tgt := 625) hx hb dL_law_40 (by rw [hc7]; decide) (by rw [hc7]; decide) (by rw [hc7]; rfl) (by decide) ?_
        exact kL_law_625 hX (capC := n * 22 + 22) (capS := n * 246 + 246) (fun hw hI hl hcn hsn => ih hw hI hl (by omega) (by omega)) hw hI (lv_sub hl [0, 1, 2, 3, 4] rfl) (by omega) (by omega)
      have hw := hw.2 hc7
      by_cases hc8 : ((xs (Int32.toNatClampNeg x4)) &&& (31 : Int32)) = (8 : Int32)
      · have hw := hw.1 hc8
        refine lv_tableIn (off := 641) (tgt := 681) hx hb dL_law_40 (by rw [hc8]; decide) (by rw [hc8]; decide) (by rw [hc8]; rfl) (by decide) ?_
        exact kL_law_681 hX (capC := n * 22 + 22) (capS := n * 246 + 246) (fun hw hI hl hcn hsn => ih hw hI hl (by omega) (by omega)) hw hI (lv_sub hl [0, 1, 2, 3, 4] rfl) (by omega) (by omega)
      have hw := hw.2 hc8
      by_cases hc9 : ((xs (Int32.toNatClampNeg x4)) &&& (31 : Int32)) = (9 : Int32)
      · have hw := hw.1 hc9
        refine lv_tableIn (off := 697) (tgt := 737) hx hb dL_law_40 (by rw [hc9]; decide) (by rw [hc9]; decide) (by rw [hc9]; rfl) (by decide) ?_
        exact kL_law_737 hX (capC := n * 22 + 22) (capS := n * 246 + 246) (fun hw hI hl hcn hsn => ih hw hI hl (by omega) (by omega)) hw hI (lv_sub hl [0, 1, 2, 3, 4] rfl) (by omega) (by omega)
      have hw := hw.2 hc9
      by_cases hc10 : ((xs (Int32.toNatClampNeg x4)) &&& (31 : Int32)) = (10 : Int32)
      · have hw := hw.1 hc10
        refine lv_tableIn (off := 753) (tgt := 793) hx hb dL_law_40 (by rw [hc10]; decide) (by rw [hc10]; decide) (by rw [hc10]; rfl) (by decide) ?_
        exact kL_law_793 hX (capC := n * 22 + 22) (capS := n * 246 + 246) (fun hw hI hl hcn hsn => ih hw hI hl (by omega) (by omega)) hw hI (lv_sub hl [0, 1, 2, 3, 4] rfl) (by omega) (by omega)
      have hw := hw.2 hc10
      by_cases hc11 : ((xs (Int32.toNatClampNeg x4)) &&& (31 : Int32)) = (11 : Int32)
      · have hw := hw.1 hc11
        refine lv_tableIn (off := 820) (tgt := 860) hx hb dL_law_40 (by rw [hc11]; decide) (by rw [hc11]; decide) (by rw [hc11]; rfl) (by decide) ?_
        exact kL_law_860 hX (capC := n * 22 + 22) (capS := n * 246 + 246) (fun hw hI hl hcn hsn => ih hw hI hl (by omega) (by omega)) hw hI (lv_sub hl [0, 1, 2, 3, 4] rfl) (by omega) (by omega)
      have hw := hw.2 hc11
      by_cases hc12 : ((xs (Int32.toNatClampNeg x4)) &&& (31 : Int32)) = (12 : Int32)
      · have hw := hw.1 hc12
        refine lv_tableIn (off := 924) (tgt := 964) hx hb dL_law_40 (by rw [hc12]; decide) (by rw [hc12]; decide) (by rw [hc12]; rfl) (by decide) ?_
        exact kL_law_964 hX (capC := n * 22 + 22) (capS := n * 246 + 246) (fun hw hI hl hcn hsn => ih hw hI hl (by omega) (by omega)) hw hI (lv_sub hl [0, 1, 2, 3, 4] rfl) (by omega) (by omega)
      have hw := hw.2 hc12
      by_cases hc13 : ((xs (Int32.toNatClampNeg x4)) &&& (31 : Int32)) = (13 : Int32)
      · have hw := hw.1 hc13
        refine lv_tableIn (off := 980) (tgt := 1020) hx hb dL_law_40 (by rw [hc13]; decide) (by rw [hc13]; decide) (by rw [hc13]; rfl) (by decide) ?_
        exact kL_law_1020 hX (capC := n * 22 + 22) (capS := n * 246 + 246) (fun hw hI hl hcn hsn => ih hw hI hl (by omega) (by omega)) hw hI (lv_sub hl [0, 1, 2, 3, 4] rfl) (by omega) (by omega)
      have hw := hw.2 hc13
      by_cases hc14 : ((xs (Int32.toNatClampNeg x4)) &&& (31 : Int32)) = (14 : Int32)
      · have hw := hw.1 hc14
        refine lv_tableIn (off := 1036) (tgt := 1076) hx hb dL_law_40 (by rw [hc14]; decide) (by rw [hc14]; decide) (by rw [hc14]; rfl) (by decide) ?_
        exact kL_law_1076 hX (capC := n * 22 + 22) (capS := n * 246 + 246) (fun hw hI hl hcn hsn => ih hw hI hl (by omega) (by omega)) hw hI (lv_sub hl [0, 1, 2, 3, 4] rfl) (by omega) (by omega)
      have hw := hw.2 hc14
      by_cases hc15 : ((xs (Int32.toNatClampNeg x4)) &&& (31 : Int32)) = (15 : Int32)
      · have hw := hw.1 hc15
        refine lv_tableIn (off := 1115) (tgt := 1155) hx hb dL_law_40 (by rw [hc15]; decide) (by rw [hc15]; decide) (by rw [hc15]; rfl) (by decide) ?_
        exact kL_law_1155 hX (capC := n * 22 + 22) (capS := n * 246 + 246) (fun hw hI hl hcn hsn => ih hw hI hl (by omega) (by omega)) hw hI (lv_sub hl [0, 1, 2, 3, 4] rfl) (by omega) (by omega)
      have hw := hw.2 hc15
      by_cases hc16 : ((xs (Int32.toNatClampNeg x4)) &&& (31 : Int32)) = (16 : Int32)
      · have hw := hw.1 hc16
        refine lv_tableIn (off := 1128) (tgt := 1168) hx hb dL_law_40 (by rw [hc16]; decide) (by rw [hc16]; decide) (by rw [hc16]; rfl) (by decide) ?_
        exact kL_law_1168 hX (capC := n * 22 + 22) (capS := n * 246 + 246) (fun hw hI hl hcn hsn => ih hw hI hl (by omega) (by omega)) hw hI (lv_sub hl [0, 1, 2, 3, 4] rfl) (by omega) (by omega)
      have hw := hw.2 hc16
      by_cases hc17 : ((xs (Int32.toNatClampNeg x4)) &&& (31 : Int32)) = (17 : Int32)
      · have hw := hw.1 hc17
        refine lv_tableIn (off := 1184) (tgt := 1224) hx hb dL_law_40 (by rw [hc17]; decide) (by rw [hc17]; decide) (by rw [hc17]; rfl) (by decide) ?_
        exact kL_law_1224 hX (capC := n * 22 + 22) (capS := n * 246 + 246) (fun hw hI hl hcn hsn => ih hw hI hl (by omega) (by omega)) hw hI (lv_sub hl [0, 1, 2, 3, 4] rfl) (by omega) (by omega)
      have hw := hw.2 hc17
      by_cases hc18 : ((xs (Int32.toNatClampNeg x4)) &&& (31 : Int32)) = (18 : Int32)
      · have hw := hw.1 hc18
        refine lv_tableIn (off := 1239) (tgt := 1279) hx hb dL_law_40 (by rw [hc18]; decide) (by rw [hc18]; decide) (by rw [hc18]; rfl) (by decide) ?_
        exact kL_law_1279 hX (capC := n * 22 + 22) (capS := n * 246 + 246) (fun hw hI hl hcn hsn => ih hw hI hl (by omega) (by omega)) hw hI (lv_sub hl [0, 1, 2, 3, 4] rfl) (by omega) (by omega)
      have hw := hw.2 hc18
      by_cases hc19 : ((xs (Int32.toNatClampNeg x4)) &&& (31 : Int32)) = (19 : Int32)
      · have hw := hw.1 hc19
        refine lv_tableIn (off := 1294) (tgt := 1334) hx hb dL_law_40 (by rw [hc19]; decide) (by rw [hc19]; decide) (by rw [hc19]; rfl) (by decide) ?_
        exact kL_law_1334 hX (capC := n * 22 + 22) (capS := n * 246 + 246) (fun hw hI hl hcn hsn => ih hw hI hl (by omega) (by omega)) hw hI (lv_sub hl [0, 1, 2, 3, 4] rfl) (by omega) (by omega)
      have hw := hw.2 hc19
      by_cases hc20 : ((xs (Int32.toNatClampNeg x4)) &&& (31 : Int32)) = (20 : Int32)
      · have hw := hw.1 hc20
        refine lv_tableIn (off := 1349) (tgt := 1389) hx hb dL_law_40 (by rw [hc20]; decide) (by rw [hc20]; decide) (by rw [hc20]; rfl) (by decide) ?_
        exact kL_law_1389 hX (capC := n * 22 + 22) (capS := n * 246 + 246) (fun hw hI hl hcn hsn => ih hw hI hl (by omega) (by omega)) hw hI (lv_sub hl [0, 1, 2, 3, 4] rfl) (by omega) (by omega)
      have hw := hw.2 hc20
      by_cases hc21 : ((xs (Int32.toNatClampNeg x4)) &&& (31 : Int32)) = (21 : Int32)
      · have hw := hw.1 hc21
        refine lv_tableIn (off := 1405) (tgt := 1445) hx hb dL_law_40 (by rw [hc21]; decide) (by rw [hc21]; decide) (by rw [hc21]; rfl) (by decide) ?_
        exact kL_law_1445 hX (capC := n * 22 + 22) (capS := n * 246 + 246) (fun hw hI hl hcn hsn => ih hw hI hl (by omega) (by omega)) hw hI (lv_sub hl [0, 1, 2, 3, 4] rfl) (by omega) (by omega)
      have hw := hw.2 hc21
      by_cases hc22 : ((xs (Int32.toNatClampNeg x4)) &&& (31 : Int32)) = (22 : Int32)
      · have hw := hw.1 hc22
        refine lv_tableIn (off := 1460) (tgt := 1500) hx hb dL_law_40 (by rw [hc22]; decide) (by rw [hc22]; decide) (by rw [hc22]; rfl) (by decide) ?_
        exact kL_law_1500 hX (capC := n * 22 + 22) (capS := n * 246 + 246) (fun hw hI hl hcn hsn => ih hw hI hl (by omega) (by omega)) hw hI (lv_sub hl [0, 1, 2, 3, 4] rfl) (by omega) (by omega)
      have hw := hw.2 hc22
      by_cases hc23 : ((xs (Int32.toNatClampNeg x4)) &&& (31 : Int32)) = (23 : Int32)
      · have hw := hw.1 hc23
        refine lv_tableIn (off := 1515) (tgt := 1555) hx hb dL_law_40 (by rw [hc23]; decide) (by rw [hc23]; decide) (by rw [hc23]; rfl) (by decide) ?_
        exact kL_law_1555 hX (capC := n * 22 + 22) (capS := n * 246 + 246) (fun hw hI hl hcn hsn => ih hw hI hl (by omega) (by omega)) hw hI (lv_sub hl [0, 1, 2, 3, 4] rfl) (by omega) (by omega)
      have hw := hw.2 hc23
      by_cases hc24 : ((xs (Int32.toNatClampNeg x4)) &&& (31 : Int32)) = (24 : Int32)
      · have hw := hw.1 hc24
        refine lv_tableIn (off := 1570) (tgt := 1610) hx hb dL_law_40 (by rw [hc24]; decide) (by rw [hc24]; decide) (by rw [hc24]; rfl) (by decide) ?_
        exact kL_law_1610 hX (capC := n * 22 + 22) (capS := n * 246 + 246) (fun hw hI hl hcn hsn => ih hw hI hl (by omega) (by omega)) hw hI (lv_sub hl [0, 1, 2, 3, 4] rfl) (by omega) (by omega)
      have hw := hw.2 hc24
      by_cases hc25 : ((xs (Int32.toNatClampNeg x4)) &&& (31 : Int32)) = (25 : Int32)
      · have hw := hw.1 hc25
        refine lv_tableIn (off := 1625) (tgt := 1665) hx hb dL_law_40 (by rw [hc25]; decide) (by rw [hc25]; decide) (by rw [hc25]; rfl) (by decide) ?_
        exact kL_law_1665 hX (capC := n * 22 + 22) (capS := n * 246 + 246) (fun hw hI hl hcn hsn => ih hw hI hl (by omega) (by omega)) hw hI (lv_sub hl [0, 1, 2, 3, 4] rfl) (by omega) (by omega)
      have hw := hw.2 hc25
      by_cases hc26 : ((xs (Int32.toNatClampNeg x4)) &&& (31 : Int32)) = (26 : Int32)
      · have hw := hw.1 hc26
        refine lv_tableIn (off := 1680) (tgt := 1720) hx hb dL_law_40 (by rw [hc26]; decide) (by rw [hc26]; decide) (by rw [hc26]; rfl) (by decide) ?_
        exact kL_law_1720 hX (capC := n * 22 + 22) (capS := n * 246 + 246) (fun hw hI hl hcn hsn => ih hw hI hl (by omega) (by omega)) hw hI (lv_sub hl [0, 1, 2, 3, 4] rfl) (by omega) (by omega)
      have hw := hw.2 hc26
      by_cases hc27 : ((xs (Int32.toNatClampNeg x4)) &&& (31 : Int32)) = (27 : Int32)
      · have hw := hw.1 hc27
        refine lv_tableIn (off := 1747) (tgt := 1787) hx hb dL_law_40 (by rw [hc27]; decide) (by rw [hc27]; decide) (by rw [hc27]; rfl) (by decide) ?_
        exact kL_law_1787 hX (capC := n * 22 + 22) (capS := n * 246 + 246) (fun hw hI hl hcn hsn => ih hw hI hl (by omega) (by omega)) hw hI (lv_sub hl [0, 1, 2, 3, 4] rfl) (by omega) (by omega)
      have hw := hw.2 hc27
      refine lv_tableOut (tgt := 1855) hx hb dL_law_40 (by have hq0 := lv_neT hc0 (show (0 : Int32).toInt = 0 by decide) ; have hq1 := lv_neT hc1 (show (1 : Int32).toInt = 1 by decide) ; have hq2 := lv_neT hc2 (show (2 : Int32).toInt = 2 by decide) ; have hq3 := lv_neT hc3 (show (3 : Int32).toInt = 3 by decide) ; have hq4 := lv_neT hc4 (show (4 : Int32).toInt = 4 by decide) ; have hq5 := lv_neT hc5 (show (5 : Int32).toInt = 5 by decide) ; have hq6 := lv_neT hc6 (show (6 : Int32).toInt = 6 by decide) ; have hq7 := lv_neT hc7 (show (7 : Int32).toInt = 7 by decide) ; have hq8 := lv_neT hc8 (show (8 : Int32).toInt = 8 by decide) ; have hq9 := lv_neT hc9 (show (9 : Int32).toInt = 9 by decide) ; have hq10 := lv_neT hc10 (show (10 : Int32).toInt = 10 by decide) ; have hq11 := lv_neT hc11 (show (11 : Int32).toInt = 11 by decide) ; have hq12 := lv_neT hc12 (show (12 : Int32).toInt = 12 by decide) ; have hq13 := lv_neT hc13 (show (13 : Int32).toInt = 13 by decide) ; have hq14 := lv_neT hc14 (show (14 : Int32).toInt = 14 by decide) ; have hq15 := lv_neT hc15 (show (15 : Int32).toInt = 15 by decide) ; have hq16 := lv_neT hc16 (show (16 : Int32).toInt = 16 by decide) ; have hq17 := lv_neT hc17 (show (17 : Int32).toInt = 17 by decide) ; have hq18 := lv_neT hc18 (show (18 : Int32).toInt = 18 by decide) ; have hq19 := lv_neT hc19 (show (19 : Int32).toInt = 19 by decide) ; have hq20 := lv_neT hc20 (show (20 : Int32).toInt = 20 by decide) ; have hq21 := lv_neT hc21 (show (21 : Int32).toInt = 21 by decide) ; have hq22 := lv_neT hc22 (show (22 : Int32).toInt = 22 by decide) ; have hq23 := lv_neT hc23 (show (23 : Int32).toInt = 23 by decide) ; have hq24 := lv_neT hc24 (show (24 : Int32).toInt = 24 by decide) ; have hq25 := lv_neT hc25 (show (25 : Int32).toInt = 25 by decide) ; have hq26 := lv_neT hc26 (show (26 : Int32).toInt = 26 by decide) ; have hq27 := lv_neT hc27 (show (27 : Int32).toInt = 27 by decide) ; omega) (by decide) ?_
      exact kL_law_1855 hX (capC := n * 22 + 22) (capS := n * 246 + 246) (fun hw hI hl hcn hsn => ih hw hI hl (by omega) (by omega)) hw hI (lv_sub hl [0, 1, 2, 3, 4] rfl) (by omega) (by omega)
set_option maxHeartbeats 4000000 in
set_option maxRecDepth 100000 in
theorem kL_law_0 {b : Nat} {L : Nat} {xs : Nat → Int32} (hX : jXL D z p l s m b L xs meth c)   {μ : jM} {H : Heap} {locs : List Loc} {ls : Array Slot} {cells slots : Nat} (hw : wL_law_0 z b L xs  μ) (hI : jIz D z (jAL s) s.heap μ H locs) (hl : lv_has ls 8 [(0, va_rf (some b))]) (hcn : cells + 11352 ≤ 601024) (hsn : slots + 128037 ≤ 7293033) : W p l e room_1 s m #[Value.ref b] below meth c H locs cells slots (lw_Z below #[Value.ref b] s) (F0 m 0 ls []) := by
  unfold wL_law_0 at hw
  obtain ⟨hx, hb, hml, hown, hts, hr, hlocks, hK, hG, hfl, hXs, hbl⟩ := id hX
  have hbA : ¬ jAL s b := Nat.not_le.mpr hbl
  have hfX10 : ∀ w ∈ wsX100, w.before #[Value.ref b] s = true := fun w h => hts w (inlX10 w h)
  have hfX9 : ∀ w ∈ wsX90, w.before #[Value.ref b] s = true := fun w h => hts w (inlX9 w h)
  refine j_newz (C := RX9) (T := TX9) (N := 1) (ci := 11) (fs := jfX9) hx hb hfX9 tyX9 tyX9_ok hown (hts (.classLink RL 8 RX9) (List.mem_of_getElem? (i := 0) (by decide +kernel))) (hts (.instantiable RX9 1) (List.mem_of_getElem? (i := 1) (by decide +kernel))) (hts (.initialized RX9) (List.mem_of_getElem? (i := 2) (by decide +kernel))) hK hI rfl jdX9 (by show _ ≤ 601024; omega) (by show _ ≤ 7293033; omega) dL_law_0 (fun q1 H hq1 hI => ?_)
  have hw := hw q1 hq1
  refine lv_dup hx hb dL_law_3 rfl ?_
  refine j_goz hI (va_runI (As := []) (rest := [va_rf (some q1)]) ⟨hx, hb, hml, hown, hts⟩ (kX9_init l hfl D z q1  (va_up μ q1 (some (.inr (11, jfX9)))) H.size _) (cwI 0 hts gL_law_X9_init rfl rfl rfl (hts (.initialized RX9) (List.mem_of_getElem? (i := 2) (by decide +kernel))) (hts (.methodLink RL 100 yX9_init) (List.mem_of_getElem? (i := 7) (by decide +kernel))) (hts (.instanceMethod yX9_init) (List.mem_of_getElem? (i := 8) (by decide +kernel))) rfl (by decide +kernel) ⟨Nat.le_of_ble_eq_true rfl, Nat.le_of_ble_eq_true rfl⟩) (j_prS2z hK hG hI hw) rfl rfl hl.1 rfl (lv_room (Nat.le_of_ble_eq_true rfl)) dL_law_4 ⟨by show _ ≤ 601024; omega, by show _ ≤ 7293033; omega⟩) (fun u2 μ3 H locs hw hI => ?_)
  refine W.eq (g2 := F0 m 7 ls [va_rf (some q1)]) rfl ?_
  refine j_astore_n (r := (some q1)) (lv' := [(1, va_rf (some q1)), (0, va_rf (some b))]) hx hb dL_law_7 rfl hl (by decide) rfl (fun ls hl => ?_)
  refine j_newz (C := RX10) (T := TX10) (N := 25) (ci := 12) (fs := jfX10) hx hb hfX10 tyX10 tyX10_ok hown (hts (.classLink RL 101 RX10) (List.mem_of_getElem? (i := 3) (by decide +kernel))) (hts (.instantiable RX10 25) (List.mem_of_getElem? (i := 4) (by decide +kernel))) (hts (.initialized RX10) (List.mem_of_getElem? (i := 5) (by decide +kernel))) hK hI rfl jdX10 (by show _ ≤ 601024; omega) (by show _ ≤ 7293033; omega) dL_law_8 (fun q4 H hq4 hI => ?_)
  have hw := hw q4 hq4
  refine lv_dup hx hb dL_law_11 rfl ?_
  refine j_goz hI (va_runI (As := []) (rest := [va_rf (some q4)]) ⟨hx, hb, hml, hown, hts⟩ (kX10_init l hfl D z q4  (va_up μ3 q4 (some (.inr (12, jfX10)))) H.size _) (cwI 0 hts gL_law_X10_init rfl rfl rfl (hts (.initialized RX10) (List.mem_of_getElem? (i := 5) (by decide +kernel))) (hts (.methodLink RL 103 yX10_init) (List.mem_of_getElem? (i := 115) (by decide +kernel))) (hts (.instanceMethod yX10_init) (List.mem_of_getElem? (i := 116) (by decide +kernel))) rfl (by decide +kernel) ⟨Nat.le_of_ble_eq_true rfl, Nat.le_of_ble_eq_true rfl⟩) (j_prS2z hK hG hI hw) rfl rfl hl.1 rfl (lv_room (Nat.le_of_ble_eq_true rfl)) dL_law_12 ⟨by show _ ≤ 601024; omega, by show _ ≤ 7293033; omega⟩) (fun u5 μ6 H locs hw hI => ?_)
  refine W.eq (g2 := F0 m 15 ls [va_rf (some q4)]) rfl ?_
  refine j_astore_n (r := (some q4)) (lv' := [(2, va_rf (some q4)), (1, va_rf (some q1)), (0, va_rf (some b))]) hx hb dL_law_15 rfl hl (by decide) rfl (fun ls hl => ?_)
  refine lv_iconst (v := (1)) hx hb dL_law_16 (by decide) ?_
  refine j_newaz (atype := .long) (ty := .long) (t := 1) (N' := 1) (a0 := (1, .inr (.inl (fun _ => 0)))) hx hb (hts (.arrayClass .long) (List.mem_of_getElem? (i := 6) (by decide +kernel))) rfl hK hI (fun cA h => Option.some.inj (h.symm.trans ((hK.2 1 (D.2 1, .long) rfl).2))) (fun cA => rfl) (by decide) (by decide) (by decide) (by show _ ≤ 601024; omega) (by show _ ≤ 7293033; omega) dL_law_17 (fun q7 H hq7 hI => ?_)
  have hw := hw q7 hq7
  refine j_astore_n (r := (some q7)) (lv' := [(3, va_rf (some q7)), (2, va_rf (some q4)), (1, va_rf (some q1)), (0, va_rf (some b))]) hx hb dL_law_19 rfl hl (by decide) rfl (fun ls hl => ?_)
  refine lv_iconst (v := (0)) hx hb dL_law_20 (by decide) ?_
  refine lv_topi (fun v8 ev8 => ?_)
  have hw := hw v8 ev8
  refine lv_istore (lv' := [(4, .int v8), (3, va_rf (some q7)), (2, va_rf (some q4)), (1, va_rf (some q1)), (0, va_rf (some b))]) hx hb dL_law_21 hl (by decide) rfl (fun ls hl => ?_)
  obtain ⟨n9, hn, hw⟩ := hw
  exact kL_law_23 hX  n9 hw hI (lv_sub hl [4, 3, 2, 1, 0] rfl) (by omega) (by omega)
end
