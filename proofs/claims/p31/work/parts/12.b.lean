/-! THE CLAIM OUT OF ONE WALK OF THE LAW'S BODY. Your part is whole_start (and what it stands on); all else here is the same for every law, but numbers. -/
def R_law : String := "CashPoolsLaw"
def lw_P (b : Addr) (xs : List Int32) (args : Array Value) (s : State) : Prop := args = #[.ref b] ∧ s.IntsAt b xs ∧ xs.length ≤ 260 ∧ (Jvm.Cond.and given_1 narrow_1).before args s = true
def lw_Q (_ : Array Value) (s : State) (o : Outcome) (t : State) : Prop := o = .returned (some (.int 1)) ∧ Framed s o t [] 600086 7301441
def lw_Z (below : List Frame) (a : Array Value) (s : State) : State → Prop := fun t => ∃ o, t.status = .running ∧ Ended t below o ∧ lw_Q a s o t
/-- the law's own end, with 1 on the stack, nothing written that was there before, its room as the claim has it -/
theorem lw_ret {p : Program} {l : Launch} {e : Env} {s : State} {m : MethodId} {below : List Frame} {meth : Method} {c : Code} {b : Nat} (hx : p.tables.exec = Jvm.exec) (hb : c.code = code) (hr : meth.sig.returnType = ret) (hlocks : meth.locks = false) {pc : Nat} {H : Heap} {ls : Array Slot} (hdg : decode code pc = .ok (.ireturn, 1)) : W p l e room_1 s m #[Value.ref b] below meth c H [] 600086 7301441 (lw_Z below #[Value.ref b] s) (F0 m pc ls [.int 1]) := by
  intro T hT X
  obtain ⟨fs, hret, hrun, hended, hW, hframe⟩ := X.leave (v := some (.int 1)) (hlocks := hlocks) (fun h => by rw [hr] at h; cases h)
  have hmeth' : T.vm.method? m = some meth := X.method'
  refine ⟨T.setFrames fs, ?_, .returned (some (.int 1)), hrun, hended, rfl, ⟨_, rfl⟩, hW, hframe⟩
  jvm_step X.here [X.here.top, hx, hb, hdg, hmeth', hr, ret, narrow_b1]
  (try refine ⟨rfl, ?_⟩); (try refine ⟨rfl, ?_⟩)
  first | (intro acts; rw [hret _ acts rfl rfl rfl]) | rw [hret _ _ rfl rfl rfl]
  exact Steps.refl _
/-- what holds at the law's entry: the machine, the code, the tables' words (any of lw_tbl by 'hts w (by decide +kernel)'), the script of L ints xs at the cell b, what the Statement gives of the start (any of its parts by flat_of_before) -/
def lw_At (p : Program) (s : State) (m : MethodId) (meth : Method) (c : Code) (b L : Nat) (xs : Nat → Int32) : Prop :=
  p.tables.exec = Jvm.exec ∧ c.code = code ∧ meth.sig.returnType = ret ∧ c.maxLocals = 1 ∧ s.vm.findClass R_law = some m.cls ∧ (∀ w ∈ lw_tbl, w.before #[Value.ref b] s = true) ∧ va_X b L xs s s.heap ∧ b < s.heap.size ∧ meth.locks = false ∧ (Jvm.Cond.and given_1 narrow_1).before #[Value.ref b] s = true
section
variable {p : Program} {l : Launch} {e : Env} {s : State} {m : MethodId} {args : Array Value} {below : List Frame} {meth : Method} {c : Code} {D : jD} {z : Nat × Nat} {A : Nat → Prop}
set_option maxHeartbeats 4000000 in
set_option maxRecDepth 100000 in
theorem kL_law_0 {b : Nat} {L : Nat} {xs : Nat → Int32} (hX : jXL D z p l s m b L xs meth c)   {μ : jM} {H : Heap} {locs : List Loc} {ls : Array Slot} {cells slots : Nat} (hw : wL_law_0 z b L xs  μ) (hI : jIz D z (jAL s) s.heap μ H locs) (hl : lv_has ls 1 [(0, va_rf (some b))]) (hcn : cells + 2589 ≤ 600086) (hsn : slots + 35148 ≤ 7301441) : W p l e room_1 s m #[Value.ref b] below meth c H locs cells slots (lw_Z below #[Value.ref b] s) (F0 m 0 ls []) := by
  unfold wL_law_0 at hw
  obtain ⟨hx, hb, hml, hown, hts, hr, hlocks, hK, hG, hfl, hXs, hbl⟩ := id hX
  have hS : jXS b L xs (jAL s) s s.heap := ⟨hXs, hbl, Nat.not_le.mpr hbl⟩
  refine j_aload_n (r := (some b)) hx hb dL_law_0 rfl (lv_at hl 0 rfl) ?_
  refine lv_iconst (v := (0)) hx hb dL_law_1 (by decide) ?_
  refine j_goz hI (va_runS (As := [va_rf (some b), .int (0 : Int32)]) (rest := []) ⟨hx, hb, hml, hown, hts⟩ (kL_desk l hfl D z b (0 : Int32) μ H.size L xs _) (va_cwS 2 hts gL_law_L_desk rfl rfl rfl (by decide +kernel) ⟨Nat.le_of_ble_eq_true rfl, Nat.le_of_ble_eq_true rfl⟩) (j_preS hK hG hI hw hS) rfl rfl hl.1 rfl (lv_room (Nat.le_of_ble_eq_true rfl)) dL_law_2 ⟨by show _ ≤ 600086; omega, by show _ ≤ 7301441; omega⟩) (fun v1 μ2 H locs hw hI => ?_)
  refine W.eq (g2 := F0 m 5 ls [.int v1]) rfl ?_
  refine lv_if_eq (tgt := 31) hx hb dL_law_5 (by decide) (fun hc => ?_) (fun hc => ?_)
  · have hw := hw.1 hc
    refine lv_iconst (v := (0)) hx hb dL_law_31 (by decide) ?_
    exact (show False from hw).elim
  · have hw := hw.2 hc
    refine j_aload_n (r := (some b)) hx hb dL_law_8 rfl (lv_at hl 0 rfl) ?_
    refine lv_bipush (v := (125)) hx hb dL_law_9 (by decide) ?_
    refine j_goz hI (va_runS (As := [va_rf (some b), .int (125 : Int32)]) (rest := []) ⟨hx, hb, hml, hown, hts⟩ (kL_desk l hfl D z b (125 : Int32) μ2 H.size L xs _) (va_cwS 2 hts gL_law_L_desk rfl rfl rfl (by decide +kernel) ⟨Nat.le_of_ble_eq_true rfl, Nat.le_of_ble_eq_true rfl⟩) (j_preS hK hG hI hw hS) rfl rfl hl.1 rfl (lv_room (Nat.le_of_ble_eq_true rfl)) dL_law_11 ⟨by show _ ≤ 600086; omega, by show _ ≤ 7301441; omega⟩) (fun v3 μ4 H locs hw hI => ?_)
    refine W.eq (g2 := F0 m 14 ls [.int v3]) rfl ?_
    refine lv_if_eq (tgt := 31) hx hb dL_law_14 (by decide) (fun hc => ?_) (fun hc => ?_)
    · have hw := hw.1 hc
      refine lv_iconst (v := (0)) hx hb dL_law_31 (by decide) ?_
      exact (show False from hw).elim
    · have hw := hw.2 hc
      refine j_aload_n (r := (some b)) hx hb dL_law_17 rfl (lv_at hl 0 rfl) ?_
      refine lv_sipush (v := (250)) hx hb dL_law_18 (by decide) ?_
      refine j_goz hI (va_runS (As := [va_rf (some b), .int (250 : Int32)]) (rest := []) ⟨hx, hb, hml, hown, hts⟩ (kL_desk l hfl D z b (250 : Int32) μ4 H.size L xs _) (va_cwS 2 hts gL_law_L_desk rfl rfl rfl (by decide +kernel) ⟨Nat.le_of_ble_eq_true rfl, Nat.le_of_ble_eq_true rfl⟩) (j_preS hK hG hI hw hS) rfl rfl hl.1 rfl (lv_room (Nat.le_of_ble_eq_true rfl)) dL_law_21 ⟨by show _ ≤ 600086; omega, by show _ ≤ 7301441; omega⟩) (fun v5 μ6 H locs hw hI => ?_)
      refine W.eq (g2 := F0 m 24 ls [.int v5]) rfl ?_
      refine lv_if_eq (tgt := 31) hx hb dL_law_24 (by decide) (fun hc => ?_) (fun hc => ?_)
      · have hw := hw.1 hc
        refine lv_iconst (v := (0)) hx hb dL_law_31 (by decide) ?_
        exact (show False from hw).elim
      · have hw := hw.2 hc
        refine lv_iconst (v := (1)) hx hb dL_law_27 (by decide) ?_
        refine lv_goto (tgt := 32) hx hb dL_law_28 (by decide) ?_
        refine W.widen (k := 600086) (n := 7301441) (by omega) (by omega) ?_
        refine va_forget (fun q hq => hI.2.2.1.2.2 q hq) ?_
        exact lw_ret hx hb hr hlocks dL_law_32
end
