section
variable {p : Program} {l : Launch} {e : Env} {s : State} {m : MethodId} {args : Array Value} {below : List Frame} {meth : Method} {c : Code} {D : jD} {z : Nat × Nat} {A : Nat → Prop}
set_option maxHeartbeats 4000000 in
set_option maxRecDepth 100000 in
theorem kJxa1e45_init_da8c8_0 {b : Nat} (hX : jX2 D z A p l s m args meth c yJxa1e45_init_da8c8 cJxa1e45_init_da8c8 1 wsJxa1e45_init_da8c8 none) {Q : Unit → jM → Prop}   {μ : jM} {H : Heap} {locs : List Loc} {ls : Array Slot} {cells slots : Nat} (hw : wJxa1e45_init_da8c8_0 z b Q  μ) (hI : jIz D z A s.heap μ H locs) (hl : lv_has ls 1 [(0, va_rf (some b))]) (hcn : cells + 0 ≤ 0) (hsn : slots + 0 ≤ 0) : W p l e rmJxa1e45_init_da8c8 s m args below meth c H locs cells slots (MQ below (jRz jfV Q D z A) args s 0 0 A) (F0 m 0 ls []) := by
  unfold wJxa1e45_init_da8c8_0 at hw
  obtain ⟨hx, hb, hml, hown, hts, hr, hlocks, hnm, hK, hG, hfl⟩ := id hX
  have hown : s.vm.findClass RJxa1e45 = some m.cls := hown
  refine j_aload_n (r := (some b)) hx hb dJxa1e45_init_da8c8_0 rfl (lv_at hl 0 rfl) ?_
  refine W.objInit hx hb hown (hts (.methodLink RJxa1e45 1 objectInit) (List.mem_of_getElem? (i := 1) (by decide +kernel))) (hts (.instanceMethod objectInit) (List.mem_of_getElem? (i := 2) (by decide +kernel))) (hts (.code objectInit ⟨#[0xb1]⟩ 1 none) (List.mem_of_getElem? (i := 3) (by decide +kernel))) rfl (by rw [hml]; exact hl.1) rfl dJxa1e45_init_da8c8_1 (Nat.le_of_ble_eq_true rfl) (Nat.le_of_ble_eq_true rfl) ?_
  refine W.eq (g2 := F0 m 4 ls []) rfl ?_
  exact j_vretz hx hb hr hlocks hI hw (by omega) (by omega) dJxa1e45_init_da8c8_4
set_option maxHeartbeats 4000000 in
set_option maxRecDepth 100000 in
theorem kJxa1e45_init_da8c8 (l : Launch) (hfl : l.stackTraces = false) (D : jD) (z : Nat × Nat) (b : Nat)  (μ : jM) (sz : Nat) (Q : Unit → jM → Prop) : Met l yJxa1e45_init_da8c8 wsJxa1e45_init_da8c8 rmJxa1e45_init_da8c8 (jPre2z D z μ sz [.ref b] (wJxa1e45_init_da8c8 z b  μ Q)) (jRz jfV Q D z (jA z μ sz)) 0 0 (jA z μ sz) := by
  refine Met.ofW (cc := cJxa1e45_init_da8c8) (maxL := 1) (ret := none) (by decide) rfl ?_
  intro p e s m args below meth c s₁ B hml hv
  obtain ⟨rfl, hsz, hH, hz0, hK, hG, hw⟩ := hv
  subst hsz
  have hX : jX2 D z (jA z μ s.heap.size) p l s m _ meth c yJxa1e45_init_da8c8 cJxa1e45_init_da8c8 1 wsJxa1e45_init_da8c8 none := ⟨B.exec, B.bytes, hml, findClass_of_methodNamed B.named, atoms_spec (ws := wsJxa1e45_init_da8c8) B.pre, B.returns, B.notSynchronized, (name_of_methodNamed B.named B.method).1, hK, hG, hfl⟩
  obtain ⟨ls, hg, hl⟩ : ∃ ls : Array Slot, entryFrame m ([.ref b] : List Value).toArray 1 = F0 m 0 ls [] ∧ lv_has ls 1 [(0, va_rf (some b))] := by
    exact ⟨_, lg_entry_eq .., lv_entry _ (n := 1) (Nat.le_of_ble_eq_true rfl)⟩
  rw [hg]
  exact kJxa1e45_init_da8c8_0 hX hw (jIz.start hH hz0) (lv_sub hl [0] rfl) (by decide) (by decide)
set_option maxHeartbeats 4000000 in
set_option maxRecDepth 100000 in
theorem kJxc12de_init_da8c8_0 {b : Nat} (hX : jX2 D z A p l s m args meth c yJxc12de_init_da8c8 cJxc12de_init_da8c8 1 wsJxc12de_init_da8c8 none) {Q : Unit → jM → Prop}   {μ : jM} {H : Heap} {locs : List Loc} {ls : Array Slot} {cells slots : Nat} (hw : wJxc12de_init_da8c8_0 z b Q  μ) (hI : jIz D z A s.heap μ H locs) (hl : lv_has ls 1 [(0, va_rf (some b))]) (hcn : cells + 0 ≤ 0) (hsn : slots + 0 ≤ 0) : W p l e rmJxc12de_init_da8c8 s m args below meth c H locs cells slots (MQ below (jRz jfV Q D z A) args s 0 0 A) (F0 m 0 ls []) := by
  unfold wJxc12de_init_da8c8_0 at hw
  obtain ⟨hx, hb, hml, hown, hts, hr, hlocks, hnm, hK, hG, hfl⟩ := id hX
  have hown : s.vm.findClass RJxc12de = some m.cls := hown
  have hfJx4a65c : ∀ w ∈ wsJx4a65c0, w.before args s = true := fun w h => hts w (List.mem_cons_of_mem _ (List.mem_append_right _ h))
  refine j_aload_n (r := (some b)) hx hb dJxc12de_init_da8c8_0 rfl (lv_at hl 0 rfl) ?_
  refine j_goz hI (va_runI (As := []) (rest := []) ⟨hx, hb, hml, hown, hts⟩ (kJxa1e45_init_da8c8 l hfl D z b  μ H.size _) (cwI 0 hts gJxc12de_init_da8c8_Jxa1e45_init_da8c8 rfl rfl rfl (hts (.initialized RJxa1e45) (List.mem_of_getElem? (i := 4) (by decide +kernel))) (hts (.methodLink RJxc12de 1 yJxa1e45_init_da8c8) (List.mem_of_getElem? (i := 2) (by decide +kernel))) (hts (.instanceMethod yJxa1e45_init_da8c8) (List.mem_of_getElem? (i := 3) (by decide +kernel))) rfl (by decide +kernel) ⟨Nat.le_of_ble_eq_true rfl, Nat.le_of_ble_eq_true rfl⟩) (j_prS2z hK hG hI hw) rfl rfl hl.1 rfl (lv_room (Nat.le_of_ble_eq_true rfl)) dJxc12de_init_da8c8_1 ⟨by show _ ≤ 0; omega, by show _ ≤ 0; omega⟩) (fun u1 μ2 H locs hw hI => ?_)
  refine W.eq (g2 := F0 m 4 ls []) rfl ?_
  refine j_aload_n (r := (some b)) hx hb dJxc12de_init_da8c8_4 rfl (lv_at hl 0 rfl) ?_
  refine lv_iconst (v := (0)) hx hb dJxc12de_init_da8c8_5 (by decide) ?_
  obtain ⟨μ3, hμ3, hw⟩ := hw
  refine j_putz (C := RJx4a65c) (T := TJx4a65c) (N := 3) (ci := 2) (r := (some b)) (v := .int (0 : Int32)) hx hb hfJx4a65c tyJx4a65c tyJx4a65c_ok nmJx4a65c hown hK hI rfl 0 (by decide) (hts (.fieldLink RJxc12de 7 "java/util/AbstractList" "modCount" "I") (List.mem_of_getElem? (i := 1) (by decide +kernel))) (fun _ h => h) rfl (tyJx4a65c_ok 0 (by decide)) rfl rfl hμ3 dJxc12de_init_da8c8_6 (fun H locs hI => ?_)
  exact j_vretz hx hb hr hlocks hI hw (by omega) (by omega) dJxc12de_init_da8c8_9
set_option maxHeartbeats 4000000 in
set_option maxRecDepth 100000 in
theorem kJxc12de_init_da8c8 (l : Launch) (hfl : l.stackTraces = false) (D : jD) (z : Nat × Nat) (b : Nat)  (μ : jM) (sz : Nat) (Q : Unit → jM → Prop) : Met l yJxc12de_init_da8c8 wsJxc12de_init_da8c8 rmJxc12de_init_da8c8 (jPre2z D z μ sz [.ref b] (wJxc12de_init_da8c8 z b  μ Q)) (jRz jfV Q D z (jA z μ sz)) 0 0 (jA z μ sz) := by
  refine Met.ofW (cc := cJxc12de_init_da8c8) (maxL := 1) (ret := none) (by decide) rfl ?_
  intro p e s m args below meth c s₁ B hml hv
  obtain ⟨rfl, hsz, hH, hz0, hK, hG, hw⟩ := hv
  subst hsz
  have hX : jX2 D z (jA z μ s.heap.size) p l s m _ meth c yJxc12de_init_da8c8 cJxc12de_init_da8c8 1 wsJxc12de_init_da8c8 none := ⟨B.exec, B.bytes, hml, findClass_of_methodNamed B.named, atoms_spec (ws := wsJxc12de_init_da8c8) B.pre, B.returns, B.notSynchronized, (name_of_methodNamed B.named B.method).1, hK, hG, hfl⟩
  obtain ⟨ls, hg, hl⟩ : ∃ ls : Array Slot, entryFrame m ([.ref b] : List Value).toArray 1 = F0 m 0 ls [] ∧ lv_has ls 1 [(0, va_rf (some b))] := by
    exact ⟨_, lg_entry_eq .., lv_entry _ (n := 1) (Nat.le_of_ble_eq_true rfl)⟩
  rw [hg]
  exact kJxc12de_init_da8c8_0 hX hw (jIz.start hH hz0) (lv_sub hl [0] rfl) (by decide) (by decide)
set_option maxHeartbeats 4000000 in
set_option maxRecDepth 100000 in
theorem kJx4a65c_init_da8c8_0 {b : Nat} (hX : jX2 D z A p l s m args meth c yJx4a65c_init_da8c8 cJx4a65c_init_da8c8 1 wsJx4a65c_init_da8c8 none) {Q : Unit → jM → Prop}   {μ : jM} {H : Heap} {locs : List Loc} {ls : Array Slot} {cells slots : Nat} (hw : wJx4a65c_init_da8c8_0 z b Q  μ) (hI : jIz D z A s.heap μ H locs) (hl : lv_has ls 1 [(0, va_rf (some b))]) (hcn : cells + 0 ≤ 0) (hsn : slots + 0 ≤ 0) : W p l e rmJx4a65c_init_da8c8 s m args below meth c H locs cells slots (MQ below (jRz jfV Q D z A) args s 0 0 A) (F0 m 0 ls []) := by
  unfold wJx4a65c_init_da8c8_0 at hw
  obtain ⟨hx, hb, hml, hown, hts, hr, hlocks, hnm, hK, hG, hfl⟩ := id hX
  have hown : s.vm.findClass RJx4a65c = some m.cls := hown
  have hfJx4a65c : ∀ w ∈ wsJx4a65c0, w.before args s = true := fun w h => hts w (List.mem_cons_of_mem _ (List.mem_append_right _ h))
  refine j_aload_n (r := (some b)) hx hb dJx4a65c_init_da8c8_0 rfl (lv_at hl 0 rfl) ?_
  refine j_goz hI (va_runI (As := []) (rest := []) ⟨hx, hb, hml, hown, hts⟩ (kJxc12de_init_da8c8 l hfl D z b  μ H.size _) (cwI 0 hts gJx4a65c_init_da8c8_Jxc12de_init_da8c8 rfl rfl rfl (hts (.initialized RJxc12de) (List.mem_of_getElem? (i := 5) (by decide +kernel))) (hts (.methodLink RJx4a65c 1 yJxc12de_init_da8c8) (List.mem_of_getElem? (i := 3) (by decide +kernel))) (hts (.instanceMethod yJxc12de_init_da8c8) (List.mem_of_getElem? (i := 4) (by decide +kernel))) rfl (by decide +kernel) ⟨Nat.le_of_ble_eq_true rfl, Nat.le_of_ble_eq_true rfl⟩) (j_prS2z hK hG hI hw) rfl rfl hl.1 rfl (lv_room (Nat.le_of_ble_eq_true rfl)) dJx4a65c_init_da8c8_1 ⟨by show _ ≤ 0; omega, by show _ ≤ 0; omega⟩) (fun u1 μ2 H locs hw hI => ?_)
  refine W.eq (g2 := F0 m 4 ls []) rfl ?_
  refine j_aload_n (r := (some b)) hx hb dJx4a65c_init_da8c8_4 rfl (lv_at hl 0 rfl) ?_
  refine va_gets hx hb hG.1 hI.2.2.1 hown (hts (.fieldLink RJx4a65c 39 "java/util/ArrayList" "DEFAULTCAPACITY_EMPTY_ELEMENTDATA" "[Ljava/lang/Object;") (List.mem_of_getElem? (i := 1) (by decide +kernel))) (fun _ h => h) dJx4a65c_init_da8c8_5 ?_
  refine W.eq (g2 := F0 m 8 ls [va_rf (some z.1), va_rf (some b)]) rfl ?_
  obtain ⟨μ3, hμ3, hw⟩ := hw
  refine j_putz (C := RJx4a65c) (T := TJx4a65c) (N := 3) (ci := 2) (r := (some b)) (v := va_rf (some z.1)) hx hb hfJx4a65c tyJx4a65c tyJx4a65c_ok nmJx4a65c hown hK hI rfl 1 (by decide) (hts (.fieldLink RJx4a65c 9 "java/util/ArrayList" "elementData" "[Ljava/lang/Object;") (List.mem_of_getElem? (i := 2) (by decide +kernel))) (fun _ h => h) rfl (tyJx4a65c_ok 1 (by decide)) (jnra _ (some z.1)) (jfra _ (some z.1)) hμ3 dJx4a65c_init_da8c8_8 (fun H locs hI => ?_)
  exact j_vretz hx hb hr hlocks hI hw (by omega) (by omega) dJx4a65c_init_da8c8_11
set_option maxHeartbeats 4000000 in
set_option maxRecDepth 100000 in
theorem kJx4a65c_init_da8c8 (l : Launch) (hfl : l.stackTraces = false) (D : jD) (z : Nat × Nat) (b : Nat)  (μ : jM) (sz : Nat) (Q : Unit → jM → Prop) : Met l yJx4a65c_init_da8c8 wsJx4a65c_init_da8c8 rmJx4a65c_init_da8c8 (jPre2z D z μ sz [.ref b] (wJx4a65c_init_da8c8 z b  μ Q)) (jRz jfV Q D z (jA z μ sz)) 0 0 (jA z μ sz) := by
  refine Met.ofW (cc := cJx4a65c_init_da8c8) (maxL := 1) (ret := none) (by decide) rfl ?_
  intro p e s m args below meth c s₁ B hml hv
  obtain ⟨rfl, hsz, hH, hz0, hK, hG, hw⟩ := hv
  subst hsz
  have hX : jX2 D z (jA z μ s.heap.size) p l s m _ meth c yJx4a65c_init_da8c8 cJx4a65c_init_da8c8 1 wsJx4a65c_init_da8c8 none := ⟨B.exec, B.bytes, hml, findClass_of_methodNamed B.named, atoms_spec (ws := wsJx4a65c_init_da8c8) B.pre, B.returns, B.notSynchronized, (name_of_methodNamed B.named B.method).1, hK, hG, hfl⟩
  obtain ⟨ls, hg, hl⟩ : ∃ ls : Array Slot, entryFrame m ([.ref b] : List Value).toArray 1 = F0 m 0 ls [] ∧ lv_has ls 1 [(0, va_rf (some b))] := by
    exact ⟨_, lg_entry_eq .., lv_entry _ (n := 1) (Nat.le_of_ble_eq_true rfl)⟩
  rw [hg]
  exact kJx4a65c_init_da8c8_0 hX hw (jIz.start hH hz0) (lv_sub hl [0] rfl) (by decide) (by decide)
set_option maxHeartbeats 4000000 in
set_option maxRecDepth 100000 in
theorem kX2_init_0 {b : Nat} (hX : jX2 D z A p l s m args meth c yX2_init cX2_init 1 wsX2_init none) {Q : Unit → jM → Prop}   {μ : jM} {H : Heap} {locs : List Loc} {ls : Array Slot} {cells slots : Nat} (hw : wX2_init_0 z b Q  μ) (hI : jIz D z A s.heap μ H locs) (hl : lv_has ls 1 [(0, va_rf (some b))]) (hcn : cells + 1 ≤ 1) (hsn : slots + 451 ≤ 451) : W p l e rmX2_init s m args below meth c H locs cells slots (MQ below (jRz jfV Q D z A) args s 1 451 A) (F0 m 0 ls []) := by
  unfold wX2_init_0 at hw
  obtain ⟨hx, hb, hml, hown, hts, hr, hlocks, hnm, hK, hG, hfl⟩ := id hX
  have hown : s.vm.findClass RX2 = some m.cls := hown
  have hfX2 : ∀ w ∈ wsX20, w.before args s = true := fun w h => hts w (List.mem_cons_of_mem _ (List.mem_append_right _ h))
  refine j_aload_n (r := (some b)) hx hb dX2_init_0 rfl (lv_at hl 0 rfl) ?_
  refine W.objInit hx hb hown (hts (.methodLink RX2 3 objectInit) (List.mem_of_getElem? (i := 1) (by decide +kernel))) (hts (.instanceMethod objectInit) (List.mem_of_getElem? (i := 2) (by decide +kernel))) (hts (.code objectInit ⟨#[0xb1]⟩ 1 none) (List.mem_of_getElem? (i := 3) (by decide +kernel))) rfl (by rw [hml]; exact hl.1) rfl dX2_init_1 (Nat.le_of_ble_eq_true rfl) (Nat.le_of_ble_eq_true rfl) ?_
  refine W.eq (g2 := F0 m 4 ls []) rfl ?_
  refine j_aload_n (r := (some b)) hx hb dX2_init_4 rfl (lv_at hl 0 rfl) ?_
  refine lv_sipush (v := (451)) hx hb dX2_init_5 (by decide) ?_
  refine j_newaz (atype := .boolean) (ty := .boolean) (t := 2) (N' := 451) (a0 := (451, .inl (fun _ => 0))) hx hb (hts (.arrayClass .boolean) (List.mem_of_getElem? (i := 4) (by decide +kernel))) rfl hK hI (fun cA h => Option.some.inj (h.symm.trans ((hK.2 2 (D.2 2, .boolean) rfl).2))) (fun cA => rfl) (by decide) (by decide) (by decide) (by show _ ≤ 1; omega) (by show _ ≤ 451; omega) dX2_init_8 (fun q1 H hq1 hI => ?_)
  have hw := hw q1 hq1
  obtain ⟨μ2, hμ2, hw⟩ := hw
  refine j_putFz (C := RX2) (T := TX2) (N := 1) (ci := 5) (r := (some b)) (v := va_rf (some q1)) hx hb hfX2 tyX2 tyX2_ok nmX2 hown hK hI rfl 0 (by decide) (hts (.fieldLink RX2 9 "CashPools$Calendar" "holiday" "[Z") (List.mem_of_getElem? (i := 5) (by decide +kernel))) (fun _ h => h) rfl hnm rfl (tyX2_ok 0 (by decide)) (jnra _ (some q1)) (jfra _ (some q1)) hμ2 dX2_init_10 (fun H locs hI => ?_)
  exact j_vretz hx hb hr hlocks hI hw (by omega) (by omega) dX2_init_13
set_option maxHeartbeats 4000000 in
set_option maxRecDepth 100000 in
theorem kX2_init (l : Launch) (hfl : l.stackTraces = false) (D : jD) (z : Nat × Nat) (b : Nat)  (μ : jM) (sz : Nat) (Q : Unit → jM → Prop) : Met l yX2_init wsX2_init rmX2_init (jPre2z D z μ sz [.ref b] (wX2_init z b  μ Q)) (jRz jfV Q D z (jA z μ sz)) 1 451 (jA z μ sz) := by
  refine Met.ofW (cc := cX2_init) (maxL := 1) (ret := none) (by decide) rfl ?_
  intro p e s m args below meth c s₁ B hml hv
  obtain ⟨rfl, hsz, hH, hz0, hK, hG, hw⟩ := hv
  subst hsz
  have hX : jX2 D z (jA z μ s.heap.size) p l s m _ meth c yX2_init cX2_init 1 wsX2_init none := ⟨B.exec, B.bytes, hml, findClass_of_methodNamed B.named, atoms_spec (ws := wsX2_init) B.pre, B.returns, B.notSynchronized, (name_of_methodNamed B.named B.method).1, hK, hG, hfl⟩
  obtain ⟨ls, hg, hl⟩ : ∃ ls : Array Slot, entryFrame m ([.ref b] : List Value).toArray 1 = F0 m 0 ls [] ∧ lv_has ls 1 [(0, va_rf (some b))] := by
    exact ⟨_, lg_entry_eq .., lv_entry _ (n := 1) (Nat.le_of_ble_eq_true rfl)⟩
  rw [hg]
  exact kX2_init_0 hX hw (jIz.start hH hz0) (lv_sub hl [0] rfl) (by decide) (by decide)
set_option maxHeartbeats 4000000 in
set_option maxRecDepth 100000 in
theorem kX1_init_0 {b : Nat} (hX : jX2 D z A p l s m args meth c yX1_init cX1_init 2 wsX1_init none) {Q : Unit → jM → Prop}  {x1 : Int32} {μ : jM} {H : Heap} {locs : List Loc} {ls : Array Slot} {cells slots : Nat} (hw : wX1_init_0 z b Q x1 μ) (hI : jIz D z A s.heap μ H locs) (hl : lv_has ls 2 [(0, va_rf (some b)), (1, .int x1)]) (hcn : cells + 0 ≤ 0) (hsn : slots + 0 ≤ 0) : W p l e rmX1_init s m args below meth c H locs cells slots (MQ below (jRz jfV Q D z A) args s 0 0 A) (F0 m 0 ls []) := by
  unfold wX1_init_0 at hw
  obtain ⟨hx, hb, hml, hown, hts, hr, hlocks, hnm, hK, hG, hfl⟩ := id hX
  have hown : s.vm.findClass RX1 = some m.cls := hown
  have hfX1 : ∀ w ∈ wsX10, w.before args s = true := fun w h => hts w (List.mem_cons_of_mem _ (List.mem_append_right _ h))
  refine j_aload_n (r := (some b)) hx hb dX1_init_0 rfl (lv_at hl 0 rfl) ?_
  refine W.objInit hx hb hown (hts (.methodLink RX1 3 objectInit) (List.mem_of_getElem? (i := 1) (by decide +kernel))) (hts (.instanceMethod objectInit) (List.mem_of_getElem? (i := 2) (by decide +kernel))) (hts (.code objectInit ⟨#[0xb1]⟩ 1 none) (List.mem_of_getElem? (i := 3) (by decide +kernel))) rfl (by rw [hml]; exact hl.1) rfl dX1_init_1 (Nat.le_of_ble_eq_true rfl) (Nat.le_of_ble_eq_true rfl) ?_
  refine W.eq (g2 := F0 m 4 ls []) rfl ?_
  refine j_aload_n (r := (some b)) hx hb dX1_init_4 rfl (lv_at hl 0 rfl) ?_
  refine lv_iconst (v := (-1)) hx hb dX1_init_5 (by decide) ?_
  obtain ⟨μ1, hμ1, hw⟩ := hw
  refine j_putz (C := RX1) (T := TX1) (N := 3) (ci := 4) (r := (some b)) (v := .int (-1 : Int32)) hx hb hfX1 tyX1 tyX1_ok nmX1 hown hK hI rfl 1 (by decide) (hts (.fieldLink RX1 9 "CashPools$Bank" "limit" "I") (List.mem_of_getElem? (i := 4) (by decide +kernel))) (fun _ h => h) rfl (tyX1_ok 1 (by decide)) rfl rfl hμ1 dX1_init_6 (fun H locs hI => ?_)
  refine j_aload_n (r := (some b)) hx hb dX1_init_9 rfl (lv_at hl 0 rfl) ?_
  refine lv_iload_n hx hb dX1_init_10 rfl (lv_at hl 1 rfl) ?_
  obtain ⟨μ2, hμ2, hw⟩ := hw
  refine j_putFz (C := RX1) (T := TX1) (N := 3) (ci := 4) (r := (some b)) (v := .int x1) hx hb hfX1 tyX1 tyX1_ok nmX1 hown hK hI rfl 0 (by decide) (hts (.fieldLink RX1 15 "CashPools$Bank" "number" "I") (List.mem_of_getElem? (i := 5) (by decide +kernel))) (fun _ h => h) rfl hnm rfl (tyX1_ok 0 (by decide)) rfl rfl hμ2 dX1_init_11 (fun H locs hI => ?_)
  exact j_vretz hx hb hr hlocks hI hw (by omega) (by omega) dX1_init_14
set_option maxHeartbeats 4000000 in
set_option maxRecDepth 100000 in
theorem kX1_init (l : Launch) (hfl : l.stackTraces = false) (D : jD) (z : Nat × Nat) (b : Nat) (x1 : Int32) (μ : jM) (sz : Nat) (Q : Unit → jM → Prop) : Met l yX1_init wsX1_init rmX1_init (jPre2z D z μ sz [.ref b, .int x1] (wX1_init z b x1 μ Q)) (jRz jfV Q D z (jA z μ sz)) 0 0 (jA z μ sz) := by
  refine Met.ofW (cc := cX1_init) (maxL := 2) (ret := none) (by decide) rfl ?_
  intro p e s m args below meth c s₁ B hml hv
  obtain ⟨rfl, hsz, hH, hz0, hK, hG, hw⟩ := hv
  subst hsz
  have hX : jX2 D z (jA z μ s.heap.size) p l s m _ meth c yX1_init cX1_init 2 wsX1_init none := ⟨B.exec, B.bytes, hml, findClass_of_methodNamed B.named, atoms_spec (ws := wsX1_init) B.pre, B.returns, B.notSynchronized, (name_of_methodNamed B.named B.method).1, hK, hG, hfl⟩
  obtain ⟨ls, hg, hl⟩ : ∃ ls : Array Slot, entryFrame m ([.ref b, .int x1] : List Value).toArray 2 = F0 m 0 ls [] ∧ lv_has ls 2 [(0, va_rf (some b)), (1, .int x1)] := by
    exact ⟨_, lg_entry_eq .., lv_entry _ (n := 2) (Nat.le_of_ble_eq_true rfl)⟩
  rw [hg]
  exact kX1_init_0 hX hw (jIz.start hH hz0) (lv_sub hl [0, 1] rfl) (by decide) (by decide)
set_option maxHeartbeats 4000000 in
set_option maxRecDepth 100000 in
theorem kJ8_hugeLength_7cf53_0 (hX : jX2 D z A p l s m args meth c yJ8_hugeLength_7cf53 cJ8_hugeLength_7cf53 3 wsJ8_hugeLength_7cf53 (some .int)) {Q : Int32 → jM → Prop}  {x0 : Int32} {x1 : Int32} {μ : jM} {H : Heap} {locs : List Loc} {ls : Array Slot} {cells slots : Nat} (hw : wJ8_hugeLength_7cf53_0 z Q x0 x1 μ) (hI : jIz D z A s.heap μ H locs) (hl : lv_has ls 3 [(0, .int x0), (1, .int x1)]) (hcn : cells + 0 ≤ 0) (hsn : slots + 0 ≤ 0) : W p l e rmJ8_hugeLength_7cf53 s m args below meth c H locs cells slots (MQ below (jRz jfI Q D z A) args s 0 0 A) (F0 m 0 ls []) := by
  unfold wJ8_hugeLength_7cf53_0 at hw
  obtain ⟨hx, hb, hml, hown, hts, hr, hlocks, hnm, hK, hG, hfl⟩ := id hX
  have hown : s.vm.findClass RJ8 = some m.cls := hown
  refine lv_iload_n hx hb dJ8_hugeLength_7cf53_0 rfl (lv_at hl 0 rfl) ?_
  refine lv_iload_n hx hb dJ8_hugeLength_7cf53_1 rfl (lv_at hl 1 rfl) ?_
  refine lv_iadd hx hb dJ8_hugeLength_7cf53_2 ?_
  refine lv_topi (fun v1 ev1 => ?_)
  have hw := hw v1 ev1
  refine lv_istore_n (lv' := [(2, .int v1), (0, .int x0), (1, .int x1)]) hx hb dJ8_hugeLength_7cf53_3 rfl hl (by decide) rfl (fun ls hl => ?_)
  refine lv_iload_n hx hb dJ8_hugeLength_7cf53_4 rfl (lv_at hl 0 rfl) ?_
  refine lv_if_ge (tgt := 49) hx hb dJ8_hugeLength_7cf53_5 (by decide) (fun hc => ?_) (fun hc => ?_)
  · have hw := hw.1 hc
    refine lv_iload_n hx hb dJ8_hugeLength_7cf53_49 rfl (lv_at hl 0 rfl) ?_
    refine lv_ldc (v := (2147483639)) hx hb hown (hts (.constant RJ8 200 (2147483639)) (List.mem_of_getElem? (i := 1) (by decide +kernel))) dJ8_hugeLength_7cf53_50 ?_
    refine lv_icmp_gt (tgt := 58) hx hb dJ8_hugeLength_7cf53_52 (by decide) (fun hc => ?_) (fun hc => ?_)
    · have hw := hw.1 hc
      refine lv_iload_n hx hb dJ8_hugeLength_7cf53_58 rfl (lv_at hl 0 rfl) ?_
      exact j_iretz hx hb hr hlocks hI hw (by omega) (by omega) dJ8_hugeLength_7cf53_59
    · have hw := hw.2 hc
      refine lv_ldc (v := (2147483639)) hx hb hown (hts (.constant RJ8 200 (2147483639)) (List.mem_of_getElem? (i := 1) (by decide +kernel))) dJ8_hugeLength_7cf53_55 ?_
      exact j_iretz hx hb hr hlocks hI hw (by omega) (by omega) dJ8_hugeLength_7cf53_57
  · have hw := hw.2 hc
    exact (show False from hw).elim
set_option maxHeartbeats 4000000 in
set_option maxRecDepth 100000 in
theorem kJ8_hugeLength_7cf53 (l : Launch) (hfl : l.stackTraces = false) (D : jD) (z : Nat × Nat) (x0 : Int32) (x1 : Int32) (μ : jM) (sz : Nat) (Q : Int32 → jM → Prop) : Met l yJ8_hugeLength_7cf53 wsJ8_hugeLength_7cf53 rmJ8_hugeLength_7cf53 (jPre2z D z μ sz [.int x0, .int x1] (wJ8_hugeLength_7cf53 z x0 x1 μ Q)) (jRz jfI Q D z (jA z μ sz)) 0 0 (jA z μ sz) := by
  refine Met.ofW (cc := cJ8_hugeLength_7cf53) (maxL := 3) (ret := (some .int)) (by decide) rfl ?_
  intro p e s m args below meth c s₁ B hml hv
  obtain ⟨rfl, hsz, hH, hz0, hK, hG, hw⟩ := hv
  subst hsz
  have hX : jX2 D z (jA z μ s.heap.size) p l s m _ meth c yJ8_hugeLength_7cf53 cJ8_hugeLength_7cf53 3 wsJ8_hugeLength_7cf53 (some .int) := ⟨B.exec, B.bytes, hml, findClass_of_methodNamed B.named, atoms_spec (ws := wsJ8_hugeLength_7cf53) B.pre, B.returns, B.notSynchronized, (name_of_methodNamed B.named B.method).1, hK, hG, hfl⟩
  obtain ⟨ls, hg, hl⟩ : ∃ ls : Array Slot, entryFrame m ([.int x0, .int x1] : List Value).toArray 3 = F0 m 0 ls [] ∧ lv_has ls 3 [(0, .int x0), (1, .int x1)] := by
    exact ⟨_, lg_entry_eq .., lv_entry _ (n := 3) (Nat.le_of_ble_eq_true rfl)⟩
  rw [hg]
  exact kJ8_hugeLength_7cf53_0 hX hw (jIz.start hH hz0) (lv_sub hl [0, 1] rfl) (by decide) (by decide)
set_option maxHeartbeats 4000000 in
set_option maxRecDepth 100000 in
theorem kJ8_newLength_cabcc_21 (hX : jX2 D z A p l s m args meth c yJ8_newLength_cabcc cJ8_newLength_cabcc 4 wsJ8_newLength_cabcc (some .int)) {Q : Int32 → jM → Prop}  {x0 : Int32} {x1 : Int32} {μ : jM} {H : Heap} {locs : List Loc} {ls : Array Slot} {cells slots : Nat} (hw : wJ8_newLength_cabcc_21 z Q x0 x1 μ) (hI : jIz D z A s.heap μ H locs) (hl : lv_has ls 4 [(0, .int x0), (1, .int x1)]) (hcn : cells + 0 ≤ 0) (hsn : slots + 0 ≤ 0) : W p l e rmJ8_newLength_cabcc s m args below meth c H locs cells slots (MQ below (jRz jfI Q D z A) args s 0 0 A) (F0 m 21 ls []) := by
  unfold wJ8_newLength_cabcc_21 at hw
  obtain ⟨hx, hb, hml, hown, hts, hr, hlocks, hnm, hK, hG, hfl⟩ := id hX
  have hown : s.vm.findClass RJ8 = some m.cls := hown
  refine lv_iload_n hx hb dJ8_newLength_cabcc_21 rfl (lv_at hl 0 rfl) ?_
  refine lv_iload_n hx hb dJ8_newLength_cabcc_22 rfl (lv_at hl 1 rfl) ?_
  refine j_goz hI (va_runS (As := [.int x0, .int x1]) (rest := []) ⟨hx, hb, hml, hown, hts⟩ (kJ8_hugeLength_7cf53 l hfl D z x0 x1 μ H.size _) (va_cwS 2 hts gJ8_newLength_cabcc_J8_hugeLength_7cf53 rfl rfl rfl (by decide +kernel) ⟨Nat.le_of_ble_eq_true rfl, Nat.le_of_ble_eq_true rfl⟩) (j_prS2z hK hG hI hw) rfl rfl hl.1 rfl (lv_room (Nat.le_of_ble_eq_true rfl)) dJ8_newLength_cabcc_23 ⟨by show _ ≤ 0; omega, by show _ ≤ 0; omega⟩) (fun v1 μ2 H locs hw hI => ?_)
  refine W.eq (g2 := F0 m 26 ls [.int v1]) rfl ?_
  exact j_iretz hx hb hr hlocks hI hw (by omega) (by omega) dJ8_newLength_cabcc_26
set_option maxHeartbeats 4000000 in
set_option maxRecDepth 100000 in
theorem kJ8_newLength_cabcc_0 (hX : jX2 D z A p l s m args meth c yJ8_newLength_cabcc cJ8_newLength_cabcc 4 wsJ8_newLength_cabcc (some .int)) {Q : Int32 → jM → Prop}  {x0 : Int32} {x1 : Int32} {x2 : Int32} {μ : jM} {H : Heap} {locs : List Loc} {ls : Array Slot} {cells slots : Nat} (hw : wJ8_newLength_cabcc_0 z Q x0 x1 x2 μ) (hI : jIz D z A s.heap μ H locs) (hl : lv_has ls 4 [(0, .int x0), (1, .int x1), (2, .int x2)]) (hcn : cells + 0 ≤ 0) (hsn : slots + 0 ≤ 0) : W p l e rmJ8_newLength_cabcc s m args below meth c H locs cells slots (MQ below (jRz jfI Q D z A) args s 0 0 A) (F0 m 0 ls []) := by
  unfold wJ8_newLength_cabcc_0 at hw
  obtain ⟨hx, hb, hml, hown, hts, hr, hlocks, hnm, hK, hG, hfl⟩ := id hX
  have hown : s.vm.findClass RJ8 = some m.cls := hown
  refine lv_iload_n hx hb dJ8_newLength_cabcc_0 rfl (lv_at hl 0 rfl) ?_
  refine lv_iload_n hx hb dJ8_newLength_cabcc_1 rfl (lv_at hl 1 rfl) ?_
  refine lv_iload_n hx hb dJ8_newLength_cabcc_2 rfl (lv_at hl 2 rfl) ?_
  refine va_mmax hx hb (by rw [hml]; exact hl.1.symm) hown (hts (.methodLink RJ8 194 Lib.Math.max.name) (List.mem_of_getElem? (i := 1) (by decide +kernel))) (hts (.static Lib.Math.max.name) (List.mem_of_getElem? (i := 2) (by decide +kernel))) (hts (.initialized "java/lang/Math") (List.mem_of_getElem? (i := 3) (by decide +kernel))) (hts (.code Lib.Math.max.name Lib.Math.max.code 2 (some .int)) (List.mem_of_getElem? (i := 4) (by decide +kernel))) (Nat.le_of_ble_eq_true rfl) (Nat.le_of_ble_eq_true rfl) (by show _ ≤ 0; omega) (by show _ ≤ 0; omega) dJ8_newLength_cabcc_3 ?_
  refine lv_iadd hx hb dJ8_newLength_cabcc_6 ?_
  refine lv_topi (fun v1 ev1 => ?_)
  have hw := hw v1 ev1
  refine lv_istore_n (lv' := [(3, .int v1), (0, .int x0), (1, .int x1), (2, .int x2)]) hx hb dJ8_newLength_cabcc_7 rfl hl (by decide) rfl (fun ls hl => ?_)
  refine lv_iconst (v := (0)) hx hb dJ8_newLength_cabcc_8 (by decide) ?_
  refine lv_iload_n hx hb dJ8_newLength_cabcc_9 rfl (lv_at hl 0 rfl) ?_
  refine lv_icmp_ge (tgt := 21) hx hb dJ8_newLength_cabcc_10 (by decide) (fun hc => ?_) (fun hc => ?_)
  · have hw := hw.1 hc
    exact kJ8_newLength_cabcc_21 hX  hw hI (lv_sub hl [1, 2] rfl) (by omega) (by omega)
  · have hw := hw.2 hc
    refine lv_iload_n hx hb dJ8_newLength_cabcc_13 rfl (lv_at hl 0 rfl) ?_
    refine lv_ldc (v := (2147483639)) hx hb hown (hts (.constant RJ8 200 (2147483639)) (List.mem_of_getElem? (i := 5) (by decide +kernel))) dJ8_newLength_cabcc_14 ?_
    refine lv_icmp_gt (tgt := 21) hx hb dJ8_newLength_cabcc_16 (by decide) (fun hc => ?_) (fun hc => ?_)
    · have hw := hw.1 hc
      exact kJ8_newLength_cabcc_21 hX  hw hI (lv_sub hl [1, 2] rfl) (by omega) (by omega)
    · have hw := hw.2 hc
      refine lv_iload_n hx hb dJ8_newLength_cabcc_19 rfl (lv_at hl 0 rfl) ?_
      exact j_iretz hx hb hr hlocks hI hw (by omega) (by omega) dJ8_newLength_cabcc_20
set_option maxHeartbeats 4000000 in
set_option maxRecDepth 100000 in
theorem kJ8_newLength_cabcc (l : Launch) (hfl : l.stackTraces = false) (D : jD) (z : Nat × Nat) (x0 : Int32) (x1 : Int32) (x2 : Int32) (μ : jM) (sz : Nat) (Q : Int32 → jM → Prop) : Met l yJ8_newLength_cabcc wsJ8_newLength_cabcc rmJ8_newLength_cabcc (jPre2z D z μ sz [.int x0, .int x1, .int x2] (wJ8_newLength_cabcc z x0 x1 x2 μ Q)) (jRz jfI Q D z (jA z μ sz)) 0 0 (jA z μ sz) := by
  refine Met.ofW (cc := cJ8_newLength_cabcc) (maxL := 4) (ret := (some .int)) (by decide) rfl ?_
  intro p e s m args below meth c s₁ B hml hv
  obtain ⟨rfl, hsz, hH, hz0, hK, hG, hw⟩ := hv
  subst hsz
  have hX : jX2 D z (jA z μ s.heap.size) p l s m _ meth c yJ8_newLength_cabcc cJ8_newLength_cabcc 4 wsJ8_newLength_cabcc (some .int) := ⟨B.exec, B.bytes, hml, findClass_of_methodNamed B.named, atoms_spec (ws := wsJ8_newLength_cabcc) B.pre, B.returns, B.notSynchronized, (name_of_methodNamed B.named B.method).1, hK, hG, hfl⟩
  obtain ⟨ls, hg, hl⟩ : ∃ ls : Array Slot, entryFrame m ([.int x0, .int x1, .int x2] : List Value).toArray 4 = F0 m 0 ls [] ∧ lv_has ls 4 [(0, .int x0), (1, .int x1), (2, .int x2)] := by
    exact ⟨_, lg_entry_eq .., lv_entry _ (n := 4) (Nat.le_of_ble_eq_true rfl)⟩
  rw [hg]
  exact kJ8_newLength_cabcc_0 hX hw (jIz.start hH hz0) (lv_sub hl [0, 1, 2] rfl) (by decide) (by decide)
set_option maxHeartbeats 4000000 in
set_option maxRecDepth 100000 in
theorem kJ7_copyOf_6403c_24 (hX : jX2 D z A p l s m args meth c yJ7_copyOf_6403c cJ7_copyOf_6403c 4 wsJ7_copyOf_6403c (some (.array (.object "java/lang/Object")))) {Q : Option Nat → jM → Prop}  {x0 : Option Nat} {x1 : Int32} {t0 : Option Nat} {μ : jM} {H : Heap} {locs : List Loc} {ls : Array Slot} {cells slots : Nat} (hw : wJ7_copyOf_6403c_24 z Q x0 x1 t0 μ) (hI : jIz D z A s.heap μ H locs) (hl : lv_has ls 4 [(0, va_rf x0), (1, .int x1)]) (hcn : cells + 0 ≤ 1) (hsn : slots + 0 ≤ 32) : W p l e rmJ7_copyOf_6403c s m args below meth c H locs cells slots (MQ below (jRz jfR Q D z A) args s 1 32 A) (F0 m 24 ls [va_rf t0]) := by
  unfold wJ7_copyOf_6403c_24 at hw
  obtain ⟨hx, hb, hml, hown, hts, hr, hlocks, hnm, hK, hG, hfl⟩ := id hX
  have hown : s.vm.findClass RJ7 = some m.cls := hown
  refine j_astore_n (r := t0) (lv' := [(3, va_rf t0), (0, va_rf x0), (1, .int x1)]) hx hb dJ7_copyOf_6403c_24 rfl hl (by decide) rfl (fun ls hl => ?_)
  refine j_aload_n (r := x0) hx hb dJ7_copyOf_6403c_25 rfl (lv_at hl 1 rfl) ?_
  refine lv_iconst (v := (0)) hx hb dJ7_copyOf_6403c_26 (by decide) ?_
  refine j_aload_n (r := t0) hx hb dJ7_copyOf_6403c_27 rfl (lv_at hl 0 rfl) ?_
  refine lv_iconst (v := (0)) hx hb dJ7_copyOf_6403c_28 (by decide) ?_
  refine j_aload_n (r := x0) hx hb dJ7_copyOf_6403c_29 rfl (lv_at hl 1 rfl) ?_
  obtain ⟨v1, hv1, hw⟩ := hw
  refine j_alenz (r := x0) hx hb hK hI hv1 dJ7_copyOf_6403c_30 ?_
  refine lv_iload_n hx hb dJ7_copyOf_6403c_31 rfl (lv_at hl 2 rfl) ?_
  refine va_mmin hx hb (by rw [hml]; exact hl.1.symm) hown (hts (.methodLink RJ7 304 Lib.Math.min.name) (List.mem_of_getElem? (i := 3) (by decide +kernel))) (hts (.static Lib.Math.min.name) (List.mem_of_getElem? (i := 4) (by decide +kernel))) (hts (.initialized "java/lang/Math") (List.mem_of_getElem? (i := 5) (by decide +kernel))) (hts (.code Lib.Math.min.name Lib.Math.min.code 2 (some .int)) (List.mem_of_getElem? (i := 6) (by decide +kernel))) (Nat.le_of_ble_eq_true rfl) (by simp only [List.map, List.sum_cons, List.sum_nil, jrc, jci, jcl, jcr, jcn]; exact Nat.le_of_ble_eq_true rfl) (by show _ ≤ 1; omega) (by show _ ≤ 32; omega) dJ7_copyOf_6403c_32 ?_
  obtain ⟨μ2, hμ2, hw⟩ := hw
  refine j_copyqz (r0 := x0) (r1 := t0) hx hb (by rw [hml]; exact hl.1.symm) hown (hts (.methodLink RJ7 150 arraycopyName) (List.mem_of_getElem? (i := 7) (by decide +kernel))) (hts (.native arraycopyName) (List.mem_of_getElem? (i := 8) (by decide +kernel))) (hts (.static arraycopyName) (List.mem_of_getElem? (i := 9) (by decide +kernel))) (hts (.initialized "java/lang/System") (List.mem_of_getElem? (i := 10) (by decide +kernel))) hG.2.2.2.2.2.2.1 hK hI hμ2 (Nat.le_of_ble_eq_true rfl) (by simp only [List.map, List.sum_cons, List.sum_nil, jrc, jci, jcl, jcr, jcn]; exact Nat.le_of_ble_eq_true rfl) dJ7_copyOf_6403c_35 (fun H locs hI => ?_)
  refine j_aload_n (r := t0) hx hb dJ7_copyOf_6403c_38 rfl (lv_at hl 0 rfl) ?_
  exact j_aretz (v := t0) hx hb hr (Or.inr ⟨_, rfl⟩) hlocks hI hw (by omega) (by omega) dJ7_copyOf_6403c_39
set_option maxHeartbeats 4000000 in
set_option maxRecDepth 100000 in
theorem kJ7_copyOf_6403c_0 (hX : jX2 D z A p l s m args meth c yJ7_copyOf_6403c cJ7_copyOf_6403c 4 wsJ7_copyOf_6403c (some (.array (.object "java/lang/Object")))) {Q : Option Nat → jM → Prop}  {x0 : Option Nat} {x1 : Int32} {x2 : Option Nat} {μ : jM} {H : Heap} {locs : List Loc} {ls : Array Slot} {cells slots : Nat} (hw : wJ7_copyOf_6403c_0 z Q x0 x1 x2 μ) (hI : jIz D z A s.heap μ H locs) (hl : lv_has ls 4 [(0, va_rf x0), (1, .int x1), (2, va_rf x2)]) (hcn : cells + 1 ≤ 1) (hsn : slots + 32 ≤ 32) : W p l e rmJ7_copyOf_6403c s m args below meth c H locs cells slots (MQ below (jRz jfR Q D z A) args s 1 32 A) (F0 m 0 ls []) := by
  unfold wJ7_copyOf_6403c_0 at hw
  obtain ⟨hx, hb, hml, hown, hts, hr, hlocks, hnm, hK, hG, hfl⟩ := id hX
  have hown : s.vm.findClass RJ7 = some m.cls := hown
  refine j_aload_n (r := x2) hx hb dJ7_copyOf_6403c_0 rfl (lv_at hl 2 rfl) ?_
  refine va_ldcM hx hb hown (hts (.classLink RJ7 110 "[Ljava/lang/Object;") (List.mem_of_getElem? (i := 1) (by decide +kernel))) hG.2.2.2.1 dJ7_copyOf_6403c_1 ?_
  refine W.eq (g2 := F0 m 3 ls [va_rf (some z.2), va_rf x2]) rfl ?_
  refine lv_acmp_ne (rx := x2) (ry := (some z.2)) (tgt := 13) hx hb dJ7_copyOf_6403c_3 (by decide) (fun hc => ?_) (fun hc => ?_)
  · have hw := hw.1 hc
    refine j_aload_n (r := x2) hx hb dJ7_copyOf_6403c_13 rfl (lv_at hl 2 rfl) ?_
    exact (show False from hw).elim
  · have hw := hw.2 hc
    refine lv_iload_n hx hb dJ7_copyOf_6403c_6 rfl (lv_at hl 1 rfl) ?_
    obtain ⟨N2, hN21, hN22, hN23, hw⟩ := hw
    refine W.widen (k := cells + 0) (n := slots + (32 - N2)) (by omega) (by omega) ?_
    refine j_newqz (N' := N2) hx hb hown (hts (.classLink RJ7 2 "java/lang/Object") (List.mem_of_getElem? (i := 2) (by decide +kernel))) hG.2.2.2.2.1 hK hI rfl hN22 hN21 (by omega) (by show _ ≤ 1; omega) (by show _ ≤ 32; omega) dJ7_copyOf_6403c_7 (fun q1 H hq1 hI => ?_)
    have hw := hw q1 hq1
    refine lv_goto (tgt := 24) hx hb dJ7_copyOf_6403c_10 (by decide) ?_
    exact kJ7_copyOf_6403c_24 hX  hw hI (lv_sub hl [0, 1] rfl) (by omega) (by omega)
set_option maxHeartbeats 4000000 in
set_option maxRecDepth 100000 in
theorem kJ7_copyOf_6403c (l : Launch) (hfl : l.stackTraces = false) (D : jD) (z : Nat × Nat) (x0 : Option Nat) (x1 : Int32) (x2 : Option Nat) (μ : jM) (sz : Nat) (Q : Option Nat → jM → Prop) : Met l yJ7_copyOf_6403c wsJ7_copyOf_6403c rmJ7_copyOf_6403c (jPre2z D z μ sz [va_rf x0, .int x1, va_rf x2] (wJ7_copyOf_6403c z x0 x1 x2 μ Q)) (jRz jfR Q D z (jA z μ sz)) 1 32 (jA z μ sz) := by
  refine Met.ofW (cc := cJ7_copyOf_6403c) (maxL := 4) (ret := (some (.array (.object "java/lang/Object")))) (by decide) rfl ?_
  intro p e s m args below meth c s₁ B hml hv
  obtain ⟨rfl, hsz, hH, hz0, hK, hG, hw⟩ := hv
  subst hsz
  have hX : jX2 D z (jA z μ s.heap.size) p l s m _ meth c yJ7_copyOf_6403c cJ7_copyOf_6403c 4 wsJ7_copyOf_6403c (some (.array (.object "java/lang/Object"))) := ⟨B.exec, B.bytes, hml, findClass_of_methodNamed B.named, atoms_spec (ws := wsJ7_copyOf_6403c) B.pre, B.returns, B.notSynchronized, (name_of_methodNamed B.named B.method).1, hK, hG, hfl⟩
  obtain ⟨ls, hg, hl⟩ : ∃ ls : Array Slot, entryFrame m ([va_rf x0, .int x1, va_rf x2] : List Value).toArray 4 = F0 m 0 ls [] ∧ lv_has ls 4 [(0, va_rf x0), (1, .int x1), (2, va_rf x2)] := by
    cases x0 <;> cases x2 <;> exact ⟨_, lg_entry_eq .., lv_entry _ (n := 4) (Nat.le_of_ble_eq_true rfl)⟩
  rw [hg]
  exact kJ7_copyOf_6403c_0 hX hw (jIz.start hH hz0) (lv_sub hl [0, 1, 2] rfl) (by decide) (by decide)
set_option maxHeartbeats 4000000 in
set_option maxRecDepth 100000 in
theorem kJ7_copyOf_1904c_0 (hX : jX2 D z A p l s m args meth c yJ7_copyOf_1904c cJ7_copyOf_1904c 2 wsJ7_copyOf_1904c (some (.array (.object "java/lang/Object")))) {Q : Option Nat → jM → Prop}  {x0 : Option Nat} {x1 : Int32} {μ : jM} {H : Heap} {locs : List Loc} {ls : Array Slot} {cells slots : Nat} (hw : wJ7_copyOf_1904c_0 z Q x0 x1 μ) (hI : jIz D z A s.heap μ H locs) (hl : lv_has ls 2 [(0, va_rf x0), (1, .int x1)]) (hcn : cells + 1 ≤ 1) (hsn : slots + 32 ≤ 32) : W p l e rmJ7_copyOf_1904c s m args below meth c H locs cells slots (MQ below (jRz jfR Q D z A) args s 1 32 A) (F0 m 0 ls []) := by
  unfold wJ7_copyOf_1904c_0 at hw
  obtain ⟨hx, hb, hml, hown, hts, hr, hlocks, hnm, hK, hG, hfl⟩ := id hX
  have hown : s.vm.findClass RJ7 = some m.cls := hown
  refine j_aload_n (r := x0) hx hb dJ7_copyOf_1904c_0 rfl (lv_at hl 0 rfl) ?_
  refine lv_iload_n hx hb dJ7_copyOf_1904c_1 rfl (lv_at hl 1 rfl) ?_
  refine j_aload_n (r := x0) hx hb dJ7_copyOf_1904c_2 rfl (lv_at hl 0 rfl) ?_
  obtain ⟨hgc, hw⟩ := hw
  refine j_getCz (r := x0) hx hb (by rw [hml]; exact hl.1.symm) hown (hts (.methodLink RJ7 86 ⟨"java/lang/Object", "getClass", "()Ljava/lang/Class;"⟩) (List.mem_of_getElem? (i := 1) (by decide +kernel))) (hts (.selects "[Ljava/lang/Object;" ⟨"java/lang/Object", "getClass", "()Ljava/lang/Class;"⟩ ⟨"java/lang/Object", "getClass", "()Ljava/lang/Class;"⟩) (List.mem_of_getElem? (i := 2) (by decide +kernel))) (hts (.instanceMethod ⟨"java/lang/Object", "getClass", "()Ljava/lang/Class;"⟩) (List.mem_of_getElem? (i := 3) (by decide +kernel))) (hts (.native ⟨"java/lang/Object", "getClass", "()Ljava/lang/Class;"⟩) (List.mem_of_getElem? (i := 4) (by decide +kernel))) hG hK hI hgc (Nat.le_of_ble_eq_true rfl) (by simp only [List.map, List.sum_cons, List.sum_nil, jrc, jci, jcl, jcr, jcn]; exact Nat.le_of_ble_eq_true rfl) dJ7_copyOf_1904c_3 ?_
  refine j_goz hI (va_runS (As := [va_rf x0, .int x1, va_rf (some z.2)]) (rest := []) ⟨hx, hb, hml, hown, hts⟩ (kJ7_copyOf_6403c l hfl D z x0 x1 (some z.2) μ H.size _) (va_cwS 3 hts gJ7_copyOf_1904c_J7_copyOf_6403c rfl rfl rfl (by decide +kernel) ⟨Nat.le_of_ble_eq_true rfl, Nat.le_of_ble_eq_true rfl⟩) (j_prS2z hK hG hI hw) rfl rfl hl.1 rfl (lv_room (Nat.le_of_ble_eq_true rfl)) dJ7_copyOf_1904c_6 ⟨by show _ ≤ 1; omega, by show _ ≤ 32; omega⟩) (fun v1 μ2 H locs hw hI => ?_)
  refine W.eq (g2 := F0 m 9 ls [va_rf v1]) rfl ?_
  exact j_aretz (v := v1) hx hb hr (Or.inr ⟨_, rfl⟩) hlocks hI hw (by omega) (by omega) dJ7_copyOf_1904c_9
set_option maxHeartbeats 4000000 in
set_option maxRecDepth 100000 in
theorem kJ7_copyOf_1904c (l : Launch) (hfl : l.stackTraces = false) (D : jD) (z : Nat × Nat) (x0 : Option Nat) (x1 : Int32) (μ : jM) (sz : Nat) (Q : Option Nat → jM → Prop) : Met l yJ7_copyOf_1904c wsJ7_copyOf_1904c rmJ7_copyOf_1904c (jPre2z D z μ sz [va_rf x0, .int x1] (wJ7_copyOf_1904c z x0 x1 μ Q)) (jRz jfR Q D z (jA z μ sz)) 1 32 (jA z μ sz) := by
  refine Met.ofW (cc := cJ7_copyOf_1904c) (maxL := 2) (ret := (some (.array (.object "java/lang/Object")))) (by decide) rfl ?_
  intro p e s m args below meth c s₁ B hml hv
  obtain ⟨rfl, hsz, hH, hz0, hK, hG, hw⟩ := hv
  subst hsz
  have hX : jX2 D z (jA z μ s.heap.size) p l s m _ meth c yJ7_copyOf_1904c cJ7_copyOf_1904c 2 wsJ7_copyOf_1904c (some (.array (.object "java/lang/Object"))) := ⟨B.exec, B.bytes, hml, findClass_of_methodNamed B.named, atoms_spec (ws := wsJ7_copyOf_1904c) B.pre, B.returns, B.notSynchronized, (name_of_methodNamed B.named B.method).1, hK, hG, hfl⟩
  obtain ⟨ls, hg, hl⟩ : ∃ ls : Array Slot, entryFrame m ([va_rf x0, .int x1] : List Value).toArray 2 = F0 m 0 ls [] ∧ lv_has ls 2 [(0, va_rf x0), (1, .int x1)] := by
    cases x0 <;> exact ⟨_, lg_entry_eq .., lv_entry _ (n := 2) (Nat.le_of_ble_eq_true rfl)⟩
  rw [hg]
  exact kJ7_copyOf_1904c_0 hX hw (jIz.start hH hz0) (lv_sub hl [0, 1] rfl) (by decide) (by decide)
set_option maxHeartbeats 4000000 in
set_option maxRecDepth 100000 in
theorem kJx4a65c_grow_92f84_20 {b : Nat} (hX : jX2 D z A p l s m args meth c yJx4a65c_grow_92f84 cJx4a65c_grow_92f84 4 wsJx4a65c_grow_92f84 (some (.array (.object "java/lang/Object")))) {Q : Option Nat → jM → Prop}  {x1 : Int32} {x2 : Int32} {μ : jM} {H : Heap} {locs : List Loc} {ls : Array Slot} {cells slots : Nat} (hw : wJx4a65c_grow_92f84_20 z b Q x1 x2 μ) (hI : jIz D z A s.heap μ H locs) (hl : lv_has ls 4 [(0, va_rf (some b)), (1, .int x1), (2, .int x2)]) (hcn : cells + 1 ≤ 1) (hsn : slots + 32 ≤ 32) : W p l e rmJx4a65c_grow_92f84 s m args below meth c H locs cells slots (MQ below (jRz jfR Q D z A) args s 1 32 A) (F0 m 20 ls []) := by
  unfold wJx4a65c_grow_92f84_20 at hw
  obtain ⟨hx, hb, hml, hown, hts, hr, hlocks, hnm, hK, hG, hfl⟩ := id hX
  have hown : s.vm.findClass RJx4a65c = some m.cls := hown
  have hfJx4a65c : ∀ w ∈ wsJx4a65c0, w.before args s = true := fun w h => hts w (List.mem_cons_of_mem _ (List.mem_append_right _ h))
  refine lv_iload_n hx hb dJx4a65c_grow_92f84_20 rfl (lv_at hl 2 rfl) ?_
  refine lv_iload_n hx hb dJx4a65c_grow_92f84_21 rfl (lv_at hl 1 rfl) ?_
  refine lv_iload_n hx hb dJx4a65c_grow_92f84_22 rfl (lv_at hl 2 rfl) ?_
  refine lv_isub hx hb dJx4a65c_grow_92f84_23 ?_
  refine lv_iload_n hx hb dJx4a65c_grow_92f84_24 rfl (lv_at hl 2 rfl) ?_
  refine lv_iconst (v := (1)) hx hb dJx4a65c_grow_92f84_25 (by decide) ?_
  refine lv_ishr hx hb dJx4a65c_grow_92f84_26 ?_
  refine j_goz hI (va_runS (As := [.int x2, .int (x1 - x2), .int (x2 >>> ((1 : Int32) &&& 31))]) (rest := []) ⟨hx, hb, hml, hown, hts⟩ (kJ8_newLength_cabcc l hfl D z x2 (x1 - x2) (x2 >>> ((1 : Int32) &&& 31)) μ H.size _) (va_cwS 3 hts gJx4a65c_grow_92f84_J8_newLength_cabcc rfl rfl rfl (by decide +kernel) ⟨Nat.le_of_ble_eq_true rfl, Nat.le_of_ble_eq_true rfl⟩) (j_prS2z hK hG hI hw) rfl rfl hl.1 rfl (lv_room (Nat.le_of_ble_eq_true rfl)) dJx4a65c_grow_92f84_27 ⟨by show _ ≤ 1; omega, by show _ ≤ 32; omega⟩) (fun v1 μ2 H locs hw hI => ?_)
  refine W.eq (g2 := F0 m 30 ls [.int v1]) rfl ?_
  refine lv_istore_n (lv' := [(3, .int v1), (0, va_rf (some b)), (1, .int x1), (2, .int x2)]) hx hb dJx4a65c_grow_92f84_30 rfl hl (by decide) rfl (fun ls hl => ?_)
  refine j_aload_n (r := (some b)) hx hb dJx4a65c_grow_92f84_31 rfl (lv_at hl 1 rfl) ?_
  refine j_aload_n (r := (some b)) hx hb dJx4a65c_grow_92f84_32 rfl (lv_at hl 1 rfl) ?_
  obtain ⟨v3, hv3, hw⟩ := hw
  refine j_getz (C := RJx4a65c) (T := TJx4a65c) (N := 3) (ci := 2) (r := (some b)) (v := va_rf v3) hx hb hfJx4a65c hown hK hI rfl 1 (by decide) (hts (.fieldLink RJx4a65c 9 "java/util/ArrayList" "elementData" "[Ljava/lang/Object;") (List.mem_of_getElem? (i := 1) (by decide +kernel))) (fun _ h => h) hv3 dJx4a65c_grow_92f84_33 ?_
  refine lv_iload_n hx hb dJx4a65c_grow_92f84_36 rfl (lv_at hl 0 rfl) ?_
  refine j_goz hI (va_runS (As := [va_rf v3, .int v1]) (rest := [va_rf (some b)]) ⟨hx, hb, hml, hown, hts⟩ (kJ7_copyOf_1904c l hfl D z v3 v1 μ2 H.size _) (va_cwS 2 hts gJx4a65c_grow_92f84_J7_copyOf_1904c rfl rfl rfl (by decide +kernel) ⟨Nat.le_of_ble_eq_true rfl, Nat.le_of_ble_eq_true rfl⟩) (j_prS2z hK hG hI hw) rfl rfl hl.1 rfl (lv_room (Nat.le_of_ble_eq_true rfl)) dJx4a65c_grow_92f84_37 ⟨by show _ ≤ 1; omega, by show _ ≤ 32; omega⟩) (fun v4 μ5 H locs hw hI => ?_)
  refine W.eq (g2 := F0 m 40 ls [va_rf v4, va_rf (some b)]) rfl ?_
  refine lv_dup_x1 hx hb dJx4a65c_grow_92f84_40 (jrc v4) rfl ?_
  obtain ⟨μ6, hμ6, hw⟩ := hw
  refine j_putz (C := RJx4a65c) (T := TJx4a65c) (N := 3) (ci := 2) (r := (some b)) (v := va_rf v4) hx hb hfJx4a65c tyJx4a65c tyJx4a65c_ok nmJx4a65c hown hK hI rfl 1 (by decide) (hts (.fieldLink RJx4a65c 9 "java/util/ArrayList" "elementData" "[Ljava/lang/Object;") (List.mem_of_getElem? (i := 1) (by decide +kernel))) (fun _ h => h) rfl (tyJx4a65c_ok 1 (by decide)) (jnra _ v4) (jfra _ v4) hμ6 dJx4a65c_grow_92f84_41 (fun H locs hI => ?_)
  exact j_aretz (v := v4) hx hb hr (Or.inr ⟨_, rfl⟩) hlocks hI hw (by omega) (by omega) dJx4a65c_grow_92f84_44
set_option maxHeartbeats 4000000 in
set_option maxRecDepth 100000 in
theorem kJx4a65c_grow_92f84_0 {b : Nat} (hX : jX2 D z A p l s m args meth c yJx4a65c_grow_92f84 cJx4a65c_grow_92f84 4 wsJx4a65c_grow_92f84 (some (.array (.object "java/lang/Object")))) {Q : Option Nat → jM → Prop}  {x1 : Int32} {μ : jM} {H : Heap} {locs : List Loc} {ls : Array Slot} {cells slots : Nat} (hw : wJx4a65c_grow_92f84_0 z b Q x1 μ) (hI : jIz D z A s.heap μ H locs) (hl : lv_has ls 4 [(0, va_rf (some b)), (1, .int x1)]) (hcn : cells + 1 ≤ 1) (hsn : slots + 32 ≤ 32) : W p l e rmJx4a65c_grow_92f84 s m args below meth c H locs cells slots (MQ below (jRz jfR Q D z A) args s 1 32 A) (F0 m 0 ls []) := by
  unfold wJx4a65c_grow_92f84_0 at hw
  obtain ⟨hx, hb, hml, hown, hts, hr, hlocks, hnm, hK, hG, hfl⟩ := id hX
  have hown : s.vm.findClass RJx4a65c = some m.cls := hown
  have hfJx4a65c : ∀ w ∈ wsJx4a65c0, w.before args s = true := fun w h => hts w (List.mem_cons_of_mem _ (List.mem_append_right _ h))
  refine j_aload_n (r := (some b)) hx hb dJx4a65c_grow_92f84_0 rfl (lv_at hl 0 rfl) ?_
  obtain ⟨v1, hv1, hw⟩ := hw
  refine j_getz (C := RJx4a65c) (T := TJx4a65c) (N := 3) (ci := 2) (r := (some b)) (v := va_rf v1) hx hb hfJx4a65c hown hK hI rfl 1 (by decide) (hts (.fieldLink RJx4a65c 9 "java/util/ArrayList" "elementData" "[Ljava/lang/Object;") (List.mem_of_getElem? (i := 1) (by decide +kernel))) (fun _ h => h) hv1 dJx4a65c_grow_92f84_1 ?_
  obtain ⟨v2, hv2, hw⟩ := hw
  refine j_alenz (r := v1) hx hb hK hI hv2 dJx4a65c_grow_92f84_4 ?_
  refine lv_topi (fun v3 ev3 => ?_)
  have hw := hw v3 ev3
  refine lv_istore_n (lv' := [(2, .int v3), (0, va_rf (some b)), (1, .int x1)]) hx hb dJx4a65c_grow_92f84_5 rfl hl (by decide) rfl (fun ls hl => ?_)
  refine lv_iload_n hx hb dJx4a65c_grow_92f84_6 rfl (lv_at hl 0 rfl) ?_
  refine lv_if_gt (tgt := 20) hx hb dJx4a65c_grow_92f84_7 (by decide) (fun hc => ?_) (fun hc => ?_)
  · have hw := hw.1 hc
    exact kJx4a65c_grow_92f84_20 hX  hw hI (lv_sub hl [1, 2, 0] rfl) (by omega) (by omega)
  · have hw := hw.2 hc
    refine j_aload_n (r := (some b)) hx hb dJx4a65c_grow_92f84_10 rfl (lv_at hl 1 rfl) ?_
    obtain ⟨v4, hv4, hw⟩ := hw
    refine j_getz (C := RJx4a65c) (T := TJx4a65c) (N := 3) (ci := 2) (r := (some b)) (v := va_rf v4) hx hb hfJx4a65c hown hK hI rfl 1 (by decide) (hts (.fieldLink RJx4a65c 9 "java/util/ArrayList" "elementData" "[Ljava/lang/Object;") (List.mem_of_getElem? (i := 1) (by decide +kernel))) (fun _ h => h) hv4 dJx4a65c_grow_92f84_11 ?_
    refine va_gets hx hb hG.1 hI.2.2.1 hown (hts (.fieldLink RJx4a65c 39 "java/util/ArrayList" "DEFAULTCAPACITY_EMPTY_ELEMENTDATA" "[Ljava/lang/Object;") (List.mem_of_getElem? (i := 2) (by decide +kernel))) (fun _ h => h) dJx4a65c_grow_92f84_14 ?_
    refine W.eq (g2 := F0 m 17 ls [va_rf (some z.1), va_rf v4]) rfl ?_
    refine lv_acmp_eq (rx := v4) (ry := (some z.1)) (tgt := 45) hx hb dJx4a65c_grow_92f84_17 (by decide) (fun hc => ?_) (fun hc => ?_)
    · have hw := hw.1 hc
      refine j_aload_n (r := (some b)) hx hb dJx4a65c_grow_92f84_45 rfl (lv_at hl 1 rfl) ?_
      refine lv_bipush (v := (10)) hx hb dJx4a65c_grow_92f84_46 (by decide) ?_
      refine lv_iload_n hx hb dJx4a65c_grow_92f84_48 rfl (lv_at hl 2 rfl) ?_
      refine va_mmax hx hb (by rw [hml]; exact hl.1.symm) hown (hts (.methodLink RJx4a65c 79 Lib.Math.max.name) (List.mem_of_getElem? (i := 3) (by decide +kernel))) (hts (.static Lib.Math.max.name) (List.mem_of_getElem? (i := 4) (by decide +kernel))) (hts (.initialized "java/lang/Math") (List.mem_of_getElem? (i := 5) (by decide +kernel))) (hts (.code Lib.Math.max.name Lib.Math.max.code 2 (some .int)) (List.mem_of_getElem? (i := 6) (by decide +kernel))) (Nat.le_of_ble_eq_true rfl) (Nat.le_of_ble_eq_true rfl) (by show _ ≤ 1; omega) (by show _ ≤ 32; omega) dJx4a65c_grow_92f84_49 ?_
      obtain ⟨N6, hN61, hN62, hN63, hw⟩ := hw
      refine W.widen (k := cells + 0) (n := slots + (32 - N6)) (by omega) (by omega) ?_
      refine j_newqz (N' := N6) hx hb hown (hts (.classLink RJx4a65c 7 "java/lang/Object") (List.mem_of_getElem? (i := 7) (by decide +kernel))) hG.2.2.2.2.1 hK hI rfl hN62 hN61 (by omega) (by show _ ≤ 1; omega) (by show _ ≤ 32; omega) dJx4a65c_grow_92f84_52 (fun q5 H hq5 hI => ?_)
      have hw := hw q5 hq5
      refine lv_dup_x1 hx hb dJx4a65c_grow_92f84_55 rfl rfl ?_
      obtain ⟨μ7, hμ7, hw⟩ := hw
      refine j_putz (C := RJx4a65c) (T := TJx4a65c) (N := 3) (ci := 2) (r := (some b)) (v := va_rf (some q5)) hx hb hfJx4a65c tyJx4a65c tyJx4a65c_ok nmJx4a65c hown hK hI rfl 1 (by decide) (hts (.fieldLink RJx4a65c 9 "java/util/ArrayList" "elementData" "[Ljava/lang/Object;") (List.mem_of_getElem? (i := 1) (by decide +kernel))) (fun _ h => h) rfl (tyJx4a65c_ok 1 (by decide)) (jnra _ (some q5)) (jfra _ (some q5)) hμ7 dJx4a65c_grow_92f84_56 (fun H locs hI => ?_)
      exact j_aretz (v := (some q5)) hx hb hr (Or.inr ⟨_, rfl⟩) hlocks hI hw (by omega) (by omega) dJx4a65c_grow_92f84_59
    · have hw := hw.2 hc
      exact kJx4a65c_grow_92f84_20 hX  hw hI (lv_sub hl [1, 2, 0] rfl) (by omega) (by omega)
set_option maxHeartbeats 4000000 in
set_option maxRecDepth 100000 in
theorem kJx4a65c_grow_92f84 (l : Launch) (hfl : l.stackTraces = false) (D : jD) (z : Nat × Nat) (b : Nat) (x1 : Int32) (μ : jM) (sz : Nat) (Q : Option Nat → jM → Prop) : Met l yJx4a65c_grow_92f84 wsJx4a65c_grow_92f84 rmJx4a65c_grow_92f84 (jPre2z D z μ sz [.ref b, .int x1] (wJx4a65c_grow_92f84 z b x1 μ Q)) (jRz jfR Q D z (jA z μ sz)) 1 32 (jA z μ sz) := by
  refine Met.ofW (cc := cJx4a65c_grow_92f84) (maxL := 4) (ret := (some (.array (.object "java/lang/Object")))) (by decide) rfl ?_
  intro p e s m args below meth c s₁ B hml hv
  obtain ⟨rfl, hsz, hH, hz0, hK, hG, hw⟩ := hv
  subst hsz
  have hX : jX2 D z (jA z μ s.heap.size) p l s m _ meth c yJx4a65c_grow_92f84 cJx4a65c_grow_92f84 4 wsJx4a65c_grow_92f84 (some (.array (.object "java/lang/Object"))) := ⟨B.exec, B.bytes, hml, findClass_of_methodNamed B.named, atoms_spec (ws := wsJx4a65c_grow_92f84) B.pre, B.returns, B.notSynchronized, (name_of_methodNamed B.named B.method).1, hK, hG, hfl⟩
  obtain ⟨ls, hg, hl⟩ : ∃ ls : Array Slot, entryFrame m ([.ref b, .int x1] : List Value).toArray 4 = F0 m 0 ls [] ∧ lv_has ls 4 [(0, va_rf (some b)), (1, .int x1)] := by
    exact ⟨_, lg_entry_eq .., lv_entry _ (n := 4) (Nat.le_of_ble_eq_true rfl)⟩
  rw [hg]
  exact kJx4a65c_grow_92f84_0 hX hw (jIz.start hH hz0) (lv_sub hl [0, 1] rfl) (by decide) (by decide)
set_option maxHeartbeats 4000000 in
set_option maxRecDepth 100000 in
theorem kJx4a65c_grow_d5877_0 {b : Nat} (hX : jX2 D z A p l s m args meth c yJx4a65c_grow_d5877 cJx4a65c_grow_d5877 1 wsJx4a65c_grow_d5877 (some (.array (.object "java/lang/Object")))) {Q : Option Nat → jM → Prop}   {μ : jM} {H : Heap} {locs : List Loc} {ls : Array Slot} {cells slots : Nat} (hw : wJx4a65c_grow_d5877_0 z b Q  μ) (hI : jIz D z A s.heap μ H locs) (hl : lv_has ls 1 [(0, va_rf (some b))]) (hcn : cells + 1 ≤ 1) (hsn : slots + 32 ≤ 32) : W p l e rmJx4a65c_grow_d5877 s m args below meth c H locs cells slots (MQ below (jRz jfR Q D z A) args s 1 32 A) (F0 m 0 ls []) := by
  unfold wJx4a65c_grow_d5877_0 at hw
  obtain ⟨hx, hb, hml, hown, hts, hr, hlocks, hnm, hK, hG, hfl⟩ := id hX
  have hown : s.vm.findClass RJx4a65c = some m.cls := hown
  have hfJx4a65c : ∀ w ∈ wsJx4a65c0, w.before args s = true := fun w h => hts w (List.mem_cons_of_mem _ (List.mem_append_right _ h))
  refine j_aload_n (r := (some b)) hx hb dJx4a65c_grow_d5877_0 rfl (lv_at hl 0 rfl) ?_
  refine j_aload_n (r := (some b)) hx hb dJx4a65c_grow_d5877_1 rfl (lv_at hl 0 rfl) ?_
  obtain ⟨v1, hv1, hw⟩ := hw
  refine j_getz (C := RJx4a65c) (T := TJx4a65c) (N := 3) (ci := 2) (r := (some b)) (v := .int v1) hx hb hfJx4a65c hown hK hI rfl 2 (by decide) (hts (.fieldLink RJx4a65c 48 "java/util/ArrayList" "size" "I") (List.mem_of_getElem? (i := 1) (by decide +kernel))) (fun _ h => h) hv1 dJx4a65c_grow_d5877_2 ?_
  refine lv_iconst (v := (1)) hx hb dJx4a65c_grow_d5877_5 (by decide) ?_
  refine lv_iadd hx hb dJx4a65c_grow_d5877_6 ?_
  obtain ⟨hfs, hw⟩ := hw
  refine j_goz hI (va_runV (As := [.int (v1 + (1 : Int32))]) (rest := []) ⟨hx, hb, hml, hown, hts⟩ (kJx4a65c_grow_92f84 l hfl D z b (v1 + (1 : Int32)) μ H.size _) (cwV 1 hts gJx4a65c_grow_d5877_Jx4a65c_grow_92f84 rfl rfl rfl (by decide +kernel) ⟨Nat.le_of_ble_eq_true rfl, Nat.le_of_ble_eq_true rfl⟩) (j_prV2z hK hG hI hw (ci := 2) rfl hfs) rfl rfl hl.1 rfl (lv_room (Nat.le_of_ble_eq_true rfl)) dJx4a65c_grow_d5877_7 ⟨by show _ ≤ 1; omega, by show _ ≤ 32; omega⟩) (fun v2 μ3 H locs hw hI => ?_)
  refine W.eq (g2 := F0 m 10 ls [va_rf v2]) rfl ?_
  exact j_aretz (v := v2) hx hb hr (Or.inr ⟨_, rfl⟩) hlocks hI hw (by omega) (by omega) dJx4a65c_grow_d5877_10
set_option maxHeartbeats 4000000 in
set_option maxRecDepth 100000 in
theorem kJx4a65c_grow_d5877 (l : Launch) (hfl : l.stackTraces = false) (D : jD) (z : Nat × Nat) (b : Nat)  (μ : jM) (sz : Nat) (Q : Option Nat → jM → Prop) : Met l yJx4a65c_grow_d5877 wsJx4a65c_grow_d5877 rmJx4a65c_grow_d5877 (jPre2z D z μ sz [.ref b] (wJx4a65c_grow_d5877 z b  μ Q)) (jRz jfR Q D z (jA z μ sz)) 1 32 (jA z μ sz) := by
  refine Met.ofW (cc := cJx4a65c_grow_d5877) (maxL := 1) (ret := (some (.array (.object "java/lang/Object")))) (by decide) rfl ?_
  intro p e s m args below meth c s₁ B hml hv
  obtain ⟨rfl, hsz, hH, hz0, hK, hG, hw⟩ := hv
  subst hsz
  have hX : jX2 D z (jA z μ s.heap.size) p l s m _ meth c yJx4a65c_grow_d5877 cJx4a65c_grow_d5877 1 wsJx4a65c_grow_d5877 (some (.array (.object "java/lang/Object"))) := ⟨B.exec, B.bytes, hml, findClass_of_methodNamed B.named, atoms_spec (ws := wsJx4a65c_grow_d5877) B.pre, B.returns, B.notSynchronized, (name_of_methodNamed B.named B.method).1, hK, hG, hfl⟩
  obtain ⟨ls, hg, hl⟩ : ∃ ls : Array Slot, entryFrame m ([.ref b] : List Value).toArray 1 = F0 m 0 ls [] ∧ lv_has ls 1 [(0, va_rf (some b))] := by
    exact ⟨_, lg_entry_eq .., lv_entry _ (n := 1) (Nat.le_of_ble_eq_true rfl)⟩
  rw [hg]
  exact kJx4a65c_grow_d5877_0 hX hw (jIz.start hH hz0) (lv_sub hl [0] rfl) (by decide) (by decide)
set_option maxHeartbeats 4000000 in
set_option maxRecDepth 100000 in
theorem kJx4a65c_add_72be8_11 {b : Nat} (hX : jX2 D z A p l s m args meth c yJx4a65c_add_72be8 cJx4a65c_add_72be8 4 wsJx4a65c_add_72be8 none) {Q : Unit → jM → Prop}  {x1 : Option Nat} {x2 : Option Nat} {x3 : Int32} {μ : jM} {H : Heap} {locs : List Loc} {ls : Array Slot} {cells slots : Nat} (hw : wJx4a65c_add_72be8_11 z b Q x1 x2 x3 μ) (hI : jIz D z A s.heap μ H locs) (hl : lv_has ls 4 [(0, va_rf (some b)), (1, va_rf x1), (2, va_rf x2), (3, .int x3)]) (hcn : cells + 0 ≤ 1) (hsn : slots + 0 ≤ 32) : W p l e rmJx4a65c_add_72be8 s m args below meth c H locs cells slots (MQ below (jRz jfV Q D z A) args s 1 32 A) (F0 m 11 ls []) := by
  unfold wJx4a65c_add_72be8_11 at hw
  obtain ⟨hx, hb, hml, hown, hts, hr, hlocks, hnm, hK, hG, hfl⟩ := id hX
  have hown : s.vm.findClass RJx4a65c = some m.cls := hown
  have hfJx4a65c : ∀ w ∈ wsJx4a65c0, w.before args s = true := fun w h => hts w (List.mem_cons_of_mem _ (List.mem_append_right _ h))
  refine j_aload_n (r := x2) hx hb dJx4a65c_add_72be8_11 rfl (lv_at hl 2 rfl) ?_
  refine lv_iload_n hx hb dJx4a65c_add_72be8_12 rfl (lv_at hl 3 rfl) ?_
  refine j_aload_n (r := x1) hx hb dJx4a65c_add_72be8_13 rfl (lv_at hl 1 rfl) ?_
  obtain ⟨hμ1o, μ1, hμ1, hw⟩ := hw
  refine j_aastz (r := x2) (x := x1) hx hb hK hI hG.2.2.2.2.2.2.1 hμ1 hμ1o dJx4a65c_add_72be8_14 (fun H locs hI => ?_)
  refine j_aload_n (r := (some b)) hx hb dJx4a65c_add_72be8_15 rfl (lv_at hl 0 rfl) ?_
  refine lv_iload_n hx hb dJx4a65c_add_72be8_16 rfl (lv_at hl 3 rfl) ?_
  refine lv_iconst (v := (1)) hx hb dJx4a65c_add_72be8_17 (by decide) ?_
  refine lv_iadd hx hb dJx4a65c_add_72be8_18 ?_
  obtain ⟨μ2, hμ2, hw⟩ := hw
  refine j_putz (C := RJx4a65c) (T := TJx4a65c) (N := 3) (ci := 2) (r := (some b)) (v := .int (x3 + (1 : Int32))) hx hb hfJx4a65c tyJx4a65c tyJx4a65c_ok nmJx4a65c hown hK hI rfl 2 (by decide) (hts (.fieldLink RJx4a65c 48 "java/util/ArrayList" "size" "I") (List.mem_of_getElem? (i := 1) (by decide +kernel))) (fun _ h => h) rfl (tyJx4a65c_ok 2 (by decide)) rfl rfl hμ2 dJx4a65c_add_72be8_19 (fun H locs hI => ?_)
  exact j_vretz hx hb hr hlocks hI hw (by omega) (by omega) dJx4a65c_add_72be8_22
set_option maxHeartbeats 4000000 in
set_option maxRecDepth 100000 in
theorem kJx4a65c_add_72be8_0 {b : Nat} (hX : jX2 D z A p l s m args meth c yJx4a65c_add_72be8 cJx4a65c_add_72be8 4 wsJx4a65c_add_72be8 none) {Q : Unit → jM → Prop}  {x1 : Option Nat} {x2 : Option Nat} {x3 : Int32} {μ : jM} {H : Heap} {locs : List Loc} {ls : Array Slot} {cells slots : Nat} (hw : wJx4a65c_add_72be8_0 z b Q x1 x2 x3 μ) (hI : jIz D z A s.heap μ H locs) (hl : lv_has ls 4 [(0, va_rf (some b)), (1, va_rf x1), (2, va_rf x2), (3, .int x3)]) (hcn : cells + 1 ≤ 1) (hsn : slots + 32 ≤ 32) : W p l e rmJx4a65c_add_72be8 s m args below meth c H locs cells slots (MQ below (jRz jfV Q D z A) args s 1 32 A) (F0 m 0 ls []) := by
  unfold wJx4a65c_add_72be8_0 at hw
  obtain ⟨hx, hb, hml, hown, hts, hr, hlocks, hnm, hK, hG, hfl⟩ := id hX
  have hown : s.vm.findClass RJx4a65c = some m.cls := hown
  refine lv_iload_n hx hb dJx4a65c_add_72be8_0 rfl (lv_at hl 3 rfl) ?_
  refine j_aload_n (r := x2) hx hb dJx4a65c_add_72be8_1 rfl (lv_at hl 2 rfl) ?_
  obtain ⟨v1, hv1, hw⟩ := hw
  refine j_alenz (r := x2) hx hb hK hI hv1 dJx4a65c_add_72be8_2 ?_
  refine lv_icmp_ne (tgt := 11) hx hb dJx4a65c_add_72be8_3 (by decide) (fun hc => ?_) (fun hc => ?_)
  · have hw := hw.1 hc
    exact kJx4a65c_add_72be8_11 hX  hw hI (lv_sub hl [0, 1, 2, 3] rfl) (by omega) (by omega)
  · have hw := hw.2 hc
    refine j_aload_n (r := (some b)) hx hb dJx4a65c_add_72be8_6 rfl (lv_at hl 0 rfl) ?_
    obtain ⟨hfs, hw⟩ := hw
    refine j_goz hI (va_runV (As := []) (rest := []) ⟨hx, hb, hml, hown, hts⟩ (kJx4a65c_grow_d5877 l hfl D z b  μ H.size _) (cwV 0 hts gJx4a65c_add_72be8_Jx4a65c_grow_d5877 rfl rfl rfl (by decide +kernel) ⟨Nat.le_of_ble_eq_true rfl, Nat.le_of_ble_eq_true rfl⟩) (j_prV2z hK hG hI hw (ci := 2) rfl hfs) rfl rfl hl.1 rfl (lv_room (Nat.le_of_ble_eq_true rfl)) dJx4a65c_add_72be8_7 ⟨by show _ ≤ 1; omega, by show _ ≤ 32; omega⟩) (fun v2 μ3 H locs hw hI => ?_)
    refine W.eq (g2 := F0 m 10 ls [va_rf v2]) rfl ?_
    refine j_astore_nA (r := x1) (r0 := v2) (F := fun w => [(0, va_rf (some b)), (1, w), (2, va_rf x2), (3, .int x3)]) (F2 := fun w => [(2, va_rf v2), (0, va_rf (some b)), (1, w), (3, .int x3)]) hx hb dJx4a65c_add_72be8_10 rfl hl (by decide) (fun w hw => by rcases hw with rfl | ⟨_, rfl⟩ <;> rfl) (fun ls hl => ?_)
    exact kJx4a65c_add_72be8_11 hX  hw hI (lv_sub hl [1, 2, 0, 3] rfl) (by omega) (by omega)
set_option maxHeartbeats 4000000 in
set_option maxRecDepth 100000 in
theorem kJx4a65c_add_72be8 (l : Launch) (hfl : l.stackTraces = false) (D : jD) (z : Nat × Nat) (b : Nat) (x1 : Option Nat) (x2 : Option Nat) (x3 : Int32) (μ : jM) (sz : Nat) (Q : Unit → jM → Prop) : Met l yJx4a65c_add_72be8 wsJx4a65c_add_72be8 rmJx4a65c_add_72be8 (jPre2z D z μ sz [.ref b, va_rf x1, va_rf x2, .int x3] (wJx4a65c_add_72be8 z b x1 x2 x3 μ Q)) (jRz jfV Q D z (jA z μ sz)) 1 32 (jA z μ sz) := by
  refine Met.ofW (cc := cJx4a65c_add_72be8) (maxL := 4) (ret := none) (by decide) rfl ?_
  intro p e s m args below meth c s₁ B hml hv
  obtain ⟨rfl, hsz, hH, hz0, hK, hG, hw⟩ := hv
  subst hsz
  have hX : jX2 D z (jA z μ s.heap.size) p l s m _ meth c yJx4a65c_add_72be8 cJx4a65c_add_72be8 4 wsJx4a65c_add_72be8 none := ⟨B.exec, B.bytes, hml, findClass_of_methodNamed B.named, atoms_spec (ws := wsJx4a65c_add_72be8) B.pre, B.returns, B.notSynchronized, (name_of_methodNamed B.named B.method).1, hK, hG, hfl⟩
  obtain ⟨ls, hg, hl⟩ : ∃ ls : Array Slot, entryFrame m ([.ref b, va_rf x1, va_rf x2, .int x3] : List Value).toArray 4 = F0 m 0 ls [] ∧ lv_has ls 4 [(0, va_rf (some b)), (1, va_rf x1), (2, va_rf x2), (3, .int x3)] := by
    cases x1 <;> cases x2 <;> exact ⟨_, lg_entry_eq .., lv_entry _ (n := 4) (Nat.le_of_ble_eq_true rfl)⟩
  rw [hg]
  exact kJx4a65c_add_72be8_0 hX hw (jIz.start hH hz0) (lv_sub hl [0, 1, 2, 3] rfl) (by decide) (by decide)
set_option maxHeartbeats 4000000 in
set_option maxRecDepth 100000 in
theorem kJx4a65c_add_9ea2d_0 {b : Nat} (hX : jX2 D z A p l s m args meth c yJx4a65c_add_9ea2d cJx4a65c_add_9ea2d 2 wsJx4a65c_add_9ea2d (some .boolean)) {Q : Int32 → jM → Prop}  {x1 : Option Nat} {μ : jM} {H : Heap} {locs : List Loc} {ls : Array Slot} {cells slots : Nat} (hw : wJx4a65c_add_9ea2d_0 z b Q x1 μ) (hI : jIz D z A s.heap μ H locs) (hl : lv_has ls 2 [(0, va_rf (some b)), (1, va_rf x1)]) (hcn : cells + 1 ≤ 1) (hsn : slots + 32 ≤ 32) : W p l e rmJx4a65c_add_9ea2d s m args below meth c H locs cells slots (MQ below (jRz jfI Q D z A) args s 1 32 A) (F0 m 0 ls []) := by
  unfold wJx4a65c_add_9ea2d_0 at hw
  obtain ⟨hx, hb, hml, hown, hts, hr, hlocks, hnm, hK, hG, hfl⟩ := id hX
  have hown : s.vm.findClass RJx4a65c = some m.cls := hown
  have hfJx4a65c : ∀ w ∈ wsJx4a65c0, w.before args s = true := fun w h => hts w (List.mem_cons_of_mem _ (List.mem_append_right _ h))
  refine j_aload_n (r := (some b)) hx hb dJx4a65c_add_9ea2d_0 rfl (lv_at hl 0 rfl) ?_
  refine lv_dup hx hb dJx4a65c_add_9ea2d_1 rfl ?_
  obtain ⟨v1, hv1, hw⟩ := hw
  refine j_getz (C := RJx4a65c) (T := TJx4a65c) (N := 3) (ci := 2) (r := (some b)) (v := .int v1) hx hb hfJx4a65c hown hK hI rfl 0 (by decide) (hts (.fieldLink RJx4a65c 63 "java/util/ArrayList" "modCount" "I") (List.mem_of_getElem? (i := 1) (by decide +kernel))) (fun x h => u_same (hts (.sameField "java/util/ArrayList" "java/util/AbstractList" "modCount" "I") (List.mem_of_getElem? (i := 2) (by decide +kernel))) x h) hv1 dJx4a65c_add_9ea2d_2 ?_
  refine lv_iconst (v := (1)) hx hb dJx4a65c_add_9ea2d_5 (by decide) ?_
  refine lv_iadd hx hb dJx4a65c_add_9ea2d_6 ?_
  obtain ⟨μ2, hμ2, hw⟩ := hw
  refine j_putz (C := RJx4a65c) (T := TJx4a65c) (N := 3) (ci := 2) (r := (some b)) (v := .int (v1 + (1 : Int32))) hx hb hfJx4a65c tyJx4a65c tyJx4a65c_ok nmJx4a65c hown hK hI rfl 0 (by decide) (hts (.fieldLink RJx4a65c 63 "java/util/ArrayList" "modCount" "I") (List.mem_of_getElem? (i := 1) (by decide +kernel))) (fun x h => u_same (hts (.sameField "java/util/ArrayList" "java/util/AbstractList" "modCount" "I") (List.mem_of_getElem? (i := 2) (by decide +kernel))) x h) rfl (tyJx4a65c_ok 0 (by decide)) rfl rfl hμ2 dJx4a65c_add_9ea2d_7 (fun H locs hI => ?_)
  refine j_aload_n (r := (some b)) hx hb dJx4a65c_add_9ea2d_10 rfl (lv_at hl 0 rfl) ?_
  refine j_aload_n (r := x1) hx hb dJx4a65c_add_9ea2d_11 rfl (lv_at hl 1 rfl) ?_
  refine j_aload_n (r := (some b)) hx hb dJx4a65c_add_9ea2d_12 rfl (lv_at hl 0 rfl) ?_
  obtain ⟨v3, hv3, hw⟩ := hw
  refine j_getz (C := RJx4a65c) (T := TJx4a65c) (N := 3) (ci := 2) (r := (some b)) (v := va_rf v3) hx hb hfJx4a65c hown hK hI rfl 1 (by decide) (hts (.fieldLink RJx4a65c 9 "java/util/ArrayList" "elementData" "[Ljava/lang/Object;") (List.mem_of_getElem? (i := 3) (by decide +kernel))) (fun _ h => h) hv3 dJx4a65c_add_9ea2d_13 ?_
  refine j_aload_n (r := (some b)) hx hb dJx4a65c_add_9ea2d_16 rfl (lv_at hl 0 rfl) ?_
  obtain ⟨v4, hv4, hw⟩ := hw
  refine j_getz (C := RJx4a65c) (T := TJx4a65c) (N := 3) (ci := 2) (r := (some b)) (v := .int v4) hx hb hfJx4a65c hown hK hI rfl 2 (by decide) (hts (.fieldLink RJx4a65c 48 "java/util/ArrayList" "size" "I") (List.mem_of_getElem? (i := 4) (by decide +kernel))) (fun _ h => h) hv4 dJx4a65c_add_9ea2d_17 ?_
  obtain ⟨hfs, hw⟩ := hw
  refine j_goz hI (va_runV (As := [va_rf x1, va_rf v3, .int v4]) (rest := []) ⟨hx, hb, hml, hown, hts⟩ (kJx4a65c_add_72be8 l hfl D z b x1 v3 v4 μ2 H.size _) (cwV 3 hts gJx4a65c_add_9ea2d_Jx4a65c_add_72be8 rfl rfl rfl (by decide +kernel) ⟨Nat.le_of_ble_eq_true rfl, Nat.le_of_ble_eq_true rfl⟩) (j_prV2z hK hG hI hw (ci := 2) rfl hfs) rfl rfl hl.1 rfl (lv_room (Nat.le_of_ble_eq_true rfl)) dJx4a65c_add_9ea2d_20 ⟨by show _ ≤ 1; omega, by show _ ≤ 32; omega⟩) (fun u5 μ6 H locs hw hI => ?_)
  refine W.eq (g2 := F0 m 23 ls []) rfl ?_
  refine lv_iconst (v := (1)) hx hb dJx4a65c_add_9ea2d_23 (by decide) ?_
  exact j_zretz hx hb hr rfl hlocks hI hw (by omega) (by omega) dJx4a65c_add_9ea2d_24
set_option maxHeartbeats 4000000 in
set_option maxRecDepth 100000 in
theorem kJx4a65c_add_9ea2d (l : Launch) (hfl : l.stackTraces = false) (D : jD) (z : Nat × Nat) (b : Nat) (x1 : Option Nat) (μ : jM) (sz : Nat) (Q : Int32 → jM → Prop) : Met l yJx4a65c_add_9ea2d wsJx4a65c_add_9ea2d rmJx4a65c_add_9ea2d (jPre2z D z μ sz [.ref b, va_rf x1] (wJx4a65c_add_9ea2d z b x1 μ Q)) (jRz jfI Q D z (jA z μ sz)) 1 32 (jA z μ sz) := by
  refine Met.ofW (cc := cJx4a65c_add_9ea2d) (maxL := 2) (ret := (some .boolean)) (by decide) rfl ?_
  intro p e s m args below meth c s₁ B hml hv
  obtain ⟨rfl, hsz, hH, hz0, hK, hG, hw⟩ := hv
  subst hsz
  have hX : jX2 D z (jA z μ s.heap.size) p l s m _ meth c yJx4a65c_add_9ea2d cJx4a65c_add_9ea2d 2 wsJx4a65c_add_9ea2d (some .boolean) := ⟨B.exec, B.bytes, hml, findClass_of_methodNamed B.named, atoms_spec (ws := wsJx4a65c_add_9ea2d) B.pre, B.returns, B.notSynchronized, (name_of_methodNamed B.named B.method).1, hK, hG, hfl⟩
  obtain ⟨ls, hg, hl⟩ : ∃ ls : Array Slot, entryFrame m ([.ref b, va_rf x1] : List Value).toArray 2 = F0 m 0 ls [] ∧ lv_has ls 2 [(0, va_rf (some b)), (1, va_rf x1)] := by
    cases x1 <;> exact ⟨_, lg_entry_eq .., lv_entry _ (n := 2) (Nat.le_of_ble_eq_true rfl)⟩
  rw [hg]
  exact kJx4a65c_add_9ea2d_0 hX hw (jIz.start hH hz0) (lv_sub hl [0, 1] rfl) (by decide) (by decide)
set_option maxHeartbeats 4000000 in
set_option maxRecDepth 100000 in
theorem kX3_init_72 {b : Nat} (hX : jX2 D z A p l s m args meth c yX3_init cX3_init 2 wsX3_init none) {Q : Unit → jM → Prop}  (n : Nat) : ∀ {x1 : Int32} {μ : jM} {H : Heap} {locs : List Loc} {ls : Array Slot} {cells slots : Nat}, wX3_init_72 z b Q n x1 μ → jIz D z A s.heap μ H locs → lv_has ls 2 [(0, va_rf (some b)), (1, .int x1)] → cells + n * 2 + 2 ≤ 19 → slots + n * 35 + 35 ≤ 677 → W p l e rmX3_init s m args below meth c H locs cells slots (MQ below (jRz jfV Q D z A) args s 19 677 A) (F0 m 72 ls []) := by
  induction n with
  | zero =>
    intros
    rename_i hw _ _ _ _
    exact (show False from hw).elim
  | succ n ih =>
    intro x1 μ H locs ls cells slots hw hI hl hcn hsn
    have hw : wX3_init_72_b z b Q (wX3_init_72 z b Q n) x1 μ := hw
    unfold wX3_init_72_b at hw
    obtain ⟨hx, hb, hml, hown, hts, hr, hlocks, hnm, hK, hG, hfl⟩ := id hX
    have hown : s.vm.findClass RX3 = some m.cls := hown
    have hfX1 : ∀ w ∈ wsX10, w.before args s = true := fun w h => hts w (List.mem_cons_of_mem _ (List.mem_append_right _ h))
    have hfX3 : ∀ w ∈ wsX30, w.before args s = true := fun w h => hts w (List.mem_cons_of_mem _ (List.mem_append_left _ (List.mem_append_left _ (List.mem_append_right _ h))))
    refine lv_iload_n hx hb dX3_init_72 rfl (lv_at hl 1 rfl) ?_
    refine lv_iconst (v := (4)) hx hb dX3_init_73 (by decide) ?_
    refine lv_icmp_ge (tgt := 99) hx hb dX3_init_74 (by decide) (fun hc => ?_) (fun hc => ?_)
    · have hw := hw.1 hc
      exact j_vretz hx hb hr hlocks hI hw (by omega) (by omega) dX3_init_99
    · have hw := hw.2 hc
      refine j_aload_n (r := (some b)) hx hb dX3_init_77 rfl (lv_at hl 0 rfl) ?_
      obtain ⟨v1, hv1, hw⟩ := hw
      refine j_getz (C := RX3) (T := TX3) (N := 8) (ci := 6) (r := (some b)) (v := va_rf v1) hx hb hfX3 hown hK hI rfl 4 (by decide) (hts (.fieldLink RX3 27 "CashPools$Desk" "banks" "Ljava/util/ArrayList;") (List.mem_of_getElem? (i := 11) (by decide +kernel))) (fun _ h => h) hv1 dX3_init_78 ?_
      refine j_newz (C := RX1) (T := TX1) (N := 3) (ci := 4) (fs := jfX1) hx hb hfX1 tyX1 tyX1_ok hown (hts (.classLink RX3 37 RX1) (List.mem_of_getElem? (i := 16) (by decide +kernel))) (hts (.instantiable RX1 3) (List.mem_of_getElem? (i := 17) (by decide +kernel))) (hts (.initialized RX1) (List.mem_of_getElem? (i := 18) (by decide +kernel))) hK hI rfl jdX1 (by show _ ≤ 19; omega) (by show _ ≤ 677; omega) dX3_init_81 (fun q2 H hq2 hI => ?_)
      have hw := hw q2 hq2
      refine lv_dup hx hb dX3_init_84 rfl ?_
      refine lv_iload_n hx hb dX3_init_85 rfl (lv_at hl 1 rfl) ?_
      refine j_goz hI (va_runI (As := [.int x1]) (rest := [va_rf (some q2), va_rf v1]) ⟨hx, hb, hml, hown, hts⟩ (kX1_init l hfl D z q2 x1 (va_up μ q2 (some (.inr (4, jfX1)))) H.size _) (cwI 1 hts gX3_init_X1_init rfl rfl rfl (hts (.initialized RX1) (List.mem_of_getElem? (i := 18) (by decide +kernel))) (hts (.methodLink RX3 39 yX1_init) (List.mem_of_getElem? (i := 39) (by decide +kernel))) (hts (.instanceMethod yX1_init) (List.mem_of_getElem? (i := 40) (by decide +kernel))) rfl (by decide +kernel) ⟨Nat.le_of_ble_eq_true rfl, Nat.le_of_ble_eq_true rfl⟩) (j_prS2z hK hG hI hw) rfl rfl hl.1 rfl (lv_room (by simp only [List.map, List.sum_cons, List.sum_nil, jrc, jci, jcl, jcr, jcn]; exact Nat.le_of_ble_eq_true rfl)) dX3_init_86 ⟨by show _ ≤ 19; omega, by show _ ≤ 677; omega⟩) (fun u3 μ4 H locs hw hI => ?_)
      refine W.eq (g2 := F0 m 89 ls [va_rf (some q2), va_rf v1]) rfl ?_
      obtain ⟨b7, ⟨hrb7, hfs⟩, hw⟩ := hw
      refine j_goz hI (va_runV (As := [va_rf (some q2)]) (rest := []) ⟨hx, hb, hml, hown, hts⟩ (kJx4a65c_add_9ea2d l hfl D z b7 (some q2) μ4 H.size _) (cwV 1 hts gX3_init_Jx4a65c_add_9ea2d rfl rfl rfl (by decide +kernel) ⟨Nat.le_of_ble_eq_true rfl, Nat.le_of_ble_eq_true rfl⟩) (j_prV2z hK hG hI hw (ci := 2) rfl hfs) rfl rfl hl.1 (by rw [hrb7]; rfl) (lv_room (Nat.le_of_ble_eq_true rfl)) dX3_init_89 ⟨by show _ ≤ 19; omega, by show _ ≤ 677; omega⟩) (fun v5 μ6 H locs hw hI => ?_)
      refine W.eq (g2 := F0 m 92 ls [.int v5]) rfl ?_
      refine lv_pop hx hb dX3_init_92 rfl ?_
      obtain ⟨v8, ev8⟩ : ∃ y : Int32, y = x1 + (1 : Int32) := ⟨_, rfl⟩
      have hw := hw v8 ev8
      refine lv_iinc (v := v8) (lv' := [(1, .int v8), (0, va_rf (some b))]) hx hb dX3_init_93 hl (k := 1) rfl (by rw [ev8]; rfl) (by decide) rfl (fun ls hl => ?_)
      refine lv_goto (tgt := 72) hx hb dX3_init_96 (by decide) ?_
      exact ih hw hI (lv_sub hl [1, 0] rfl) (by omega) (by omega)
set_option maxHeartbeats 4000000 in
set_option maxRecDepth 100000 in
theorem kX3_init_0 {b : Nat} (hX : jX2 D z A p l s m args meth c yX3_init cX3_init 2 wsX3_init none) {Q : Unit → jM → Prop}   {μ : jM} {H : Heap} {locs : List Loc} {ls : Array Slot} {cells slots : Nat} (hw : wX3_init_0 z b Q  μ) (hI : jIz D z A s.heap μ H locs) (hl : lv_has ls 2 [(0, va_rf (some b))]) (hcn : cells + 19 ≤ 19) (hsn : slots + 677 ≤ 677) : W p l e rmX3_init s m args below meth c H locs cells slots (MQ below (jRz jfV Q D z A) args s 19 677 A) (F0 m 0 ls []) := by
  unfold wX3_init_0 at hw
  obtain ⟨hx, hb, hml, hown, hts, hr, hlocks, hnm, hK, hG, hfl⟩ := id hX
  have hown : s.vm.findClass RX3 = some m.cls := hown
  have hfJx4a65c : ∀ w ∈ wsJx4a65c0, w.before args s = true := fun w h => hts w (List.mem_cons_of_mem _ (List.mem_append_left _ (List.mem_append_left _ (List.mem_append_left _ (List.mem_append_right _ h)))))
  have hfX2 : ∀ w ∈ wsX20, w.before args s = true := fun w h => hts w (List.mem_cons_of_mem _ (List.mem_append_left _ (List.mem_append_right _ h)))
  have hfX3 : ∀ w ∈ wsX30, w.before args s = true := fun w h => hts w (List.mem_cons_of_mem _ (List.mem_append_left _ (List.mem_append_left _ (List.mem_append_right _ h))))
  refine j_aload_n (r := (some b)) hx hb dX3_init_0 rfl (lv_at hl 0 rfl) ?_
  refine W.objInit hx hb hown (hts (.methodLink RX3 3 objectInit) (List.mem_of_getElem? (i := 1) (by decide +kernel))) (hts (.instanceMethod objectInit) (List.mem_of_getElem? (i := 2) (by decide +kernel))) (hts (.code objectInit ⟨#[0xb1]⟩ 1 none) (List.mem_of_getElem? (i := 3) (by decide +kernel))) rfl (by rw [hml]; exact hl.1) rfl dX3_init_1 (Nat.le_of_ble_eq_true rfl) (Nat.le_of_ble_eq_true rfl) ?_
  refine W.eq (g2 := F0 m 4 ls []) rfl ?_
  refine j_aload_n (r := (some b)) hx hb dX3_init_4 rfl (lv_at hl 0 rfl) ?_
  refine j_newz (C := RJx4a65c) (T := TJx4a65c) (N := 3) (ci := 2) (fs := jfJx4a65c) hx hb hfJx4a65c tyJx4a65c tyJx4a65c_ok hown (hts (.classLink RX3 9 RJx4a65c) (List.mem_of_getElem? (i := 4) (by decide +kernel))) (hts (.instantiable RJx4a65c 3) (List.mem_of_getElem? (i := 5) (by decide +kernel))) (hts (.initialized RJx4a65c) (List.mem_of_getElem? (i := 6) (by decide +kernel))) hK hI rfl jdJx4a65c (by show _ ≤ 19; omega) (by show _ ≤ 677; omega) dX3_init_5 (fun q1 H hq1 hI => ?_)
  have hw := hw q1 hq1
  refine lv_dup hx hb dX3_init_8 rfl ?_
  refine j_goz hI (va_runI (As := []) (rest := [va_rf (some q1), va_rf (some b)]) ⟨hx, hb, hml, hown, hts⟩ (kJx4a65c_init_da8c8 l hfl D z q1  (va_up μ q1 (some (.inr (2, jfJx4a65c)))) H.size _) (cwI 0 hts gX3_init_Jx4a65c_init_da8c8 rfl rfl rfl (hts (.initialized RJx4a65c) (List.mem_of_getElem? (i := 6) (by decide +kernel))) (hts (.methodLink RX3 11 yJx4a65c_init_da8c8) (List.mem_of_getElem? (i := 19) (by decide +kernel))) (hts (.instanceMethod yJx4a65c_init_da8c8) (List.mem_of_getElem? (i := 20) (by decide +kernel))) rfl (by decide +kernel) ⟨Nat.le_of_ble_eq_true rfl, Nat.le_of_ble_eq_true rfl⟩) (j_prS2z hK hG hI hw) rfl rfl hl.1 rfl (lv_room (Nat.le_of_ble_eq_true rfl)) dX3_init_9 ⟨by show _ ≤ 19; omega, by show _ ≤ 677; omega⟩) (fun u2 μ3 H locs hw hI => ?_)
  refine W.eq (g2 := F0 m 12 ls [va_rf (some q1), va_rf (some b)]) rfl ?_
  obtain ⟨μ4, hμ4, hw⟩ := hw
  refine j_putFz (C := RX3) (T := TX3) (N := 8) (ci := 6) (r := (some b)) (v := va_rf (some q1)) hx hb hfX3 tyX3 tyX3_ok nmX3 hown hK hI rfl 0 (by decide) (hts (.fieldLink RX3 12 "CashPools$Desk" "everyAccount" "Ljava/util/ArrayList;") (List.mem_of_getElem? (i := 7) (by decide +kernel))) (fun _ h => h) rfl hnm rfl (tyX3_ok 0 (by decide)) (jnr _ (some q1)) (jfr _ (some q1)) hμ4 dX3_init_12 (fun H locs hI => ?_)
  refine j_aload_n (r := (some b)) hx hb dX3_init_15 rfl (lv_at hl 0 rfl) ?_
  refine j_newz (C := RJx4a65c) (T := TJx4a65c) (N := 3) (ci := 2) (fs := jfJx4a65c) hx hb hfJx4a65c tyJx4a65c tyJx4a65c_ok hown (hts (.classLink RX3 9 RJx4a65c) (List.mem_of_getElem? (i := 4) (by decide +kernel))) (hts (.instantiable RJx4a65c 3) (List.mem_of_getElem? (i := 5) (by decide +kernel))) (hts (.initialized RJx4a65c) (List.mem_of_getElem? (i := 6) (by decide +kernel))) hK hI rfl jdJx4a65c (by show _ ≤ 19; omega) (by show _ ≤ 677; omega) dX3_init_16 (fun q5 H hq5 hI => ?_)
  have hw := hw q5 hq5
  refine lv_dup hx hb dX3_init_19 rfl ?_
  refine j_goz hI (va_runI (As := []) (rest := [va_rf (some q5), va_rf (some b)]) ⟨hx, hb, hml, hown, hts⟩ (kJx4a65c_init_da8c8 l hfl D z q5  (va_up μ4 q5 (some (.inr (2, jfJx4a65c)))) H.size _) (cwI 0 hts gX3_init_Jx4a65c_init_da8c8 rfl rfl rfl (hts (.initialized RJx4a65c) (List.mem_of_getElem? (i := 6) (by decide +kernel))) (hts (.methodLink RX3 11 yJx4a65c_init_da8c8) (List.mem_of_getElem? (i := 19) (by decide +kernel))) (hts (.instanceMethod yJx4a65c_init_da8c8) (List.mem_of_getElem? (i := 20) (by decide +kernel))) rfl (by decide +kernel) ⟨Nat.le_of_ble_eq_true rfl, Nat.le_of_ble_eq_true rfl⟩) (j_prS2z hK hG hI hw) rfl rfl hl.1 rfl (lv_room (Nat.le_of_ble_eq_true rfl)) dX3_init_20 ⟨by show _ ≤ 19; omega, by show _ ≤ 677; omega⟩) (fun u6 μ7 H locs hw hI => ?_)
  refine W.eq (g2 := F0 m 23 ls [va_rf (some q5), va_rf (some b)]) rfl ?_
  obtain ⟨μ8, hμ8, hw⟩ := hw
  refine j_putFz (C := RX3) (T := TX3) (N := 8) (ci := 6) (r := (some b)) (v := va_rf (some q5)) hx hb hfX3 tyX3 tyX3_ok nmX3 hown hK hI rfl 1 (by decide) (hts (.fieldLink RX3 18 "CashPools$Desk" "tops" "Ljava/util/ArrayList;") (List.mem_of_getElem? (i := 8) (by decide +kernel))) (fun _ h => h) rfl hnm rfl (tyX3_ok 1 (by decide)) (jnr _ (some q5)) (jfr _ (some q5)) hμ8 dX3_init_23 (fun H locs hI => ?_)
  refine j_aload_n (r := (some b)) hx hb dX3_init_26 rfl (lv_at hl 0 rfl) ?_
  refine j_newz (C := RJx4a65c) (T := TJx4a65c) (N := 3) (ci := 2) (fs := jfJx4a65c) hx hb hfJx4a65c tyJx4a65c tyJx4a65c_ok hown (hts (.classLink RX3 9 RJx4a65c) (List.mem_of_getElem? (i := 4) (by decide +kernel))) (hts (.instantiable RJx4a65c 3) (List.mem_of_getElem? (i := 5) (by decide +kernel))) (hts (.initialized RJx4a65c) (List.mem_of_getElem? (i := 6) (by decide +kernel))) hK hI rfl jdJx4a65c (by show _ ≤ 19; omega) (by show _ ≤ 677; omega) dX3_init_27 (fun q9 H hq9 hI => ?_)
  have hw := hw q9 hq9
  refine lv_dup hx hb dX3_init_30 rfl ?_
  refine j_goz hI (va_runI (As := []) (rest := [va_rf (some q9), va_rf (some b)]) ⟨hx, hb, hml, hown, hts⟩ (kJx4a65c_init_da8c8 l hfl D z q9  (va_up μ8 q9 (some (.inr (2, jfJx4a65c)))) H.size _) (cwI 0 hts gX3_init_Jx4a65c_init_da8c8 rfl rfl rfl (hts (.initialized RJx4a65c) (List.mem_of_getElem? (i := 6) (by decide +kernel))) (hts (.methodLink RX3 11 yJx4a65c_init_da8c8) (List.mem_of_getElem? (i := 19) (by decide +kernel))) (hts (.instanceMethod yJx4a65c_init_da8c8) (List.mem_of_getElem? (i := 20) (by decide +kernel))) rfl (by decide +kernel) ⟨Nat.le_of_ble_eq_true rfl, Nat.le_of_ble_eq_true rfl⟩) (j_prS2z hK hG hI hw) rfl rfl hl.1 rfl (lv_room (Nat.le_of_ble_eq_true rfl)) dX3_init_31 ⟨by show _ ≤ 19; omega, by show _ ≤ 677; omega⟩) (fun u10 μ11 H locs hw hI => ?_)
  refine W.eq (g2 := F0 m 34 ls [va_rf (some q9), va_rf (some b)]) rfl ?_
  obtain ⟨μ12, hμ12, hw⟩ := hw
  refine j_putFz (C := RX3) (T := TX3) (N := 8) (ci := 6) (r := (some b)) (v := va_rf (some q9)) hx hb hfX3 tyX3 tyX3_ok nmX3 hown hK hI rfl 2 (by decide) (hts (.fieldLink RX3 21 "CashPools$Desk" "everyLine" "Ljava/util/ArrayList;") (List.mem_of_getElem? (i := 9) (by decide +kernel))) (fun _ h => h) rfl hnm rfl (tyX3_ok 2 (by decide)) (jnr _ (some q9)) (jfr _ (some q9)) hμ12 dX3_init_34 (fun H locs hI => ?_)
  refine j_aload_n (r := (some b)) hx hb dX3_init_37 rfl (lv_at hl 0 rfl) ?_
  refine j_newz (C := RJx4a65c) (T := TJx4a65c) (N := 3) (ci := 2) (fs := jfJx4a65c) hx hb hfJx4a65c tyJx4a65c tyJx4a65c_ok hown (hts (.classLink RX3 9 RJx4a65c) (List.mem_of_getElem? (i := 4) (by decide +kernel))) (hts (.instantiable RJx4a65c 3) (List.mem_of_getElem? (i := 5) (by decide +kernel))) (hts (.initialized RJx4a65c) (List.mem_of_getElem? (i := 6) (by decide +kernel))) hK hI rfl jdJx4a65c (by show _ ≤ 19; omega) (by show _ ≤ 677; omega) dX3_init_38 (fun q13 H hq13 hI => ?_)
  have hw := hw q13 hq13
  refine lv_dup hx hb dX3_init_41 rfl ?_
  refine j_goz hI (va_runI (As := []) (rest := [va_rf (some q13), va_rf (some b)]) ⟨hx, hb, hml, hown, hts⟩ (kJx4a65c_init_da8c8 l hfl D z q13  (va_up μ12 q13 (some (.inr (2, jfJx4a65c)))) H.size _) (cwI 0 hts gX3_init_Jx4a65c_init_da8c8 rfl rfl rfl (hts (.initialized RJx4a65c) (List.mem_of_getElem? (i := 6) (by decide +kernel))) (hts (.methodLink RX3 11 yJx4a65c_init_da8c8) (List.mem_of_getElem? (i := 19) (by decide +kernel))) (hts (.instanceMethod yJx4a65c_init_da8c8) (List.mem_of_getElem? (i := 20) (by decide +kernel))) rfl (by decide +kernel) ⟨Nat.le_of_ble_eq_true rfl, Nat.le_of_ble_eq_true rfl⟩) (j_prS2z hK hG hI hw) rfl rfl hl.1 rfl (lv_room (Nat.le_of_ble_eq_true rfl)) dX3_init_42 ⟨by show _ ≤ 19; omega, by show _ ≤ 677; omega⟩) (fun u14 μ15 H locs hw hI => ?_)
  refine W.eq (g2 := F0 m 45 ls [va_rf (some q13), va_rf (some b)]) rfl ?_
  obtain ⟨μ16, hμ16, hw⟩ := hw
  refine j_putFz (C := RX3) (T := TX3) (N := 8) (ci := 6) (r := (some b)) (v := va_rf (some q13)) hx hb hfX3 tyX3 tyX3_ok nmX3 hown hK hI rfl 3 (by decide) (hts (.fieldLink RX3 24 "CashPools$Desk" "everyFlow" "Ljava/util/ArrayList;") (List.mem_of_getElem? (i := 10) (by decide +kernel))) (fun _ h => h) rfl hnm rfl (tyX3_ok 3 (by decide)) (jnr _ (some q13)) (jfr _ (some q13)) hμ16 dX3_init_45 (fun H locs hI => ?_)
  refine j_aload_n (r := (some b)) hx hb dX3_init_48 rfl (lv_at hl 0 rfl) ?_
  refine j_newz (C := RJx4a65c) (T := TJx4a65c) (N := 3) (ci := 2) (fs := jfJx4a65c) hx hb hfJx4a65c tyJx4a65c tyJx4a65c_ok hown (hts (.classLink RX3 9 RJx4a65c) (List.mem_of_getElem? (i := 4) (by decide +kernel))) (hts (.instantiable RJx4a65c 3) (List.mem_of_getElem? (i := 5) (by decide +kernel))) (hts (.initialized RJx4a65c) (List.mem_of_getElem? (i := 6) (by decide +kernel))) hK hI rfl jdJx4a65c (by show _ ≤ 19; omega) (by show _ ≤ 677; omega) dX3_init_49 (fun q17 H hq17 hI => ?_)
  have hw := hw q17 hq17
  refine lv_dup hx hb dX3_init_52 rfl ?_
  refine j_goz hI (va_runI (As := []) (rest := [va_rf (some q17), va_rf (some b)]) ⟨hx, hb, hml, hown, hts⟩ (kJx4a65c_init_da8c8 l hfl D z q17  (va_up μ16 q17 (some (.inr (2, jfJx4a65c)))) H.size _) (cwI 0 hts gX3_init_Jx4a65c_init_da8c8 rfl rfl rfl (hts (.initialized RJx4a65c) (List.mem_of_getElem? (i := 6) (by decide +kernel))) (hts (.methodLink RX3 11 yJx4a65c_init_da8c8) (List.mem_of_getElem? (i := 19) (by decide +kernel))) (hts (.instanceMethod yJx4a65c_init_da8c8) (List.mem_of_getElem? (i := 20) (by decide +kernel))) rfl (by decide +kernel) ⟨Nat.le_of_ble_eq_true rfl, Nat.le_of_ble_eq_true rfl⟩) (j_prS2z hK hG hI hw) rfl rfl hl.1 rfl (lv_room (Nat.le_of_ble_eq_true rfl)) dX3_init_53 ⟨by show _ ≤ 19; omega, by show _ ≤ 677; omega⟩) (fun u18 μ19 H locs hw hI => ?_)
  refine W.eq (g2 := F0 m 56 ls [va_rf (some q17), va_rf (some b)]) rfl ?_
  obtain ⟨μ20, hμ20, hw⟩ := hw
  refine j_putFz (C := RX3) (T := TX3) (N := 8) (ci := 6) (r := (some b)) (v := va_rf (some q17)) hx hb hfX3 tyX3 tyX3_ok nmX3 hown hK hI rfl 4 (by decide) (hts (.fieldLink RX3 27 "CashPools$Desk" "banks" "Ljava/util/ArrayList;") (List.mem_of_getElem? (i := 11) (by decide +kernel))) (fun _ h => h) rfl hnm rfl (tyX3_ok 4 (by decide)) (jnr _ (some q17)) (jfr _ (some q17)) hμ20 dX3_init_56 (fun H locs hI => ?_)
  refine j_aload_n (r := (some b)) hx hb dX3_init_59 rfl (lv_at hl 0 rfl) ?_
  refine j_newz (C := RX2) (T := TX2) (N := 1) (ci := 5) (fs := jfX2) hx hb hfX2 tyX2 tyX2_ok hown (hts (.classLink RX3 30 RX2) (List.mem_of_getElem? (i := 12) (by decide +kernel))) (hts (.instantiable RX2 1) (List.mem_of_getElem? (i := 13) (by decide +kernel))) (hts (.initialized RX2) (List.mem_of_getElem? (i := 14) (by decide +kernel))) hK hI rfl jdX2 (by show _ ≤ 19; omega) (by show _ ≤ 677; omega) dX3_init_60 (fun q21 H hq21 hI => ?_)
  have hw := hw q21 hq21
  refine lv_dup hx hb dX3_init_63 rfl ?_
  refine j_goz hI (va_runIN (As := []) (rest := [va_rf (some q21), va_rf (some b)]) ⟨hx, hb, hml, hown, hts⟩ (kX2_init l hfl D z q21  (va_up μ20 q21 (some (.inr (5, jfX2)))) H.size _) ⟨va_cnB 0 hts gX3_init_X2_init_n32 rfl rfl rfl hG.2.2.2.2.2.2.2.2.2.2.1 (hts (.initialized RX2) (List.mem_of_getElem? (i := 14) (by decide +kernel))) (by decide +kernel) ⟨Nat.le_of_ble_eq_true rfl, Nat.le_of_ble_eq_true rfl⟩, rfl, (hts (.instanceMethod yX2_init) (List.mem_of_getElem? (i := 34) (by decide +kernel)))⟩ (j_prS2z hK hG hI hw) rfl rfl hl.1 rfl (lv_room (Nat.le_of_ble_eq_true rfl)) dX3_init_64 ⟨by show _ ≤ 19; omega, by show _ ≤ 677; omega⟩) (fun u22 μ23 H locs hw hI => ?_)
  refine W.eq (g2 := F0 m 67 ls [va_rf (some q21), va_rf (some b)]) rfl ?_
  obtain ⟨μ24, hμ24, hw⟩ := hw
  refine j_putFz (C := RX3) (T := TX3) (N := 8) (ci := 6) (r := (some b)) (v := va_rf (some q21)) hx hb hfX3 tyX3 tyX3_ok nmX3 hown hK hI rfl 5 (by decide) (hts (.fieldLink RX3 33 "CashPools$Desk" "calendar" "LCashPools$Calendar;") (List.mem_of_getElem? (i := 15) (by decide +kernel))) (fun _ h => h) rfl hnm rfl (tyX3_ok 5 (by decide)) (jnr _ (some q21)) (jfr _ (some q21)) hμ24 dX3_init_67 (fun H locs hI => ?_)
  refine lv_iconst (v := (0)) hx hb dX3_init_70 (by decide) ?_
  refine lv_topi (fun v25 ev25 => ?_)
  have hw := hw v25 ev25
  refine lv_istore_n (lv' := [(1, .int v25), (0, va_rf (some b))]) hx hb dX3_init_71 rfl hl (by decide) rfl (fun ls hl => ?_)
  obtain ⟨n26, hn, hw⟩ := hw
  exact kX3_init_72 hX  n26 hw hI (lv_sub hl [1, 0] rfl) (by omega) (by omega)
set_option maxHeartbeats 4000000 in
set_option maxRecDepth 100000 in
theorem kX3_init (l : Launch) (hfl : l.stackTraces = false) (D : jD) (z : Nat × Nat) (b : Nat)  (μ : jM) (sz : Nat) (Q : Unit → jM → Prop) : Met l yX3_init wsX3_init rmX3_init (jPre2z D z μ sz [.ref b] (wX3_init z b  μ Q)) (jRz jfV Q D z (jA z μ sz)) 19 677 (jA z μ sz) := by
  refine Met.ofW (cc := cX3_init) (maxL := 2) (ret := none) (by decide) rfl ?_
  intro p e s m args below meth c s₁ B hml hv
  obtain ⟨rfl, hsz, hH, hz0, hK, hG, hw⟩ := hv
  subst hsz
  have hX : jX2 D z (jA z μ s.heap.size) p l s m _ meth c yX3_init cX3_init 2 wsX3_init none := ⟨B.exec, B.bytes, hml, findClass_of_methodNamed B.named, atoms_spec (ws := wsX3_init) B.pre, B.returns, B.notSynchronized, (name_of_methodNamed B.named B.method).1, hK, hG, hfl⟩
  obtain ⟨ls, hg, hl⟩ : ∃ ls : Array Slot, entryFrame m ([.ref b] : List Value).toArray 2 = F0 m 0 ls [] ∧ lv_has ls 2 [(0, va_rf (some b))] := by
    exact ⟨_, lg_entry_eq .., lv_entry _ (n := 2) (Nat.le_of_ble_eq_true rfl)⟩
  rw [hg]
  exact kX3_init_0 hX hw (jIz.start hH hz0) (lv_sub hl [0] rfl) (by decide) (by decide)
set_option maxHeartbeats 4000000 in
set_option maxRecDepth 100000 in
theorem kX9_init_0 {b : Nat} (hX : jX2 D z A p l s m args meth c yX9_init cX9_init 1 wsX9_init none) {Q : Unit → jM → Prop}   {μ : jM} {H : Heap} {locs : List Loc} {ls : Array Slot} {cells slots : Nat} (hw : wX9_init_0 z b Q  μ) (hI : jIz D z A s.heap μ H locs) (hl : lv_has ls 1 [(0, va_rf (some b))]) (hcn : cells + 20 ≤ 20) (hsn : slots + 685 ≤ 685) : W p l e rmX9_init s m args below meth c H locs cells slots (MQ below (jRz jfV Q D z A) args s 20 685 A) (F0 m 0 ls []) := by
  unfold wX9_init_0 at hw
  obtain ⟨hx, hb, hml, hown, hts, hr, hlocks, hnm, hK, hG, hfl⟩ := id hX
  have hown : s.vm.findClass RX9 = some m.cls := hown
  have hfX3 : ∀ w ∈ wsX30, w.before args s = true := fun w h => hts w (List.mem_cons_of_mem _ (List.mem_append_left _ (List.mem_append_left _ (List.mem_append_left _ (List.mem_append_left _ (List.mem_append_right _ h))))))
  have hfX9 : ∀ w ∈ wsX90, w.before args s = true := fun w h => hts w (List.mem_cons_of_mem _ (List.mem_append_left _ (List.mem_append_left _ (List.mem_append_left _ (List.mem_append_right _ h)))))
  refine j_aload_n (r := (some b)) hx hb dX9_init_0 rfl (lv_at hl 0 rfl) ?_
  refine W.objInit hx hb hown (hts (.methodLink RX9 1 objectInit) (List.mem_of_getElem? (i := 1) (by decide +kernel))) (hts (.instanceMethod objectInit) (List.mem_of_getElem? (i := 2) (by decide +kernel))) (hts (.code objectInit ⟨#[0xb1]⟩ 1 none) (List.mem_of_getElem? (i := 3) (by decide +kernel))) rfl (by rw [hml]; exact hl.1) rfl dX9_init_1 (Nat.le_of_ble_eq_true rfl) (Nat.le_of_ble_eq_true rfl) ?_
  refine W.eq (g2 := F0 m 4 ls []) rfl ?_
  refine j_aload_n (r := (some b)) hx hb dX9_init_4 rfl (lv_at hl 0 rfl) ?_
  refine j_newz (C := RX3) (T := TX3) (N := 8) (ci := 6) (fs := jfX3) hx hb hfX3 tyX3 tyX3_ok hown (hts (.classLink RX9 7 RX3) (List.mem_of_getElem? (i := 4) (by decide +kernel))) (hts (.instantiable RX3 8) (List.mem_of_getElem? (i := 5) (by decide +kernel))) (hts (.initialized RX3) (List.mem_of_getElem? (i := 6) (by decide +kernel))) hK hI rfl jdX3 (by show _ ≤ 20; omega) (by show _ ≤ 685; omega) dX9_init_5 (fun q1 H hq1 hI => ?_)
  have hw := hw q1 hq1
  refine lv_dup hx hb dX9_init_8 rfl ?_
  refine j_goz hI (va_runI (As := []) (rest := [va_rf (some q1), va_rf (some b)]) ⟨hx, hb, hml, hown, hts⟩ (kX3_init l hfl D z q1  (va_up μ q1 (some (.inr (6, jfX3)))) H.size _) (cwI 0 hts gX9_init_X3_init rfl rfl rfl (hts (.initialized RX3) (List.mem_of_getElem? (i := 6) (by decide +kernel))) (hts (.methodLink RX9 9 yX3_init) (List.mem_of_getElem? (i := 8) (by decide +kernel))) (hts (.instanceMethod yX3_init) (List.mem_of_getElem? (i := 9) (by decide +kernel))) rfl (by decide +kernel) ⟨Nat.le_of_ble_eq_true rfl, Nat.le_of_ble_eq_true rfl⟩) (j_prS2z hK hG hI hw) rfl rfl hl.1 rfl (lv_room (Nat.le_of_ble_eq_true rfl)) dX9_init_9 ⟨by show _ ≤ 20; omega, by show _ ≤ 685; omega⟩) (fun u2 μ3 H locs hw hI => ?_)
  refine W.eq (g2 := F0 m 12 ls [va_rf (some q1), va_rf (some b)]) rfl ?_
  obtain ⟨μ4, hμ4, hw⟩ := hw
  refine j_putFz (C := RX9) (T := TX9) (N := 1) (ci := 11) (r := (some b)) (v := va_rf (some q1)) hx hb hfX9 tyX9 tyX9_ok nmX9 hown hK hI rfl 0 (by decide) (hts (.fieldLink RX9 10 "CashPools" "desk" "LCashPools$Desk;") (List.mem_of_getElem? (i := 7) (by decide +kernel))) (fun _ h => h) rfl hnm rfl (tyX9_ok 0 (by decide)) (jnr _ (some q1)) (jfr _ (some q1)) hμ4 dX9_init_12 (fun H locs hI => ?_)
  exact j_vretz hx hb hr hlocks hI hw (by omega) (by omega) dX9_init_15
set_option maxHeartbeats 4000000 in
set_option maxRecDepth 100000 in
theorem kX9_init (l : Launch) (hfl : l.stackTraces = false) (D : jD) (z : Nat × Nat) (b : Nat)  (μ : jM) (sz : Nat) (Q : Unit → jM → Prop) : Met l yX9_init wsX9_init rmX9_init (jPre2z D z μ sz [.ref b] (wX9_init z b  μ Q)) (jRz jfV Q D z (jA z μ sz)) 20 685 (jA z μ sz) := by
  refine Met.ofW (cc := cX9_init) (maxL := 1) (ret := none) (by decide) rfl ?_
  intro p e s m args below meth c s₁ B hml hv
  obtain ⟨rfl, hsz, hH, hz0, hK, hG, hw⟩ := hv
  subst hsz
  have hX : jX2 D z (jA z μ s.heap.size) p l s m _ meth c yX9_init cX9_init 1 wsX9_init none := ⟨B.exec, B.bytes, hml, findClass_of_methodNamed B.named, atoms_spec (ws := wsX9_init) B.pre, B.returns, B.notSynchronized, (name_of_methodNamed B.named B.method).1, hK, hG, hfl⟩
  obtain ⟨ls, hg, hl⟩ : ∃ ls : Array Slot, entryFrame m ([.ref b] : List Value).toArray 1 = F0 m 0 ls [] ∧ lv_has ls 1 [(0, va_rf (some b))] := by
    exact ⟨_, lg_entry_eq .., lv_entry _ (n := 1) (Nat.le_of_ble_eq_true rfl)⟩
  rw [hg]
  exact kX9_init_0 hX hw (jIz.start hH hz0) (lv_sub hl [0] rfl) (by decide) (by decide)
set_option maxHeartbeats 4000000 in
set_option maxRecDepth 100000 in
theorem kL_draw_0 {b L : Nat} {xs : Nat → Int32} (hX : jX2 D z A p l s m args meth c yL_draw cL_draw 4 wsL_draw (some .int)) (hS : jXS b L xs A s s.heap) {Q : Int32 → jM → Prop}  {x1 : Int32} {x2 : Int32} {μ : jM} {H : Heap} {locs : List Loc} {ls : Array Slot} {cells slots : Nat} (hw : wL_draw_0 z b L xs Q x1 x2 μ) (hI : jIz D z A s.heap μ H locs) (hl : lv_has ls 4 [(0, va_rf (some b)), (1, .int x1), (2, .int x2)]) (hcn : cells + 0 ≤ 0) (hsn : slots + 0 ≤ 0) : W p l e rmL_draw s m args below meth c H locs cells slots (MQ below (jRz jfI Q D z A) args s 0 0 A) (F0 m 0 ls []) := by
  unfold wL_draw_0 at hw
  obtain ⟨hx, hb, hml, hown, hts, hr, hlocks, hnm, hK, hG, hfl⟩ := id hX
  have hown : s.vm.findClass RL = some m.cls := hown
  refine lv_iload_n hx hb dL_draw_0 rfl (lv_at hl 1 rfl) ?_
  refine j_aload_n (r := (some b)) hx hb dL_draw_1 rfl (lv_at hl 0 rfl) ?_
  refine va_slen hx hb hS.1 hS.2.1 hS.2.2 hI.2.2.1 dL_draw_2 ?_
  refine lv_icmp_ge (tgt := 12) hx hb dL_draw_3 (by decide) (fun hc => ?_) (fun hc => ?_)
  · have hw := hw.1 hc
    refine lv_ldc (v := (765970097)) hx hb hown (hts (.constant RL 7 (765970097)) (List.mem_of_getElem? (i := 1) (by decide +kernel))) dL_draw_12 ?_
    refine lv_iload_n hx hb dL_draw_14 rfl (lv_at hl 1 rfl) ?_
    refine lv_bipush (v := (11)) hx hb dL_draw_15 (by decide) ?_
    refine lv_iadd hx hb dL_draw_17 ?_
    refine lv_imul hx hb dL_draw_18 ?_
    refine lv_ldc (v := (1676847453)) hx hb hown (hts (.constant RL 8 (1676847453)) (List.mem_of_getElem? (i := 2) (by decide +kernel))) dL_draw_19 ?_
    refine lv_iadd hx hb dL_draw_21 ?_
    refine lv_topi (fun v1 ev1 => ?_)
    have hw := hw v1 ev1
    refine lv_istore_n (lv' := [(3, .int v1), (0, va_rf (some b)), (1, .int x1), (2, .int x2)]) hx hb dL_draw_22 rfl hl (by decide) rfl (fun ls hl => ?_)
    refine lv_iload_n hx hb dL_draw_23 rfl (lv_at hl 0 rfl) ?_
    refine lv_ldc (v := (2147483647)) hx hb hown (hts (.constant RL 9 (2147483647)) (List.mem_of_getElem? (i := 3) (by decide +kernel))) dL_draw_24 ?_
    refine lv_iand hx hb dL_draw_26 ?_
    refine lv_iload_n hx hb dL_draw_27 rfl (lv_at hl 3 rfl) ?_
    obtain ⟨h2, hw⟩ := hw
    refine lv_irem hx hb dL_draw_28 h2 ?_
    exact j_iretz hx hb hr hlocks hI hw (by omega) (by omega) dL_draw_29
  · have hw := hw.2 hc
    refine j_aload_n (r := (some b)) hx hb dL_draw_6 rfl (lv_at hl 0 rfl) ?_
    refine lv_iload_n hx hb dL_draw_7 rfl (lv_at hl 1 rfl) ?_
    obtain ⟨h3, hw⟩ := hw
    refine va_sld hx hb hS.1 hS.2.1 hS.2.2 hI.2.2.1 h3 dL_draw_8 ?_
    refine lv_goto (tgt := 22) hx hb dL_draw_9 (by decide) ?_
    refine lv_topi (fun v4 ev4 => ?_)
    have hw := hw v4 ev4
    refine lv_istore_n (lv' := [(3, .int v4), (0, va_rf (some b)), (1, .int x1), (2, .int x2)]) hx hb dL_draw_22 rfl hl (by decide) rfl (fun ls hl => ?_)
    refine lv_iload_n hx hb dL_draw_23 rfl (lv_at hl 0 rfl) ?_
    refine lv_ldc (v := (2147483647)) hx hb hown (hts (.constant RL 9 (2147483647)) (List.mem_of_getElem? (i := 3) (by decide +kernel))) dL_draw_24 ?_
    refine lv_iand hx hb dL_draw_26 ?_
    refine lv_iload_n hx hb dL_draw_27 rfl (lv_at hl 3 rfl) ?_
    obtain ⟨h5, hw⟩ := hw
    refine lv_irem hx hb dL_draw_28 h5 ?_
    exact j_iretz hx hb hr hlocks hI hw (by omega) (by omega) dL_draw_29
set_option maxHeartbeats 4000000 in
set_option maxRecDepth 100000 in
theorem kL_draw (l : Launch) (hfl : l.stackTraces = false) (D : jD) (z : Nat × Nat) (b : Nat) (x1 : Int32) (x2 : Int32) (μ : jM) (sz L : Nat) (xs : Nat → Int32) (Q : Int32 → jM → Prop) : Met l yL_draw wsL_draw rmL_draw (jPreS D z μ sz [.ref b, .int x1, .int x2] b L xs (wL_draw z b L xs x1 x2 μ Q)) (jRz jfI Q D z (jA z μ sz)) 0 0 (jA z μ sz) := by
  refine Met.ofW (cc := cL_draw) (maxL := 4) (ret := (some .int)) (by decide) rfl ?_
  intro p e s m args below meth c s₁ B hml hv
  obtain ⟨rfl, hsz, hH, hz0, hK, hG, hw, hS⟩ := hv
  subst hsz
  have hX : jX2 D z (jA z μ s.heap.size) p l s m _ meth c yL_draw cL_draw 4 wsL_draw (some .int) := ⟨B.exec, B.bytes, hml, findClass_of_methodNamed B.named, atoms_spec (ws := wsL_draw) B.pre, B.returns, B.notSynchronized, (name_of_methodNamed B.named B.method).1, hK, hG, hfl⟩
  obtain ⟨ls, hg, hl⟩ : ∃ ls : Array Slot, entryFrame m ([.ref b, .int x1, .int x2] : List Value).toArray 4 = F0 m 0 ls [] ∧ lv_has ls 4 [(0, va_rf (some b)), (1, .int x1), (2, .int x2)] := ⟨_, lg_entry_eq .., lv_entry _ (n := 4) (Nat.le_of_ble_eq_true rfl)⟩
  rw [hg]
  exact kL_draw_0 hX hS hw (jIz.start hH hz0) (lv_sub hl [0, 1, 2] rfl) (by decide) (by decide)
set_option maxHeartbeats 4000000 in
set_option maxRecDepth 100000 in
theorem kJx4a65c_size_8abf5_0 {b : Nat} (hX : jX2 D z A p l s m args meth c yJx4a65c_size_8abf5 cJx4a65c_size_8abf5 1 wsJx4a65c_size_8abf5 (some .int)) {Q : Int32 → jM → Prop}   {μ : jM} {H : Heap} {locs : List Loc} {ls : Array Slot} {cells slots : Nat} (hw : wJx4a65c_size_8abf5_0 z b Q  μ) (hI : jIz D z A s.heap μ H locs) (hl : lv_has ls 1 [(0, va_rf (some b))]) (hcn : cells + 0 ≤ 0) (hsn : slots + 0 ≤ 0) : W p l e rmJx4a65c_size_8abf5 s m args below meth c H locs cells slots (MQ below (jRz jfI Q D z A) args s 0 0 A) (F0 m 0 ls []) := by
  unfold wJx4a65c_size_8abf5_0 at hw
  obtain ⟨hx, hb, hml, hown, hts, hr, hlocks, hnm, hK, hG, hfl⟩ := id hX
  have hown : s.vm.findClass RJx4a65c = some m.cls := hown
  have hfJx4a65c : ∀ w ∈ wsJx4a65c0, w.before args s = true := fun w h => hts w (List.mem_cons_of_mem _ (List.mem_append_right _ h))
  refine j_aload_n (r := (some b)) hx hb dJx4a65c_size_8abf5_0 rfl (lv_at hl 0 rfl) ?_
  obtain ⟨v1, hv1, hw⟩ := hw
  refine j_getz (C := RJx4a65c) (T := TJx4a65c) (N := 3) (ci := 2) (r := (some b)) (v := .int v1) hx hb hfJx4a65c hown hK hI rfl 2 (by decide) (hts (.fieldLink RJx4a65c 48 "java/util/ArrayList" "size" "I") (List.mem_of_getElem? (i := 1) (by decide +kernel))) (fun _ h => h) hv1 dJx4a65c_size_8abf5_1 ?_
  exact j_iretz hx hb hr hlocks hI hw (by omega) (by omega) dJx4a65c_size_8abf5_4
set_option maxHeartbeats 4000000 in
set_option maxRecDepth 100000 in
theorem kJx4a65c_size_8abf5 (l : Launch) (hfl : l.stackTraces = false) (D : jD) (z : Nat × Nat) (b : Nat)  (μ : jM) (sz : Nat) (Q : Int32 → jM → Prop) : Met l yJx4a65c_size_8abf5 wsJx4a65c_size_8abf5 rmJx4a65c_size_8abf5 (jPre2z D z μ sz [.ref b] (wJx4a65c_size_8abf5 z b  μ Q)) (jRz jfI Q D z (jA z μ sz)) 0 0 (jA z μ sz) := by
  refine Met.ofW (cc := cJx4a65c_size_8abf5) (maxL := 1) (ret := (some .int)) (by decide) rfl ?_
  intro p e s m args below meth c s₁ B hml hv
  obtain ⟨rfl, hsz, hH, hz0, hK, hG, hw⟩ := hv
  subst hsz
  have hX : jX2 D z (jA z μ s.heap.size) p l s m _ meth c yJx4a65c_size_8abf5 cJx4a65c_size_8abf5 1 wsJx4a65c_size_8abf5 (some .int) := ⟨B.exec, B.bytes, hml, findClass_of_methodNamed B.named, atoms_spec (ws := wsJx4a65c_size_8abf5) B.pre, B.returns, B.notSynchronized, (name_of_methodNamed B.named B.method).1, hK, hG, hfl⟩
  obtain ⟨ls, hg, hl⟩ : ∃ ls : Array Slot, entryFrame m ([.ref b] : List Value).toArray 1 = F0 m 0 ls [] ∧ lv_has ls 1 [(0, va_rf (some b))] := by
    exact ⟨_, lg_entry_eq .., lv_entry _ (n := 1) (Nat.le_of_ble_eq_true rfl)⟩
  rw [hg]
  exact kJx4a65c_size_8abf5_0 hX hw (jIz.start hH hz0) (lv_sub hl [0] rfl) (by decide) (by decide)
set_option maxHeartbeats 4000000 in
set_option maxRecDepth 100000 in
theorem kJ3_checkIndex_8e157_0 (hX : jX2 D z A p l s m args meth c yJ3_checkIndex_8e157 cJ3_checkIndex_8e157 3 wsJ3_checkIndex_8e157 (some .int)) {Q : Int32 → jM → Prop}  {x0 : Int32} {x1 : Int32} {x2 : Option Nat} {μ : jM} {H : Heap} {locs : List Loc} {ls : Array Slot} {cells slots : Nat} (hw : wJ3_checkIndex_8e157_0 z Q x0 x1 x2 μ) (hI : jIz D z A s.heap μ H locs) (hl : lv_has ls 3 [(0, .int x0), (1, .int x1), (2, va_rf x2)]) (hcn : cells + 0 ≤ 0) (hsn : slots + 0 ≤ 0) : W p l e rmJ3_checkIndex_8e157 s m args below meth c H locs cells slots (MQ below (jRz jfI Q D z A) args s 0 0 A) (F0 m 0 ls []) := by
  unfold wJ3_checkIndex_8e157_0 at hw
  obtain ⟨hx, hb, hml, hown, hts, hr, hlocks, hnm, hK, hG, hfl⟩ := id hX
  have hown : s.vm.findClass RJ3 = some m.cls := hown
  refine lv_iload_n hx hb dJ3_checkIndex_8e157_0 rfl (lv_at hl 0 rfl) ?_
  refine lv_if_lt (tgt := 9) hx hb dJ3_checkIndex_8e157_1 (by decide) (fun hc => ?_) (fun hc => ?_)
  · have hw := hw.1 hc
    refine j_aload_n (r := x2) hx hb dJ3_checkIndex_8e157_9 rfl (lv_at hl 2 rfl) ?_
    refine lv_iload_n hx hb dJ3_checkIndex_8e157_10 rfl (lv_at hl 0 rfl) ?_
    refine lv_iload_n hx hb dJ3_checkIndex_8e157_11 rfl (lv_at hl 1 rfl) ?_
    exact (show False from hw).elim
  · have hw := hw.2 hc
    refine lv_iload_n hx hb dJ3_checkIndex_8e157_4 rfl (lv_at hl 0 rfl) ?_
    refine lv_iload_n hx hb dJ3_checkIndex_8e157_5 rfl (lv_at hl 1 rfl) ?_
    refine lv_icmp_lt (tgt := 16) hx hb dJ3_checkIndex_8e157_6 (by decide) (fun hc => ?_) (fun hc => ?_)
    · have hw := hw.1 hc
      refine lv_iload_n hx hb dJ3_checkIndex_8e157_16 rfl (lv_at hl 0 rfl) ?_
      exact j_iretz hx hb hr hlocks hI hw (by omega) (by omega) dJ3_checkIndex_8e157_17
    · have hw := hw.2 hc
      refine j_aload_n (r := x2) hx hb dJ3_checkIndex_8e157_9 rfl (lv_at hl 2 rfl) ?_
      refine lv_iload_n hx hb dJ3_checkIndex_8e157_10 rfl (lv_at hl 0 rfl) ?_
      refine lv_iload_n hx hb dJ3_checkIndex_8e157_11 rfl (lv_at hl 1 rfl) ?_
      exact (show False from hw).elim
set_option maxHeartbeats 4000000 in
set_option maxRecDepth 100000 in
theorem kJ3_checkIndex_8e157 (l : Launch) (hfl : l.stackTraces = false) (D : jD) (z : Nat × Nat) (x0 : Int32) (x1 : Int32) (x2 : Option Nat) (μ : jM) (sz : Nat) (Q : Int32 → jM → Prop) : Met l yJ3_checkIndex_8e157 wsJ3_checkIndex_8e157 rmJ3_checkIndex_8e157 (jPre2z D z μ sz [.int x0, .int x1, va_rf x2] (wJ3_checkIndex_8e157 z x0 x1 x2 μ Q)) (jRz jfI Q D z (jA z μ sz)) 0 0 (jA z μ sz) := by
  refine Met.ofW (cc := cJ3_checkIndex_8e157) (maxL := 3) (ret := (some .int)) (by decide) rfl ?_
  intro p e s m args below meth c s₁ B hml hv
  obtain ⟨rfl, hsz, hH, hz0, hK, hG, hw⟩ := hv
  subst hsz
  have hX : jX2 D z (jA z μ s.heap.size) p l s m _ meth c yJ3_checkIndex_8e157 cJ3_checkIndex_8e157 3 wsJ3_checkIndex_8e157 (some .int) := ⟨B.exec, B.bytes, hml, findClass_of_methodNamed B.named, atoms_spec (ws := wsJ3_checkIndex_8e157) B.pre, B.returns, B.notSynchronized, (name_of_methodNamed B.named B.method).1, hK, hG, hfl⟩
  obtain ⟨ls, hg, hl⟩ : ∃ ls : Array Slot, entryFrame m ([.int x0, .int x1, va_rf x2] : List Value).toArray 3 = F0 m 0 ls [] ∧ lv_has ls 3 [(0, .int x0), (1, .int x1), (2, va_rf x2)] := by
    cases x2 <;> exact ⟨_, lg_entry_eq .., lv_entry _ (n := 3) (Nat.le_of_ble_eq_true rfl)⟩
  rw [hg]
  exact kJ3_checkIndex_8e157_0 hX hw (jIz.start hH hz0) (lv_sub hl [0, 1, 2] rfl) (by decide) (by decide)
set_option maxHeartbeats 4000000 in
set_option maxRecDepth 100000 in
theorem kJ15_checkIndex_7cf53_0 (hX : jX2 D z A p l s m args meth c yJ15_checkIndex_7cf53 cJ15_checkIndex_7cf53 2 wsJ15_checkIndex_7cf53 (some .int)) {Q : Int32 → jM → Prop}  {x0 : Int32} {x1 : Int32} {μ : jM} {H : Heap} {locs : List Loc} {ls : Array Slot} {cells slots : Nat} (hw : wJ15_checkIndex_7cf53_0 z Q x0 x1 μ) (hI : jIz D z A s.heap μ H locs) (hl : lv_has ls 2 [(0, .int x0), (1, .int x1)]) (hcn : cells + 0 ≤ 0) (hsn : slots + 0 ≤ 0) : W p l e rmJ15_checkIndex_7cf53 s m args below meth c H locs cells slots (MQ below (jRz jfI Q D z A) args s 0 0 A) (F0 m 0 ls []) := by
  unfold wJ15_checkIndex_7cf53_0 at hw
  obtain ⟨hx, hb, hml, hown, hts, hr, hlocks, hnm, hK, hG, hfl⟩ := id hX
  have hown : s.vm.findClass RJ15 = some m.cls := hown
  refine lv_iload_n hx hb dJ15_checkIndex_7cf53_0 rfl (lv_at hl 0 rfl) ?_
  refine lv_iload_n hx hb dJ15_checkIndex_7cf53_1 rfl (lv_at hl 1 rfl) ?_
  refine j_null hx hb dJ15_checkIndex_7cf53_2 ?_
  refine j_goz hI (va_runS (As := [.int x0, .int x1, va_rf none]) (rest := []) ⟨hx, hb, hml, hown, hts⟩ (kJ3_checkIndex_8e157 l hfl D z x0 x1 none μ H.size _) (va_cwS 3 hts gJ15_checkIndex_7cf53_J3_checkIndex_8e157 rfl rfl rfl (by decide +kernel) ⟨Nat.le_of_ble_eq_true rfl, Nat.le_of_ble_eq_true rfl⟩) (j_prS2z hK hG hI hw) rfl rfl hl.1 rfl (lv_room (Nat.le_of_ble_eq_true rfl)) dJ15_checkIndex_7cf53_3 ⟨by show _ ≤ 0; omega, by show _ ≤ 0; omega⟩) (fun v1 μ2 H locs hw hI => ?_)
  refine W.eq (g2 := F0 m 6 ls [.int v1]) rfl ?_
  exact j_iretz hx hb hr hlocks hI hw (by omega) (by omega) dJ15_checkIndex_7cf53_6
set_option maxHeartbeats 4000000 in
set_option maxRecDepth 100000 in
theorem kJ15_checkIndex_7cf53 (l : Launch) (hfl : l.stackTraces = false) (D : jD) (z : Nat × Nat) (x0 : Int32) (x1 : Int32) (μ : jM) (sz : Nat) (Q : Int32 → jM → Prop) : Met l yJ15_checkIndex_7cf53 wsJ15_checkIndex_7cf53 rmJ15_checkIndex_7cf53 (jPre2z D z μ sz [.int x0, .int x1] (wJ15_checkIndex_7cf53 z x0 x1 μ Q)) (jRz jfI Q D z (jA z μ sz)) 0 0 (jA z μ sz) := by
  refine Met.ofW (cc := cJ15_checkIndex_7cf53) (maxL := 2) (ret := (some .int)) (by decide) rfl ?_
  intro p e s m args below meth c s₁ B hml hv
  obtain ⟨rfl, hsz, hH, hz0, hK, hG, hw⟩ := hv
  subst hsz
  have hX : jX2 D z (jA z μ s.heap.size) p l s m _ meth c yJ15_checkIndex_7cf53 cJ15_checkIndex_7cf53 2 wsJ15_checkIndex_7cf53 (some .int) := ⟨B.exec, B.bytes, hml, findClass_of_methodNamed B.named, atoms_spec (ws := wsJ15_checkIndex_7cf53) B.pre, B.returns, B.notSynchronized, (name_of_methodNamed B.named B.method).1, hK, hG, hfl⟩
  obtain ⟨ls, hg, hl⟩ : ∃ ls : Array Slot, entryFrame m ([.int x0, .int x1] : List Value).toArray 2 = F0 m 0 ls [] ∧ lv_has ls 2 [(0, .int x0), (1, .int x1)] := by
    exact ⟨_, lg_entry_eq .., lv_entry _ (n := 2) (Nat.le_of_ble_eq_true rfl)⟩
  rw [hg]
  exact kJ15_checkIndex_7cf53_0 hX hw (jIz.start hH hz0) (lv_sub hl [0, 1] rfl) (by decide) (by decide)
set_option maxHeartbeats 4000000 in
set_option maxRecDepth 100000 in
theorem kJx4a65c_elementData_915e3_0 {b : Nat} (hX : jX2 D z A p l s m args meth c yJx4a65c_elementData_915e3 cJx4a65c_elementData_915e3 2 wsJx4a65c_elementData_915e3 (some (.object "java/lang/Object"))) {Q : Option Nat → jM → Prop}  {x1 : Int32} {μ : jM} {H : Heap} {locs : List Loc} {ls : Array Slot} {cells slots : Nat} (hw : wJx4a65c_elementData_915e3_0 z b Q x1 μ) (hI : jIz D z A s.heap μ H locs) (hl : lv_has ls 2 [(0, va_rf (some b)), (1, .int x1)]) (hcn : cells + 0 ≤ 0) (hsn : slots + 0 ≤ 0) : W p l e rmJx4a65c_elementData_915e3 s m args below meth c H locs cells slots (MQ below (jRz jfR Q D z A) args s 0 0 A) (F0 m 0 ls []) := by
  unfold wJx4a65c_elementData_915e3_0 at hw
  obtain ⟨hx, hb, hml, hown, hts, hr, hlocks, hnm, hK, hG, hfl⟩ := id hX
  have hown : s.vm.findClass RJx4a65c = some m.cls := hown
  have hfJx4a65c : ∀ w ∈ wsJx4a65c0, w.before args s = true := fun w h => hts w (List.mem_cons_of_mem _ (List.mem_append_right _ h))
  refine j_aload_n (r := (some b)) hx hb dJx4a65c_elementData_915e3_0 rfl (lv_at hl 0 rfl) ?_
  obtain ⟨v1, hv1, hw⟩ := hw
  refine j_getz (C := RJx4a65c) (T := TJx4a65c) (N := 3) (ci := 2) (r := (some b)) (v := va_rf v1) hx hb hfJx4a65c hown hK hI rfl 1 (by decide) (hts (.fieldLink RJx4a65c 9 "java/util/ArrayList" "elementData" "[Ljava/lang/Object;") (List.mem_of_getElem? (i := 1) (by decide +kernel))) (fun _ h => h) hv1 dJx4a65c_elementData_915e3_1 ?_
  refine lv_iload_n hx hb dJx4a65c_elementData_915e3_4 rfl (lv_at hl 1 rfl) ?_
  obtain ⟨v2, hv2, hw⟩ := hw
  refine j_aaldz (r := v1) hx hb hK hI hv2 dJx4a65c_elementData_915e3_5 ?_
  exact j_aretz (v := v2) hx hb hr (Or.inl ⟨_, rfl⟩) hlocks hI hw (by omega) (by omega) dJx4a65c_elementData_915e3_6
set_option maxHeartbeats 4000000 in
set_option maxRecDepth 100000 in
theorem kJx4a65c_elementData_915e3 (l : Launch) (hfl : l.stackTraces = false) (D : jD) (z : Nat × Nat) (b : Nat) (x1 : Int32) (μ : jM) (sz : Nat) (Q : Option Nat → jM → Prop) : Met l yJx4a65c_elementData_915e3 wsJx4a65c_elementData_915e3 rmJx4a65c_elementData_915e3 (jPre2z D z μ sz [.ref b, .int x1] (wJx4a65c_elementData_915e3 z b x1 μ Q)) (jRz jfR Q D z (jA z μ sz)) 0 0 (jA z μ sz) := by
  refine Met.ofW (cc := cJx4a65c_elementData_915e3) (maxL := 2) (ret := (some (.object "java/lang/Object"))) (by decide) rfl ?_
  intro p e s m args below meth c s₁ B hml hv
  obtain ⟨rfl, hsz, hH, hz0, hK, hG, hw⟩ := hv
  subst hsz
  have hX : jX2 D z (jA z μ s.heap.size) p l s m _ meth c yJx4a65c_elementData_915e3 cJx4a65c_elementData_915e3 2 wsJx4a65c_elementData_915e3 (some (.object "java/lang/Object")) := ⟨B.exec, B.bytes, hml, findClass_of_methodNamed B.named, atoms_spec (ws := wsJx4a65c_elementData_915e3) B.pre, B.returns, B.notSynchronized, (name_of_methodNamed B.named B.method).1, hK, hG, hfl⟩
  obtain ⟨ls, hg, hl⟩ : ∃ ls : Array Slot, entryFrame m ([.ref b, .int x1] : List Value).toArray 2 = F0 m 0 ls [] ∧ lv_has ls 2 [(0, va_rf (some b)), (1, .int x1)] := by
    exact ⟨_, lg_entry_eq .., lv_entry _ (n := 2) (Nat.le_of_ble_eq_true rfl)⟩
  rw [hg]
  exact kJx4a65c_elementData_915e3_0 hX hw (jIz.start hH hz0) (lv_sub hl [0, 1] rfl) (by decide) (by decide)
set_option maxHeartbeats 4000000 in
set_option maxRecDepth 100000 in
theorem kJx4a65c_get_915e3_0 {b : Nat} (hX : jX2 D z A p l s m args meth c yJx4a65c_get_915e3 cJx4a65c_get_915e3 2 wsJx4a65c_get_915e3 (some (.object "java/lang/Object"))) {Q : Option Nat → jM → Prop}  {x1 : Int32} {μ : jM} {H : Heap} {locs : List Loc} {ls : Array Slot} {cells slots : Nat} (hw : wJx4a65c_get_915e3_0 z b Q x1 μ) (hI : jIz D z A s.heap μ H locs) (hl : lv_has ls 2 [(0, va_rf (some b)), (1, .int x1)]) (hcn : cells + 0 ≤ 0) (hsn : slots + 0 ≤ 0) : W p l e rmJx4a65c_get_915e3 s m args below meth c H locs cells slots (MQ below (jRz jfR Q D z A) args s 0 0 A) (F0 m 0 ls []) := by
  unfold wJx4a65c_get_915e3_0 at hw
  obtain ⟨hx, hb, hml, hown, hts, hr, hlocks, hnm, hK, hG, hfl⟩ := id hX
  have hown : s.vm.findClass RJx4a65c = some m.cls := hown
  have hfJx4a65c : ∀ w ∈ wsJx4a65c0, w.before args s = true := fun w h => hts w (List.mem_cons_of_mem _ (List.mem_append_right _ h))
  refine lv_iload_n hx hb dJx4a65c_get_915e3_0 rfl (lv_at hl 1 rfl) ?_
  refine j_aload_n (r := (some b)) hx hb dJx4a65c_get_915e3_1 rfl (lv_at hl 0 rfl) ?_
  obtain ⟨v1, hv1, hw⟩ := hw
  refine j_getz (C := RJx4a65c) (T := TJx4a65c) (N := 3) (ci := 2) (r := (some b)) (v := .int v1) hx hb hfJx4a65c hown hK hI rfl 2 (by decide) (hts (.fieldLink RJx4a65c 48 "java/util/ArrayList" "size" "I") (List.mem_of_getElem? (i := 1) (by decide +kernel))) (fun _ h => h) hv1 dJx4a65c_get_915e3_2 ?_
  refine j_goz hI (va_runS (As := [.int x1, .int v1]) (rest := []) ⟨hx, hb, hml, hown, hts⟩ (kJ15_checkIndex_7cf53 l hfl D z x1 v1 μ H.size _) (va_cwS 2 hts gJx4a65c_get_915e3_J15_checkIndex_7cf53 rfl rfl rfl (by decide +kernel) ⟨Nat.le_of_ble_eq_true rfl, Nat.le_of_ble_eq_true rfl⟩) (j_prS2z hK hG hI hw) rfl rfl hl.1 rfl (lv_room (Nat.le_of_ble_eq_true rfl)) dJx4a65c_get_915e3_5 ⟨by show _ ≤ 0; omega, by show _ ≤ 0; omega⟩) (fun v2 μ3 H locs hw hI => ?_)
  refine W.eq (g2 := F0 m 8 ls [.int v2]) rfl ?_
  refine lv_pop hx hb dJx4a65c_get_915e3_8 rfl ?_
  refine j_aload_n (r := (some b)) hx hb dJx4a65c_get_915e3_9 rfl (lv_at hl 0 rfl) ?_
  refine lv_iload_n hx hb dJx4a65c_get_915e3_10 rfl (lv_at hl 1 rfl) ?_
  obtain ⟨hfs, hw⟩ := hw
  refine j_goz hI (va_runV (As := [.int x1]) (rest := []) ⟨hx, hb, hml, hown, hts⟩ (kJx4a65c_elementData_915e3 l hfl D z b x1 μ3 H.size _) (cwV 1 hts gJx4a65c_get_915e3_Jx4a65c_elementData_915e3 rfl rfl rfl (by decide +kernel) ⟨Nat.le_of_ble_eq_true rfl, Nat.le_of_ble_eq_true rfl⟩) (j_prV2z hK hG hI hw (ci := 2) rfl hfs) rfl rfl hl.1 rfl (lv_room (Nat.le_of_ble_eq_true rfl)) dJx4a65c_get_915e3_11 ⟨by show _ ≤ 0; omega, by show _ ≤ 0; omega⟩) (fun v4 μ5 H locs hw hI => ?_)
  refine W.eq (g2 := F0 m 14 ls [va_rf v4]) rfl ?_
  exact j_aretz (v := v4) hx hb hr (Or.inl ⟨_, rfl⟩) hlocks hI hw (by omega) (by omega) dJx4a65c_get_915e3_14
set_option maxHeartbeats 4000000 in
set_option maxRecDepth 100000 in
theorem kJx4a65c_get_915e3 (l : Launch) (hfl : l.stackTraces = false) (D : jD) (z : Nat × Nat) (b : Nat) (x1 : Int32) (μ : jM) (sz : Nat) (Q : Option Nat → jM → Prop) : Met l yJx4a65c_get_915e3 wsJx4a65c_get_915e3 rmJx4a65c_get_915e3 (jPre2z D z μ sz [.ref b, .int x1] (wJx4a65c_get_915e3 z b x1 μ Q)) (jRz jfR Q D z (jA z μ sz)) 0 0 (jA z μ sz) := by
  refine Met.ofW (cc := cJx4a65c_get_915e3) (maxL := 2) (ret := (some (.object "java/lang/Object"))) (by decide) rfl ?_
  intro p e s m args below meth c s₁ B hml hv
  obtain ⟨rfl, hsz, hH, hz0, hK, hG, hw⟩ := hv
  subst hsz
  have hX : jX2 D z (jA z μ s.heap.size) p l s m _ meth c yJx4a65c_get_915e3 cJx4a65c_get_915e3 2 wsJx4a65c_get_915e3 (some (.object "java/lang/Object")) := ⟨B.exec, B.bytes, hml, findClass_of_methodNamed B.named, atoms_spec (ws := wsJx4a65c_get_915e3) B.pre, B.returns, B.notSynchronized, (name_of_methodNamed B.named B.method).1, hK, hG, hfl⟩
  obtain ⟨ls, hg, hl⟩ : ∃ ls : Array Slot, entryFrame m ([.ref b, .int x1] : List Value).toArray 2 = F0 m 0 ls [] ∧ lv_has ls 2 [(0, va_rf (some b)), (1, .int x1)] := by
    exact ⟨_, lg_entry_eq .., lv_entry _ (n := 2) (Nat.le_of_ble_eq_true rfl)⟩
  rw [hg]
  exact kJx4a65c_get_915e3_0 hX hw (jIz.start hH hz0) (lv_sub hl [0, 1] rfl) (by decide) (by decide)
end
