section
variable {p : Program} {l : Launch} {e : Env} {s : State} {m : MethodId} {args : Array Value} {below : List Frame} {meth : Method} {c : Code} {D : jD} {z : Nat × Nat} {A : Nat → Prop}
set_option maxHeartbeats 4000000 in
set_option maxRecDepth 100000 in
theorem kJx4a65c_size_8abf5_0 {b : Nat} (hX : jX2 D z A p l s m args meth c yJx4a65c_size_8abf5 cJx4a65c_size_8abf5 1 wsJx4a65c_size_8abf5 (some .int)) {Q : Int32 → jM → Prop}   {μ : jM} {H : Heap} {locs : List Loc} {ls : Array Slot} {cells slots : Nat} (hw : wJx4a65c_size_8abf5_0 z b Q  μ) (hI : jIz D z A s.heap μ H locs) (hl : lv_has ls 1 [(0, va_rf (some b))]) (hcn : cells + 0 ≤ 0) (hsn : slots + 0 ≤ 0) : W p l e rmJx4a65c_size_8abf5 s m args below meth c H locs cells slots (MQ below (jRz jfI Q D z A) args s 0 0 A) (F0 m 0 ls []) := by
  unfold wJx4a65c_size_8abf5_0 at hw
  obtain ⟨hx, hb, hml, hown, hts, hr, hlocks, hnm, hK, hG, hfl⟩ := id hX
  have hown : s.vm.findClass RJx4a65c = some m.cls := hown
  have hfJx4a65c : ∀ w ∈ wsJx4a65c0, w.before args s = true := fun w h => hts w (List.mem_cons_of_mem _ (List.mem_append_right _ h))
  refine j_aload_n (r := (some b)) hx hb dJx4a65c_size_8abf5_0 rfl (lv_at hl 0 rfl) ?_
  obtain ⟨v1, hv1, hw⟩ := hw
  refine j_getz (C := RJx4a65c) (T := TJx4a65c) (N := 3) (ci := 2) (r := (some b)) (v := .int v1) hx hb hfJx4a65c hown hK hI rfl 2 (by decide) (hts (.fieldLink RJx4a65c 48 "java/util/ArrayList" "size" "I") (List.mem_of_getElem? (i := 1) (by decide +kernel))) (fun _ h => h) hv1 dJx4a65c_size_8abf5_1 ?_
  exact j_iretz hx hb hr hlocks hI hw (by omega) (by omega) dJx4a65c_size_8abf5_4
set_option maxHeartbeats 4000000 in
set_option maxRecDepth 100000 in
theorem kJx4a65c_size_8abf5 (l : Launch) (hfl : l.stackTraces = false) (D : jD) (z : Nat × Nat) (b : Nat)  (μ : jM) (sz : Nat) (Q : Int32 → jM → Prop) : Met l yJx4a65c_size_8abf5 wsJx4a65c_size_8abf5 rmJx4a65c_size_8abf5 (jPre2z D z μ sz [.ref b] (wJx4a65c_size_8abf5 z b  μ Q)) (jRz jfI Q D z (jA z μ sz)) 0 0 (jA z μ sz) := by
  refine Met.ofW (cc := cJx4a65c_size_8abf5) (maxL := 1) (ret := (some .int)) (by decide) rfl ?_
  intro p e s m args below meth c s₁ B hml hv
  obtain ⟨rfl, hsz, hH, hz0, hK, hG, hw⟩ := hv
  subst hsz
  have hX : jX2 D z (jA z μ s.heap.size) p l s m _ meth c yJx4a65c_size_8abf5 cJx4a65c_size_8abf5 1 wsJx4a65c_size_8abf5 (some .int) := ⟨B.exec, B.bytes, hml, findClass_of_methodNamed B.named, atoms_spec (ws := wsJx4a65c_size_8abf5) B.pre, B.returns, B.notSynchronized, (name_of_methodNamed B.named B.method).1, hK, hG, hfl⟩
  obtain ⟨ls, hg, hl⟩ : ∃ ls : Array Slot, entryFrame m ([.ref b] : List Value).toArray 1 = F0 m 0 ls [] ∧ lv_has ls 1 [(0, va_rf (some b))] := by
    exact ⟨_, lg_entry_eq .., lv_entry _ (n := 1) (Nat.le_of_ble_eq_true rfl)⟩
  rw [hg]
  exact kJx4a65c_size_8abf5_0 hX hw (jIz.start hH hz0) (lv_sub hl [0] rfl) (by decide) (by decide)
set_option maxHeartbeats 4000000 in
set_option maxRecDepth 100000 in
theorem kJ3_checkIndex_8e157_0 (hX : jX2 D z A p l s m args meth c yJ3_checkIndex_8e157 cJ3_checkIndex_8e157 3 wsJ3_checkIndex_8e157 (some .int)) {Q : Int32 → jM → Prop}  {x0 : Int32} {x1 : Int32} {x2 : Option Nat} {μ : jM} {H : Heap} {locs : List Loc} {ls : Array Slot} {cells slots : Nat} (hw : wJ3_checkIndex_8e157_0 z Q x0 x1 x2 μ) (hI : jIz D z A s.heap μ H locs) (hl : lv_has ls 3 [(0, .int x0), (1, .int x1), (2, va_rf x2)]) (hcn : cells + 0 ≤ 0) (hsn : slots + 0 ≤ 0) : W p l e rmJ3_checkIndex_8e157 s m args below meth c H locs cells slots (MQ below (jRz jfI Q D z A) args s 0 0 A) (F0 m 0 ls []) := by
  unfold wJ3_checkIndex_8e157_0 at hw
  obtain ⟨hx, hb, hml, hown, hts, hr, hlocks, hnm, hK, hG, hfl⟩ := id hX
  have hown : s.vm.findClass RJ3 = some m.cls := hown
  refine lv_iload_n hx hb dJ3_checkIndex_8e157_0 rfl (lv_at hl 0 rfl) ?_
  refine lv_if_lt (tgt := 9) hx hb dJ3_checkIndex_8e157_1 (by decide) (fun hc => ?_) (fun hc => ?_)
  · have hw := hw.1 hc
    refine j_aload_n (r := x2) hx hb dJ3_checkIndex_8e157_9 rfl (lv_at hl 2 rfl) ?_
    refine lv_iload_n hx hb dJ3_checkIndex_8e157_10 rfl (lv_at hl 0 rfl) ?_
    refine lv_iload_n hx hb dJ3_checkIndex_8e157_11 rfl (lv_at hl 1 rfl) ?_
    exact (show False from hw).elim
  · have hw := hw.2 hc
    refine lv_iload_n hx hb dJ3_checkIndex_8e157_4 rfl (lv_at hl 0 rfl) ?_
    refine lv_iload_n hx hb dJ3_checkIndex_8e157_5 rfl (lv_at hl 1 rfl) ?_
    refine lv_icmp_lt (tgt := 16) hx hb dJ3_checkIndex_8e157_6 (by decide) (fun hc => ?_) (fun hc => ?_)
    · have hw := hw.1 hc
      refine lv_iload_n hx hb dJ3_checkIndex_8e157_16 rfl (lv_at hl 0 rfl) ?_
      exact j_iretz hx hb hr hlocks hI hw (by omega) (by omega) dJ3_checkIndex_8e157_17
    · have hw := hw.2 hc
      refine j_aload_n (r := x2) hx hb dJ3_checkIndex_8e157_9 rfl (lv_at hl 2 rfl) ?_
      refine lv_iload_n hx hb dJ3_checkIndex_8e157_10 rfl (lv_at hl 0 rfl) ?_
      refine lv_iload_n hx hb dJ3_checkIndex_8e157_11 rfl (lv_at hl 1 rfl) ?_
      exact (show False from hw).elim
set_option maxHeartbeats 4000000 in
set_option maxRecDepth 100000 in
theorem kJ3_checkIndex_8e157 (l : Launch) (hfl : l.stackTraces = false) (D : jD) (z : Nat × Nat) (x0 : Int32) (x1 : Int32) (x2 : Option Nat) (μ : jM) (sz : Nat) (Q : Int32 → jM → Prop) : Met l yJ3_checkIndex_8e157 wsJ3_checkIndex_8e157 rmJ3_checkIndex_8e157 (jPre2z D z μ sz [.int x0, .int x1, va_rf x2] (wJ3_checkIndex_8e157 z x0 x1 x2 μ Q)) (jRz jfI Q D z (jA z μ sz)) 0 0 (jA z μ sz) := by
  refine Met.ofW (cc := cJ3_checkIndex_8e157) (maxL := 3) (ret := (some .int)) (by decide) rfl ?_
  intro p e s m args below meth c s₁ B hml hv
  obtain ⟨rfl, hsz, hH, hz0, hK, hG, hw⟩ := hv
  subst hsz
  have hX : jX2 D z (jA z μ s.heap.size) p l s m _ meth c yJ3_checkIndex_8e157 cJ3_checkIndex_8e157 3 wsJ3_checkIndex_8e157 (some .int) := ⟨B.exec, B.bytes, hml, findClass_of_methodNamed B.named, atoms_spec (ws := wsJ3_checkIndex_8e157) B.pre, B.returns, B.notSynchronized, (name_of_methodNamed B.named B.method).1, hK, hG, hfl⟩
  obtain ⟨ls, hg, hl⟩ : ∃ ls : Array Slot, entryFrame m ([.int x0, .int x1, va_rf x2] : List Value).toArray 3 = F0 m 0 ls [] ∧ lv_has ls 3 [(0, .int x0), (1, .int x1), (2, va_rf x2)] := by
    cases x2 <;> exact ⟨_, lg_entry_eq .., lv_entry _ (n := 3) (Nat.le_of_ble_eq_true rfl)⟩
  rw [hg]
  exact kJ3_checkIndex_8e157_0 hX hw (jIz.start hH hz0) (lv_sub hl [0, 1, 2] rfl) (by decide) (by decide)
set_option maxHeartbeats 4000000 in
set_option maxRecDepth 100000 in
theorem kJ15_checkIndex_7cf53_0 (hX : jX2 D z A p l s m args meth c yJ15_checkIndex_7cf53 cJ15_checkIndex_7cf53 2 wsJ15_checkIndex_7cf53 (some .int)) {Q : Int32 → jM → Prop}  {x0 : Int32} {x1 : Int32} {μ : jM} {H : Heap} {locs : List Loc} {ls : Array Slot} {cells slots : Nat} (hw : wJ15_checkIndex_7cf53_0 z Q x0 x1 μ) (hI : jIz D z A s.heap μ H locs) (hl : lv_has ls 2 [(0, .int x0), (1, .int x1)]) (hcn : cells + 0 ≤ 0) (hsn : slots + 0 ≤ 0) : W p l e rmJ15_checkIndex_7cf53 s m args below meth c H locs cells slots (MQ below (jRz jfI Q D z A) args s 0 0 A) (F0 m 0 ls []) := by
  unfold wJ15_checkIndex_7cf53_0 at hw
  obtain ⟨hx, hb, hml, hown, hts, hr, hlocks, hnm, hK, hG, hfl⟩ := id hX
  have hown : s.vm.findClass RJ15 = some m.cls := hown
  refine lv_iload_n hx hb dJ15_checkIndex_7cf53_0 rfl (lv_at hl 0 rfl) ?_
  refine lv_iload_n hx hb dJ15_checkIndex_7cf53_1 rfl (lv_at hl 1 rfl) ?_
  refine j_null hx hb dJ15_checkIndex_7cf53_2 ?_
  refine j_goz hI (va_runS (As := [.int x0, .int x1, va_rf none]) (rest := []) ⟨hx, hb, hml, hown, hts⟩ (kJ3_checkIndex_8e157 l hfl D z x0 x1 none μ H.size _) (va_cwS 3 hts gJ15_checkIndex_7cf53_J3_checkIndex_8e157 rfl rfl rfl (by decide +kernel) ⟨Nat.le_of_ble_eq_true rfl, Nat.le_of_ble_eq_true rfl⟩) (j_prS2z hK hG hI hw) rfl rfl hl.1 rfl (lv_room (Nat.le_of_ble_eq_true rfl)) dJ15_checkIndex_7cf53_3 ⟨by show _ ≤ 0; omega, by show _ ≤ 0; omega⟩) (fun v1 μ2 H locs hw hI => ?_)
  refine W.eq (g2 := F0 m 6 ls [.int v1]) rfl ?_
  exact j_iretz hx hb hr hlocks hI hw (by omega) (by omega) dJ15_checkIndex_7cf53_6
set_option maxHeartbeats 4000000 in
set_option maxRecDepth 100000 in
theorem kJ15_checkIndex_7cf53 (l : Launch) (hfl : l.stackTraces = false) (D : jD) (z : Nat × Nat) (x0 : Int32) (x1 : Int32) (μ : jM) (sz : Nat) (Q : Int32 → jM → Prop) : Met l yJ15_checkIndex_7cf53 wsJ15_checkIndex_7cf53 rmJ15_checkIndex_7cf53 (jPre2z D z μ sz [.int x0, .int x1] (wJ15_checkIndex_7cf53 z x0 x1 μ Q)) (jRz jfI Q D z (jA z μ sz)) 0 0 (jA z μ sz) := by
  refine Met.ofW (cc := cJ15_checkIndex_7cf53) (maxL := 2) (ret := (some .int)) (by decide) rfl ?_
  intro p e s m args below meth c s₁ B hml hv
  obtain ⟨rfl, hsz, hH, hz0, hK, hG, hw⟩ := hv
  subst hsz
  have hX : jX2 D z (jA z μ s.heap.size) p l s m _ meth c yJ15_checkIndex_7cf53 cJ15_checkIndex_7cf53 2 wsJ15_checkIndex_7cf53 (some .int) := ⟨B.exec, B.bytes, hml, findClass_of_methodNamed B.named, atoms_spec (ws := wsJ15_checkIndex_7cf53) B.pre, B.returns, B.notSynchronized, (name_of_methodNamed B.named B.method).1, hK, hG, hfl⟩
  obtain ⟨ls, hg, hl⟩ : ∃ ls : Array Slot, entryFrame m ([.int x0, .int x1] : List Value).toArray 2 = F0 m 0 ls [] ∧ lv_has ls 2 [(0, .int x0), (1, .int x1)] := by
    exact ⟨_, lg_entry_eq .., lv_entry _ (n := 2) (Nat.le_of_ble_eq_true rfl)⟩
  rw [hg]
  exact kJ15_checkIndex_7cf53_0 hX hw (jIz.start hH hz0) (lv_sub hl [0, 1] rfl) (by decide) (by decide)
set_option maxHeartbeats 4000000 in
set_option maxRecDepth 100000 in
theorem kJx4a65c_elementData_915e3_0 {b : Nat} (hX : jX2 D z A p l s m args meth c yJx4a65c_elementData_915e3 cJx4a65c_elementData_915e3 2 wsJx4a65c_elementData_915e3 (some (.object "java/lang/Object"))) {Q : Option Nat → jM → Prop}  {x1 : Int32} {μ : jM} {H : Heap} {locs : List Loc} {ls : Array Slot} {cells slots : Nat} (hw : wJx4a65c_elementData_915e3_0 z b Q x1 μ) (hI : jIz D z A s.heap μ H locs) (hl : lv_has ls 2 [(0, va_rf (some b)), (1, .int x1)]) (hcn : cells + 0 ≤ 0) (hsn : slots + 0 ≤ 0) : W p l e rmJx4a65c_elementData_915e3 s m args below meth c H locs cells slots (MQ below (jRz jfR Q D z A) args s 0 0 A) (F0 m 0 ls []) := by
  unfold wJx4a65c_elementData_915e3_0 at hw
  obtain ⟨hx, hb, hml, hown, hts, hr, hlocks, hnm, hK, hG, hfl⟩ := id hX
  have hown : s.vm.findClass RJx4a65c = some m.cls := hown
  have hfJx4a65c : ∀ w ∈ wsJx4a65c0, w.before args s = true := fun w h => hts w (List.mem_cons_of_mem _ (List.mem_append_right _ h))
  refine j_aload_n (r := (some b)) hx hb dJx4a65c_elementData_915e3_0 rfl (lv_at hl 0 rfl) ?_
  obtain ⟨v1, hv1, hw⟩ := hw
  refine j_getz (C := RJx4a65c) (T := TJx4a65c) (N := 3) (ci := 2) (r := (some b)) (v := va_rf v1) hx hb hfJx4a65c hown hK hI rfl 1 (by decide) (hts (.fieldLink RJx4a65c 9 "java/util/ArrayList" "elementData" "[Ljava/lang/Object;") (List.mem_of_getElem? (i := 1) (by decide +kernel))) (fun _ h => h) hv1 dJx4a65c_elementData_915e3_1 ?_
  refine lv_iload_n hx hb dJx4a65c_elementData_915e3_4 rfl (lv_at hl 1 rfl) ?_
  obtain ⟨v2, hv2, hw⟩ := hw
  refine j_aaldz (r := v1) hx hb hK hI hv2 dJx4a65c_elementData_915e3_5 ?_
  exact j_aretz (v := v2) hx hb hr (Or.inl ⟨_, rfl⟩) hlocks hI hw (by omega) (by omega) dJx4a65c_elementData_915e3_6
set_option maxHeartbeats 4000000 in
set_option maxRecDepth 100000 in
theorem kJx4a65c_elementData_915e3 (l : Launch) (hfl : l.stackTraces = false) (D : jD) (z : Nat × Nat) (b : Nat) (x1 : Int32) (μ : jM) (sz : Nat) (Q : Option Nat → jM → Prop) : Met l yJx4a65c_elementData_915e3 wsJx4a65c_elementData_915e3 rmJx4a65c_elementData_915e3 (jPre2z D z μ sz [.ref b, .int x1] (wJx4a65c_elementData_915e3 z b x1 μ Q)) (jRz jfR Q D z (jA z μ sz)) 0 0 (jA z μ sz) := by
  refine Met.ofW (cc := cJx4a65c_elementData_915e3) (maxL := 2) (ret := (some (.object "java/lang/Object"))) (by decide) rfl ?_
  intro p e s m args below meth c s₁ B hml hv
  obtain ⟨rfl, hsz, hH, hz0, hK, hG, hw⟩ := hv
  subst hsz
  have hX : jX2 D z (jA z μ s.heap.size) p l s m _ meth c yJx4a65c_elementData_915e3 cJx4a65c_elementData_915e3 2 wsJx4a65c_elementData_915e3 (some (.object "java/lang/Object")) := ⟨B.exec, B.bytes, hml, findClass_of_methodNamed B.named, atoms_spec (ws := wsJx4a65c_elementData_915e3) B.pre, B.returns, B.notSynchronized, (name_of_methodNamed B.named B.method).1, hK, hG, hfl⟩
  obtain ⟨ls, hg, hl⟩ : ∃ ls : Array Slot, entryFrame m ([.ref b, .int x1] : List Value).toArray 2 = F0 m 0 ls [] ∧ lv_has ls 2 [(0, va_rf (some b)), (1, .int x1)] := by
    exact ⟨_, lg_entry_eq .., lv_entry _ (n := 2) (Nat.le_of_ble_eq_true rfl)⟩
  rw [hg]
  exact kJx4a65c_elementData_915e3_0 hX hw (jIz.start hH hz0) (lv_sub hl [0, 1] rfl) (by decide) (by decide)
set_option maxHeartbeats 4000000 in
set_option maxRecDepth 100000 in
theorem kJx4a65c_get_915e3_0 {b : Nat} (hX : jX2 D z A p l s m args meth c yJx4a65c_get_915e3 cJx4a65c_get_915e3 2 wsJx4a65c_get_915e3 (some (.object "java/lang/Object"))) {Q : Option Nat → jM → Prop}  {x1 : Int32} {μ : jM} {H : Heap} {locs : List Loc} {ls : Array Slot} {cells slots : Nat} (hw : wJx4a65c_get_915e3_0 z b Q x1 μ) (hI : jIz D z A s.heap μ H locs) (hl : lv_has ls 2 [(0, va_rf (some b)), (1, .int x1)]) (hcn : cells + 0 ≤ 0) (hsn : slots + 0 ≤ 0) : W p l e rmJx4a65c_get_915e3 s m args below meth c H locs cells slots (MQ below (jRz jfR Q D z A) args s 0 0 A) (F0 m 0 ls []) := by
  unfold wJx4a65c_get_915e3_0 at hw
  obtain ⟨hx, hb, hml, hown, hts, hr, hlocks, hnm, hK, hG, hfl⟩ := id hX
  have hown : s.vm.findClass RJx4a65c = some m.cls := hown
  have hfJx4a65c : ∀ w ∈ wsJx4a65c0, w.before args s = true := fun w h => hts w (List.mem_cons_of_mem _ (List.mem_append_right _ h))
  refine lv_iload_n hx hb dJx4a65c_get_915e3_0 rfl (lv_at hl 1 rfl) ?_
  refine j_aload_n (r := (some b)) hx hb dJx4a65c_get_915e3_1 rfl (lv_at hl 0 rfl) ?_
  obtain ⟨v1, hv1, hw⟩ := hw
  refine j_getz (C := RJx4a65c) (T := TJx4a65c) (N := 3) (ci := 2) (r := (some b)) (v := .int v1) hx hb hfJx4a65c hown hK hI rfl 2 (by decide) (hts (.fieldLink RJx4a65c 48 "java/util/ArrayList" "size" "I") (List.mem_of_getElem? (i := 1) (by decide +kernel))) (fun _ h => h) hv1 dJx4a65c_get_915e3_2 ?_
  refine j_goz hI (va_runS (As := [.int x1, .int v1]) (rest := []) ⟨hx, hb, hml, hown, hts⟩ (kJ15_checkIndex_7cf53 l hfl D z x1 v1 μ H.size _) (va_cwS 2 hts gJx4a65c_get_915e3_J15_checkIndex_7cf53 rfl rfl rfl (by decide +kernel) ⟨Nat.le_of_ble_eq_true rfl, Nat.le_of_ble_eq_true rfl⟩) (j_prS2z hK hG hI hw) rfl rfl hl.1 rfl (lv_room (Nat.le_of_ble_eq_true rfl)) dJx4a65c_get_915e3_5 ⟨by show _ ≤ 0; omega, by show _ ≤ 0; omega⟩) (fun v2 μ3 H locs hw hI => ?_)
  refine W.eq (g2 := F0 m 8 ls [.int v2]) rfl ?_
  refine lv_pop hx hb dJx4a65c_get_915e3_8 rfl ?_
  refine j_aload_n (r := (some b)) hx hb dJx4a65c_get_915e3_9 rfl (lv_at hl 0 rfl) ?_
  refine lv_iload_n hx hb dJx4a65c_get_915e3_10 rfl (lv_at hl 1 rfl) ?_
  obtain ⟨hfs, hw⟩ := hw
  refine j_goz hI (va_runV (As := [.int x1]) (rest := []) ⟨hx, hb, hml, hown, hts⟩ (kJx4a65c_elementData_915e3 l hfl D z b x1 μ3 H.size _) (cwV 1 hts gJx4a65c_get_915e3_Jx4a65c_elementData_915e3 rfl rfl rfl (by decide +kernel) ⟨Nat.le_of_ble_eq_true rfl, Nat.le_of_ble_eq_true rfl⟩) (j_prV2z hK hG hI hw (ci := 2) rfl hfs) rfl rfl hl.1 rfl (lv_room (Nat.le_of_ble_eq_true rfl)) dJx4a65c_get_915e3_11 ⟨by show _ ≤ 0; omega, by show _ ≤ 0; omega⟩) (fun v4 μ5 H locs hw hI => ?_)
  refine W.eq (g2 := F0 m 14 ls [va_rf v4]) rfl ?_
  exact j_aretz (v := v4) hx hb hr (Or.inl ⟨_, rfl⟩) hlocks hI hw (by omega) (by omega) dJx4a65c_get_915e3_14
set_option maxHeartbeats 4000000 in
set_option maxRecDepth 100000 in
theorem kJx4a65c_get_915e3 (l : Launch) (hfl : l.stackTraces = false) (D : jD) (z : Nat × Nat) (b : Nat) (x1 : Int32) (μ : jM) (sz : Nat) (Q : Option Nat → jM → Prop) : Met l yJx4a65c_get_915e3 wsJx4a65c_get_915e3 rmJx4a65c_get_915e3 (jPre2z D z μ sz [.ref b, .int x1] (wJx4a65c_get_915e3 z b x1 μ Q)) (jRz jfR Q D z (jA z μ sz)) 0 0 (jA z μ sz) := by
  refine Met.ofW (cc := cJx4a65c_get_915e3) (maxL := 2) (ret := (some (.object "java/lang/Object"))) (by decide) rfl ?_
  intro p e s m args below meth c s₁ B hml hv
  obtain ⟨rfl, hsz, hH, hz0, hK, hG, hw⟩ := hv
  subst hsz
  have hX : jX2 D z (jA z μ s.heap.size) p l s m _ meth c yJx4a65c_get_915e3 cJx4a65c_get_915e3 2 wsJx4a65c_get_915e3 (some (.object "java/lang/Object")) := ⟨B.exec, B.bytes, hml, findClass_of_methodNamed B.named, atoms_spec (ws := wsJx4a65c_get_915e3) B.pre, B.returns, B.notSynchronized, (name_of_methodNamed B.named B.method).1, hK, hG, hfl⟩
  obtain ⟨ls, hg, hl⟩ : ∃ ls : Array Slot, entryFrame m ([.ref b, .int x1] : List Value).toArray 2 = F0 m 0 ls [] ∧ lv_has ls 2 [(0, va_rf (some b)), (1, .int x1)] := by
    exact ⟨_, lg_entry_eq .., lv_entry _ (n := 2) (Nat.le_of_ble_eq_true rfl)⟩
  rw [hg]
  exact kJx4a65c_get_915e3_0 hX hw (jIz.start hH hz0) (lv_sub hl [0, 1] rfl) (by decide) (by decide)
set_option maxHeartbeats 4000000 in
set_option maxRecDepth 100000 in
theorem kX9_bankAt_0 {b : Nat} (hX : jX2 D z A p l s m args meth c yX9_bankAt cX9_bankAt 2 wsX9_bankAt (some (.object "CashPools$Bank"))) (hno : ∀ x ∈ c.exceptionTable.toList, False) {Q : Option Nat → jM → Prop} {X : String → jM → Prop}  {x1 : Int32} {μ : jM} {H : Heap} {locs : List Loc} {ls : Array Slot} {cells slots : Nat} (hw : wX9_bankAt_0 z b Q X x1 μ) (hI : jIz D z A s.heap μ H locs) (hl : lv_has ls 2 [(0, va_rf (some b)), (1, .int x1)]) (hcn : cells + 1 ≤ 1) (hsn : slots + 6 ≤ 6) : W p l e rmX9_bankAt s m args below meth c H locs cells slots (vx_MQ below (jRz jfR Q D z A) (jXCz X D z A) args s 1 6 A) (F0 m 0 ls []) := by
  unfold wX9_bankAt_0 at hw
  obtain ⟨hx, hb, hml, hown, hts, hr, hlocks, hnm, hK, hG, hfl⟩ := id hX
  have hown : s.vm.findClass RX9 = some m.cls := hown
  have hfX3 : ∀ w ∈ wsX30, w.before args s = true := fun w h => hts w (List.mem_cons_of_mem _ (List.mem_append_left _ (List.mem_append_left _ (List.mem_append_right _ h))))
  have hfX9 : ∀ w ∈ wsX90, w.before args s = true := fun w h => hts w (List.mem_cons_of_mem _ (List.mem_append_left _ (List.mem_append_left _ (List.mem_append_left _ (List.mem_append_right _ h)))))
  refine lv_iload_n hx hb dX9_bankAt_0 rfl (lv_at hl 1 rfl) ?_
  refine lv_if_lt (tgt := 18) hx hb dX9_bankAt_1 (by decide) (fun hc => ?_) (fun hc => ?_)
  · have hw := hw.1 hc
    exact j_throw2z (names := ["java/lang/RuntimeException", "java/lang/Exception"]) (cls := "java/lang/IllegalArgumentException") (text := "there is no such bank") (ik := 212) (is := 239) (ic := 216) hx hb hno hfl hml hl.1 hown (by decide +kernel) (by decide +kernel) (hts (.classLink RX9 212 "java/lang/IllegalArgumentException") (List.mem_of_getElem? (i := 1) (by decide +kernel))) (hts (.initialized "java/lang/IllegalArgumentException") (List.mem_of_getElem? (i := 2) (by decide +kernel))) hG (by decide +kernel) (fun w h => hts w (List.mem_cons_of_mem _ (List.mem_append_right _ h))) (by decide +kernel) (by decide +kernel) (by decide +kernel) dX9_bankAt_18 dX9_bankAt_21 dX9_bankAt_22 dX9_bankAt_24 dX9_bankAt_27 (Nat.le_of_ble_eq_true rfl) (Nat.le_of_ble_eq_true rfl) (by show _ ≤ 1; omega) (by show _ ≤ 6; omega) hlocks hI hw (by omega) (by omega)
  · have hw := hw.2 hc
    refine lv_iload_n hx hb dX9_bankAt_4 rfl (lv_at hl 1 rfl) ?_
    refine j_aload_n (r := (some b)) hx hb dX9_bankAt_5 rfl (lv_at hl 0 rfl) ?_
    obtain ⟨v1, hv1, hw⟩ := hw
    refine j_getz (C := RX9) (T := TX9) (N := 1) (ci := 11) (r := (some b)) (v := va_rf v1) hx hb hfX9 hown hK hI rfl 0 (by decide) (hts (.fieldLink RX9 10 "CashPools" "desk" "LCashPools$Desk;") (List.mem_of_getElem? (i := 3) (by decide +kernel))) (fun _ h => h) hv1 dX9_bankAt_6 ?_
    obtain ⟨v2, hv2, hw⟩ := hw
    refine j_getz (C := RX3) (T := TX3) (N := 8) (ci := 6) (r := v1) (v := va_rf v2) hx hb hfX3 hown hK hI rfl 4 (by decide) (hts (.fieldLink RX9 236 "CashPools$Desk" "banks" "Ljava/util/ArrayList;") (List.mem_of_getElem? (i := 4) (by decide +kernel))) (fun _ h => h) hv2 dX9_bankAt_9 ?_
    obtain ⟨b5, ⟨hrb5, hfs⟩, hw⟩ := hw
    refine j_goz hI (va_runV (As := []) (rest := [.int x1]) ⟨hx, hb, hml, hown, hts⟩ (kJx4a65c_size_8abf5 l hfl D z b5  μ H.size _) (cwV 0 hts gX9_bankAt_Jx4a65c_size_8abf5 rfl rfl rfl (by decide +kernel) ⟨Nat.le_of_ble_eq_true rfl, Nat.le_of_ble_eq_true rfl⟩) (j_prV2z hK hG hI hw (ci := 2) rfl hfs) rfl rfl hl.1 (by rw [hrb5]; rfl) (lv_room (Nat.le_of_ble_eq_true rfl)) dX9_bankAt_12 ⟨by show _ ≤ 1; omega, by show _ ≤ 6; omega⟩) (fun v3 μ4 H locs hw hI => ?_)
    refine W.eq (g2 := F0 m 15 ls [.int v3, .int x1]) rfl ?_
    refine lv_icmp_lt (tgt := 28) hx hb dX9_bankAt_15 (by decide) (fun hc => ?_) (fun hc => ?_)
    · have hw := hw.1 hc
      refine j_aload_n (r := (some b)) hx hb dX9_bankAt_28 rfl (lv_at hl 0 rfl) ?_
      obtain ⟨v6, hv6, hw⟩ := hw
      refine j_getz (C := RX9) (T := TX9) (N := 1) (ci := 11) (r := (some b)) (v := va_rf v6) hx hb hfX9 hown hK hI rfl 0 (by decide) (hts (.fieldLink RX9 10 "CashPools" "desk" "LCashPools$Desk;") (List.mem_of_getElem? (i := 3) (by decide +kernel))) (fun _ h => h) hv6 dX9_bankAt_29 ?_
      obtain ⟨v7, hv7, hw⟩ := hw
      refine j_getz (C := RX3) (T := TX3) (N := 8) (ci := 6) (r := v6) (v := va_rf v7) hx hb hfX3 hown hK hI rfl 4 (by decide) (hts (.fieldLink RX9 236 "CashPools$Desk" "banks" "Ljava/util/ArrayList;") (List.mem_of_getElem? (i := 4) (by decide +kernel))) (fun _ h => h) hv7 dX9_bankAt_32 ?_
      refine lv_iload_n hx hb dX9_bankAt_35 rfl (lv_at hl 1 rfl) ?_
      obtain ⟨b10, ⟨hrb10, hfs⟩, hw⟩ := hw
      refine j_goz hI (va_runV (As := [.int x1]) (rest := []) ⟨hx, hb, hml, hown, hts⟩ (kJx4a65c_get_915e3 l hfl D z b10 x1 μ4 H.size _) (cwV 1 hts gX9_bankAt_Jx4a65c_get_915e3 rfl rfl rfl (by decide +kernel) ⟨Nat.le_of_ble_eq_true rfl, Nat.le_of_ble_eq_true rfl⟩) (j_prV2z hK hG hI hw (ci := 2) rfl hfs) rfl rfl hl.1 (by rw [hrb10]; rfl) (lv_room (Nat.le_of_ble_eq_true rfl)) dX9_bankAt_36 ⟨by show _ ≤ 1; omega, by show _ ≤ 6; omega⟩) (fun v8 μ9 H locs hw hI => ?_)
      refine W.eq (g2 := F0 m 39 ls [va_rf v8]) rfl ?_
      obtain ⟨h11, hw⟩ := hw
      refine j_castz (C := RX1) (T := TX1) (N := 3) (ci := 4) (r := v8) hx hb hown (hts (.classLink RX9 87 "CashPools$Bank") (List.mem_of_getElem? (i := 5) (by decide +kernel))) hK hI rfl h11 dX9_bankAt_39 ?_
      exact vx_ret (j_aretz (v := v8) hx hb hr (Or.inl ⟨_, rfl⟩) hlocks hI hw (by omega) (by omega) dX9_bankAt_42)
    · have hw := hw.2 hc
      exact j_throw2z (names := ["java/lang/RuntimeException", "java/lang/Exception"]) (cls := "java/lang/IllegalArgumentException") (text := "there is no such bank") (ik := 212) (is := 239) (ic := 216) hx hb hno hfl hml hl.1 hown (by decide +kernel) (by decide +kernel) (hts (.classLink RX9 212 "java/lang/IllegalArgumentException") (List.mem_of_getElem? (i := 1) (by decide +kernel))) (hts (.initialized "java/lang/IllegalArgumentException") (List.mem_of_getElem? (i := 2) (by decide +kernel))) hG (by decide +kernel) (fun w h => hts w (List.mem_cons_of_mem _ (List.mem_append_right _ h))) (by decide +kernel) (by decide +kernel) (by decide +kernel) dX9_bankAt_18 dX9_bankAt_21 dX9_bankAt_22 dX9_bankAt_24 dX9_bankAt_27 (Nat.le_of_ble_eq_true rfl) (Nat.le_of_ble_eq_true rfl) (by show _ ≤ 1; omega) (by show _ ≤ 6; omega) hlocks hI hw (by omega) (by omega)
set_option maxHeartbeats 4000000 in
set_option maxRecDepth 100000 in
theorem kX9_bankAt (l : Launch) (hfl : l.stackTraces = false) (D : jD) (z : Nat × Nat) (b : Nat) (x1 : Int32) (μ : jM) (sz : Nat) (Q : Option Nat → jM → Prop) (X : String → jM → Prop) : vx_Met l yX9_bankAt wsX9_bankAt rmX9_bankAt (jPre2z D z μ sz [.ref b, .int x1] (wX9_bankAt z b x1 μ Q X)) (jRz jfR Q D z (jA z μ sz)) (jXCz X D z (jA z μ sz)) 1 6 (jA z μ sz) := by
  refine vx_ofW (cc := cX9_bankAt) (maxL := 2) (ret := (some (.object "CashPools$Bank"))) (by decide) rfl ?_
  intro p e s m args below meth c s₁ B hml hno hv
  obtain ⟨rfl, hsz, hH, hz0, hK, hG, hw⟩ := hv
  subst hsz
  have hX : jX2 D z (jA z μ s.heap.size) p l s m _ meth c yX9_bankAt cX9_bankAt 2 wsX9_bankAt (some (.object "CashPools$Bank")) := ⟨B.exec, B.bytes, hml, findClass_of_methodNamed B.named, atoms_spec (ws := wsX9_bankAt) B.pre, B.returns, B.notSynchronized, (name_of_methodNamed B.named B.method).1, hK, hG, hfl⟩
  obtain ⟨ls, hg, hl⟩ : ∃ ls : Array Slot, entryFrame m ([.ref b, .int x1] : List Value).toArray 2 = F0 m 0 ls [] ∧ lv_has ls 2 [(0, va_rf (some b)), (1, .int x1)] := by
    exact ⟨_, lg_entry_eq .., lv_entry _ (n := 2) (Nat.le_of_ble_eq_true rfl)⟩
  rw [hg]
  exact kX9_bankAt_0 hX hno hw (jIz.start hH hz0) (lv_sub hl [0, 1] rfl) (by decide) (by decide)
set_option maxHeartbeats 4000000 in
set_option maxRecDepth 100000 in
theorem kX9_requireWithin_0 (hX : jX2 D z A p l s m args meth c yX9_requireWithin cX9_requireWithin 3 wsX9_requireWithin none) (hno : ∀ x ∈ c.exceptionTable.toList, False) {Q : Unit → jM → Prop} {X : String → jM → Prop}  {x0 : Int32} {x1 : Int32} {x2 : Int32} {μ : jM} {H : Heap} {locs : List Loc} {ls : Array Slot} {cells slots : Nat} (hw : wX9_requireWithin_0 z Q X x0 x1 x2 μ) (hI : jIz D z A s.heap μ H locs) (hl : lv_has ls 3 [(0, .int x0), (1, .int x1), (2, .int x2)]) (hcn : cells + 1 ≤ 1) (hsn : slots + 6 ≤ 6) : W p l e rmX9_requireWithin s m args below meth c H locs cells slots (vx_MQ below (jRz jfV Q D z A) (jXCz X D z A) args s 1 6 A) (F0 m 0 ls []) := by
  unfold wX9_requireWithin_0 at hw
  obtain ⟨hx, hb, hml, hown, hts, hr, hlocks, hnm, hK, hG, hfl⟩ := id hX
  have hown : s.vm.findClass RX9 = some m.cls := hown
  refine lv_iload_n hx hb dX9_requireWithin_0 rfl (lv_at hl 0 rfl) ?_
  refine lv_iload_n hx hb dX9_requireWithin_1 rfl (lv_at hl 1 rfl) ?_
  refine lv_icmp_lt (tgt := 10) hx hb dX9_requireWithin_2 (by decide) (fun hc => ?_) (fun hc => ?_)
  · have hw := hw.1 hc
    exact j_throw2z (names := ["java/lang/RuntimeException", "java/lang/Exception"]) (cls := "java/lang/IllegalArgumentException") (text := "an argument is out of range") (ik := 212) (is := 214) (ic := 216) hx hb hno hfl hml hl.1 hown (by decide +kernel) (by decide +kernel) (hts (.classLink RX9 212 "java/lang/IllegalArgumentException") (List.mem_of_getElem? (i := 1) (by decide +kernel))) (hts (.initialized "java/lang/IllegalArgumentException") (List.mem_of_getElem? (i := 2) (by decide +kernel))) hG (by decide +kernel) (fun w h => hts w (List.mem_cons_of_mem _ (List.mem_append_right _ h))) (by decide +kernel) (by decide +kernel) (by decide +kernel) dX9_requireWithin_10 dX9_requireWithin_13 dX9_requireWithin_14 dX9_requireWithin_16 dX9_requireWithin_19 (Nat.le_of_ble_eq_true rfl) (Nat.le_of_ble_eq_true rfl) (by show _ ≤ 1; omega) (by show _ ≤ 6; omega) hlocks hI hw (by omega) (by omega)
  · have hw := hw.2 hc
    refine lv_iload_n hx hb dX9_requireWithin_5 rfl (lv_at hl 0 rfl) ?_
    refine lv_iload_n hx hb dX9_requireWithin_6 rfl (lv_at hl 2 rfl) ?_
    refine lv_icmp_le (tgt := 20) hx hb dX9_requireWithin_7 (by decide) (fun hc => ?_) (fun hc => ?_)
    · have hw := hw.1 hc
      exact vx_ret (j_vretz hx hb hr hlocks hI hw (by omega) (by omega) dX9_requireWithin_20)
    · have hw := hw.2 hc
      exact j_throw2z (names := ["java/lang/RuntimeException", "java/lang/Exception"]) (cls := "java/lang/IllegalArgumentException") (text := "an argument is out of range") (ik := 212) (is := 214) (ic := 216) hx hb hno hfl hml hl.1 hown (by decide +kernel) (by decide +kernel) (hts (.classLink RX9 212 "java/lang/IllegalArgumentException") (List.mem_of_getElem? (i := 1) (by decide +kernel))) (hts (.initialized "java/lang/IllegalArgumentException") (List.mem_of_getElem? (i := 2) (by decide +kernel))) hG (by decide +kernel) (fun w h => hts w (List.mem_cons_of_mem _ (List.mem_append_right _ h))) (by decide +kernel) (by decide +kernel) (by decide +kernel) dX9_requireWithin_10 dX9_requireWithin_13 dX9_requireWithin_14 dX9_requireWithin_16 dX9_requireWithin_19 (Nat.le_of_ble_eq_true rfl) (Nat.le_of_ble_eq_true rfl) (by show _ ≤ 1; omega) (by show _ ≤ 6; omega) hlocks hI hw (by omega) (by omega)
set_option maxHeartbeats 4000000 in
set_option maxRecDepth 100000 in
theorem kX9_requireWithin (l : Launch) (hfl : l.stackTraces = false) (D : jD) (z : Nat × Nat) (x0 : Int32) (x1 : Int32) (x2 : Int32) (μ : jM) (sz : Nat) (Q : Unit → jM → Prop) (X : String → jM → Prop) : vx_Met l yX9_requireWithin wsX9_requireWithin rmX9_requireWithin (jPre2z D z μ sz [.int x0, .int x1, .int x2] (wX9_requireWithin z x0 x1 x2 μ Q X)) (jRz jfV Q D z (jA z μ sz)) (jXCz X D z (jA z μ sz)) 1 6 (jA z μ sz) := by
  refine vx_ofW (cc := cX9_requireWithin) (maxL := 3) (ret := none) (by decide) rfl ?_
  intro p e s m args below meth c s₁ B hml hno hv
  obtain ⟨rfl, hsz, hH, hz0, hK, hG, hw⟩ := hv
  subst hsz
  have hX : jX2 D z (jA z μ s.heap.size) p l s m _ meth c yX9_requireWithin cX9_requireWithin 3 wsX9_requireWithin none := ⟨B.exec, B.bytes, hml, findClass_of_methodNamed B.named, atoms_spec (ws := wsX9_requireWithin) B.pre, B.returns, B.notSynchronized, (name_of_methodNamed B.named B.method).1, hK, hG, hfl⟩
  obtain ⟨ls, hg, hl⟩ : ∃ ls : Array Slot, entryFrame m ([.int x0, .int x1, .int x2] : List Value).toArray 3 = F0 m 0 ls [] ∧ lv_has ls 3 [(0, .int x0), (1, .int x1), (2, .int x2)] := by
    exact ⟨_, lg_entry_eq .., lv_entry _ (n := 3) (Nat.le_of_ble_eq_true rfl)⟩
  rw [hg]
  exact kX9_requireWithin_0 hX hno hw (jIz.start hH hz0) (lv_sub hl [0, 1, 2] rfl) (by decide) (by decide)
set_option maxHeartbeats 4000000 in
set_option maxRecDepth 100000 in
theorem kX9_requireAccountLeft_0 {b : Nat} (hX : jX2 D z A p l s m args meth c yX9_requireAccountLeft cX9_requireAccountLeft 1 wsX9_requireAccountLeft none) (hno : ∀ x ∈ c.exceptionTable.toList, False) {Q : Unit → jM → Prop} {X : String → jM → Prop}   {μ : jM} {H : Heap} {locs : List Loc} {ls : Array Slot} {cells slots : Nat} (hw : wX9_requireAccountLeft_0 z b Q X  μ) (hI : jIz D z A s.heap μ H locs) (hl : lv_has ls 1 [(0, va_rf (some b))]) (hcn : cells + 1 ≤ 1) (hsn : slots + 6 ≤ 6) : W p l e rmX9_requireAccountLeft s m args below meth c H locs cells slots (vx_MQ below (jRz jfV Q D z A) (jXCz X D z A) args s 1 6 A) (F0 m 0 ls []) := by
  unfold wX9_requireAccountLeft_0 at hw
  obtain ⟨hx, hb, hml, hown, hts, hr, hlocks, hnm, hK, hG, hfl⟩ := id hX
  have hown : s.vm.findClass RX9 = some m.cls := hown
  have hfX3 : ∀ w ∈ wsX30, w.before args s = true := fun w h => hts w (List.mem_cons_of_mem _ (List.mem_append_left _ (List.mem_append_left _ (List.mem_append_right _ h))))
  have hfX9 : ∀ w ∈ wsX90, w.before args s = true := fun w h => hts w (List.mem_cons_of_mem _ (List.mem_append_left _ (List.mem_append_left _ (List.mem_append_left _ (List.mem_append_right _ h)))))
  refine j_aload_n (r := (some b)) hx hb dX9_requireAccountLeft_0 rfl (lv_at hl 0 rfl) ?_
  obtain ⟨v1, hv1, hw⟩ := hw
  refine j_getz (C := RX9) (T := TX9) (N := 1) (ci := 11) (r := (some b)) (v := va_rf v1) hx hb hfX9 hown hK hI rfl 0 (by decide) (hts (.fieldLink RX9 10 "CashPools" "desk" "LCashPools$Desk;") (List.mem_of_getElem? (i := 3) (by decide +kernel))) (fun _ h => h) hv1 dX9_requireAccountLeft_1 ?_
  obtain ⟨v2, hv2, hw⟩ := hw
  refine j_getz (C := RX3) (T := TX3) (N := 8) (ci := 6) (r := v1) (v := va_rf v2) hx hb hfX3 hown hK hI rfl 0 (by decide) (hts (.fieldLink RX9 148 "CashPools$Desk" "everyAccount" "Ljava/util/ArrayList;") (List.mem_of_getElem? (i := 4) (by decide +kernel))) (fun _ h => h) hv2 dX9_requireAccountLeft_4 ?_
  obtain ⟨b5, ⟨hrb5, hfs⟩, hw⟩ := hw
  refine j_goz hI (va_runV (As := []) (rest := []) ⟨hx, hb, hml, hown, hts⟩ (kJx4a65c_size_8abf5 l hfl D z b5  μ H.size _) (cwV 0 hts gX9_requireAccountLeft_Jx4a65c_size_8abf5 rfl rfl rfl (by decide +kernel) ⟨Nat.le_of_ble_eq_true rfl, Nat.le_of_ble_eq_true rfl⟩) (j_prV2z hK hG hI hw (ci := 2) rfl hfs) rfl rfl hl.1 (by rw [hrb5]; rfl) (lv_room (Nat.le_of_ble_eq_true rfl)) dX9_requireAccountLeft_7 ⟨by show _ ≤ 1; omega, by show _ ≤ 6; omega⟩) (fun v3 μ4 H locs hw hI => ?_)
  refine W.eq (g2 := F0 m 10 ls [.int v3]) rfl ?_
  refine lv_bipush (v := (10)) hx hb dX9_requireAccountLeft_10 (by decide) ?_
  refine lv_icmp_lt (tgt := 25) hx hb dX9_requireAccountLeft_12 (by decide) (fun hc => ?_) (fun hc => ?_)
  · have hw := hw.1 hc
    exact vx_ret (j_vretz hx hb hr hlocks hI hw (by omega) (by omega) dX9_requireAccountLeft_25)
  · have hw := hw.2 hc
    exact j_throw2z (names := ["java/lang/RuntimeException", "java/lang/Exception"]) (cls := "java/lang/IllegalStateException") (text := "there is no account left") (ik := 47) (is := 221) (ic := 51) hx hb hno hfl hml hl.1 hown (by decide +kernel) (by decide +kernel) (hts (.classLink RX9 47 "java/lang/IllegalStateException") (List.mem_of_getElem? (i := 1) (by decide +kernel))) (hts (.initialized "java/lang/IllegalStateException") (List.mem_of_getElem? (i := 2) (by decide +kernel))) hG (by decide +kernel) (fun w h => hts w (List.mem_cons_of_mem _ (List.mem_append_right _ h))) (by decide +kernel) (by decide +kernel) (by decide +kernel) dX9_requireAccountLeft_15 dX9_requireAccountLeft_18 dX9_requireAccountLeft_19 dX9_requireAccountLeft_21 dX9_requireAccountLeft_24 (Nat.le_of_ble_eq_true rfl) (Nat.le_of_ble_eq_true rfl) (by show _ ≤ 1; omega) (by show _ ≤ 6; omega) hlocks hI hw (by omega) (by omega)
set_option maxHeartbeats 4000000 in
set_option maxRecDepth 100000 in
theorem kX9_requireAccountLeft (l : Launch) (hfl : l.stackTraces = false) (D : jD) (z : Nat × Nat) (b : Nat)  (μ : jM) (sz : Nat) (Q : Unit → jM → Prop) (X : String → jM → Prop) : vx_Met l yX9_requireAccountLeft wsX9_requireAccountLeft rmX9_requireAccountLeft (jPre2z D z μ sz [.ref b] (wX9_requireAccountLeft z b  μ Q X)) (jRz jfV Q D z (jA z μ sz)) (jXCz X D z (jA z μ sz)) 1 6 (jA z μ sz) := by
  refine vx_ofW (cc := cX9_requireAccountLeft) (maxL := 1) (ret := none) (by decide) rfl ?_
  intro p e s m args below meth c s₁ B hml hno hv
  obtain ⟨rfl, hsz, hH, hz0, hK, hG, hw⟩ := hv
  subst hsz
  have hX : jX2 D z (jA z μ s.heap.size) p l s m _ meth c yX9_requireAccountLeft cX9_requireAccountLeft 1 wsX9_requireAccountLeft none := ⟨B.exec, B.bytes, hml, findClass_of_methodNamed B.named, atoms_spec (ws := wsX9_requireAccountLeft) B.pre, B.returns, B.notSynchronized, (name_of_methodNamed B.named B.method).1, hK, hG, hfl⟩
  obtain ⟨ls, hg, hl⟩ : ∃ ls : Array Slot, entryFrame m ([.ref b] : List Value).toArray 1 = F0 m 0 ls [] ∧ lv_has ls 1 [(0, va_rf (some b))] := by
    exact ⟨_, lg_entry_eq .., lv_entry _ (n := 1) (Nat.le_of_ble_eq_true rfl)⟩
  rw [hg]
  exact kX9_requireAccountLeft_0 hX hno hw (jIz.start hH hz0) (lv_sub hl [0] rfl) (by decide) (by decide)
set_option maxHeartbeats 4000000 in
set_option maxRecDepth 100000 in
theorem kJxa1e45_init_da8c8_0 {b : Nat} (hX : jX2 D z A p l s m args meth c yJxa1e45_init_da8c8 cJxa1e45_init_da8c8 1 wsJxa1e45_init_da8c8 none) {Q : Unit → jM → Prop}   {μ : jM} {H : Heap} {locs : List Loc} {ls : Array Slot} {cells slots : Nat} (hw : wJxa1e45_init_da8c8_0 z b Q  μ) (hI : jIz D z A s.heap μ H locs) (hl : lv_has ls 1 [(0, va_rf (some b))]) (hcn : cells + 0 ≤ 0) (hsn : slots + 0 ≤ 0) : W p l e rmJxa1e45_init_da8c8 s m args below meth c H locs cells slots (MQ below (jRz jfV Q D z A) args s 0 0 A) (F0 m 0 ls []) := by
  unfold wJxa1e45_init_da8c8_0 at hw
  obtain ⟨hx, hb, hml, hown, hts, hr, hlocks, hnm, hK, hG, hfl⟩ := id hX
  have hown : s.vm.findClass RJxa1e45 = some m.cls := hown
  refine j_aload_n (r := (some b)) hx hb dJxa1e45_init_da8c8_0 rfl (lv_at hl 0 rfl) ?_
  refine W.objInit hx hb hown (hts (.methodLink RJxa1e45 1 objectInit) (List.mem_of_getElem? (i := 1) (by decide +kernel))) (hts (.instanceMethod objectInit) (List.mem_of_getElem? (i := 2) (by decide +kernel))) (hts (.code objectInit ⟨#[0xb1]⟩ 1 none) (List.mem_of_getElem? (i := 3) (by decide +kernel))) rfl (by rw [hml]; exact hl.1) rfl dJxa1e45_init_da8c8_1 (Nat.le_of_ble_eq_true rfl) (Nat.le_of_ble_eq_true rfl) ?_
  refine W.eq (g2 := F0 m 4 ls []) rfl ?_
  exact j_vretz hx hb hr hlocks hI hw (by omega) (by omega) dJxa1e45_init_da8c8_4
set_option maxHeartbeats 4000000 in
set_option maxRecDepth 100000 in
theorem kJxa1e45_init_da8c8 (l : Launch) (hfl : l.stackTraces = false) (D : jD) (z : Nat × Nat) (b : Nat)  (μ : jM) (sz : Nat) (Q : Unit → jM → Prop) : Met l yJxa1e45_init_da8c8 wsJxa1e45_init_da8c8 rmJxa1e45_init_da8c8 (jPre2z D z μ sz [.ref b] (wJxa1e45_init_da8c8 z b  μ Q)) (jRz jfV Q D z (jA z μ sz)) 0 0 (jA z μ sz) := by
  refine Met.ofW (cc := cJxa1e45_init_da8c8) (maxL := 1) (ret := none) (by decide) rfl ?_
  intro p e s m args below meth c s₁ B hml hv
  obtain ⟨rfl, hsz, hH, hz0, hK, hG, hw⟩ := hv
  subst hsz
  have hX : jX2 D z (jA z μ s.heap.size) p l s m _ meth c yJxa1e45_init_da8c8 cJxa1e45_init_da8c8 1 wsJxa1e45_init_da8c8 none := ⟨B.exec, B.bytes, hml, findClass_of_methodNamed B.named, atoms_spec (ws := wsJxa1e45_init_da8c8) B.pre, B.returns, B.notSynchronized, (name_of_methodNamed B.named B.method).1, hK, hG, hfl⟩
  obtain ⟨ls, hg, hl⟩ : ∃ ls : Array Slot, entryFrame m ([.ref b] : List Value).toArray 1 = F0 m 0 ls [] ∧ lv_has ls 1 [(0, va_rf (some b))] := by
    exact ⟨_, lg_entry_eq .., lv_entry _ (n := 1) (Nat.le_of_ble_eq_true rfl)⟩
  rw [hg]
  exact kJxa1e45_init_da8c8_0 hX hw (jIz.start hH hz0) (lv_sub hl [0] rfl) (by decide) (by decide)
set_option maxHeartbeats 4000000 in
set_option maxRecDepth 100000 in
theorem kJxc12de_init_da8c8_0 {b : Nat} (hX : jX2 D z A p l s m args meth c yJxc12de_init_da8c8 cJxc12de_init_da8c8 1 wsJxc12de_init_da8c8 none) {Q : Unit → jM → Prop}   {μ : jM} {H : Heap} {locs : List Loc} {ls : Array Slot} {cells slots : Nat} (hw : wJxc12de_init_da8c8_0 z b Q  μ) (hI : jIz D z A s.heap μ H locs) (hl : lv_has ls 1 [(0, va_rf (some b))]) (hcn : cells + 0 ≤ 0) (hsn : slots + 0 ≤ 0) : W p l e rmJxc12de_init_da8c8 s m args below meth c H locs cells slots (MQ below (jRz jfV Q D z A) args s 0 0 A) (F0 m 0 ls []) := by
  unfold wJxc12de_init_da8c8_0 at hw
  obtain ⟨hx, hb, hml, hown, hts, hr, hlocks, hnm, hK, hG, hfl⟩ := id hX
  have hown : s.vm.findClass RJxc12de = some m.cls := hown
  have hfJx4a65c : ∀ w ∈ wsJx4a65c0, w.before args s = true := fun w h => hts w (List.mem_cons_of_mem _ (List.mem_append_right _ h))
  refine j_aload_n (r := (some b)) hx hb dJxc12de_init_da8c8_0 rfl (lv_at hl 0 rfl) ?_
  refine j_goz hI (va_runI (As := []) (rest := []) ⟨hx, hb, hml, hown, hts⟩ (kJxa1e45_init_da8c8 l hfl D z b  μ H.size _) (cwI 0 hts gJxc12de_init_da8c8_Jxa1e45_init_da8c8 rfl rfl rfl (hts (.initialized RJxa1e45) (List.mem_of_getElem? (i := 4) (by decide +kernel))) (hts (.methodLink RJxc12de 1 yJxa1e45_init_da8c8) (List.mem_of_getElem? (i := 2) (by decide +kernel))) (hts (.instanceMethod yJxa1e45_init_da8c8) (List.mem_of_getElem? (i := 3) (by decide +kernel))) rfl (by decide +kernel) ⟨Nat.le_of_ble_eq_true rfl, Nat.le_of_ble_eq_true rfl⟩) (j_prS2z hK hG hI hw) rfl rfl hl.1 rfl (lv_room (Nat.le_of_ble_eq_true rfl)) dJxc12de_init_da8c8_1 ⟨by show _ ≤ 0; omega, by show _ ≤ 0; omega⟩) (fun u1 μ2 H locs hw hI => ?_)
  refine W.eq (g2 := F0 m 4 ls []) rfl ?_
  refine j_aload_n (r := (some b)) hx hb dJxc12de_init_da8c8_4 rfl (lv_at hl 0 rfl) ?_
  refine lv_iconst (v := (0)) hx hb dJxc12de_init_da8c8_5 (by decide) ?_
  obtain ⟨μ3, hμ3, hw⟩ := hw
  refine j_putz (C := RJx4a65c) (T := TJx4a65c) (N := 3) (ci := 2) (r := (some b)) (v := .int (0 : Int32)) hx hb hfJx4a65c tyJx4a65c tyJx4a65c_ok nmJx4a65c hown hK hI rfl 0 (by decide) (hts (.fieldLink RJxc12de 7 "java/util/AbstractList" "modCount" "I") (List.mem_of_getElem? (i := 1) (by decide +kernel))) (fun _ h => h) rfl (tyJx4a65c_ok 0 (by decide)) rfl rfl hμ3 dJxc12de_init_da8c8_6 (fun H locs hI => ?_)
  exact j_vretz hx hb hr hlocks hI hw (by omega) (by omega) dJxc12de_init_da8c8_9
set_option maxHeartbeats 4000000 in
set_option maxRecDepth 100000 in
theorem kJxc12de_init_da8c8 (l : Launch) (hfl : l.stackTraces = false) (D : jD) (z : Nat × Nat) (b : Nat)  (μ : jM) (sz : Nat) (Q : Unit → jM → Prop) : Met l yJxc12de_init_da8c8 wsJxc12de_init_da8c8 rmJxc12de_init_da8c8 (jPre2z D z μ sz [.ref b] (wJxc12de_init_da8c8 z b  μ Q)) (jRz jfV Q D z (jA z μ sz)) 0 0 (jA z μ sz) := by
  refine Met.ofW (cc := cJxc12de_init_da8c8) (maxL := 1) (ret := none) (by decide) rfl ?_
  intro p e s m args below meth c s₁ B hml hv
  obtain ⟨rfl, hsz, hH, hz0, hK, hG, hw⟩ := hv
  subst hsz
  have hX : jX2 D z (jA z μ s.heap.size) p l s m _ meth c yJxc12de_init_da8c8 cJxc12de_init_da8c8 1 wsJxc12de_init_da8c8 none := ⟨B.exec, B.bytes, hml, findClass_of_methodNamed B.named, atoms_spec (ws := wsJxc12de_init_da8c8) B.pre, B.returns, B.notSynchronized, (name_of_methodNamed B.named B.method).1, hK, hG, hfl⟩
  obtain ⟨ls, hg, hl⟩ : ∃ ls : Array Slot, entryFrame m ([.ref b] : List Value).toArray 1 = F0 m 0 ls [] ∧ lv_has ls 1 [(0, va_rf (some b))] := by
    exact ⟨_, lg_entry_eq .., lv_entry _ (n := 1) (Nat.le_of_ble_eq_true rfl)⟩
  rw [hg]
  exact kJxc12de_init_da8c8_0 hX hw (jIz.start hH hz0) (lv_sub hl [0] rfl) (by decide) (by decide)
set_option maxHeartbeats 4000000 in
set_option maxRecDepth 100000 in
theorem kJx4a65c_init_da8c8_0 {b : Nat} (hX : jX2 D z A p l s m args meth c yJx4a65c_init_da8c8 cJx4a65c_init_da8c8 1 wsJx4a65c_init_da8c8 none) {Q : Unit → jM → Prop}   {μ : jM} {H : Heap} {locs : List Loc} {ls : Array Slot} {cells slots : Nat} (hw : wJx4a65c_init_da8c8_0 z b Q  μ) (hI : jIz D z A s.heap μ H locs) (hl : lv_has ls 1 [(0, va_rf (some b))]) (hcn : cells + 0 ≤ 0) (hsn : slots + 0 ≤ 0) : W p l e rmJx4a65c_init_da8c8 s m args below meth c H locs cells slots (MQ below (jRz jfV Q D z A) args s 0 0 A) (F0 m 0 ls []) := by
  unfold wJx4a65c_init_da8c8_0 at hw
  obtain ⟨hx, hb, hml, hown, hts, hr, hlocks, hnm, hK, hG, hfl⟩ := id hX
  have hown : s.vm.findClass RJx4a65c = some m.cls := hown
  have hfJx4a65c : ∀ w ∈ wsJx4a65c0, w.before args s = true := fun w h => hts w (List.mem_cons_of_mem _ (List.mem_append_right _ h))
  refine j_aload_n (r := (some b)) hx hb dJx4a65c_init_da8c8_0 rfl (lv_at hl 0 rfl) ?_
  refine j_goz hI (va_runI (As := []) (rest := []) ⟨hx, hb, hml, hown, hts⟩ (kJxc12de_init_da8c8 l hfl D z b  μ H.size _) (cwI 0 hts gJx4a65c_init_da8c8_Jxc12de_init_da8c8 rfl rfl rfl (hts (.initialized RJxc12de) (List.mem_of_getElem? (i := 5) (by decide +kernel))) (hts (.methodLink RJx4a65c 1 yJxc12de_init_da8c8) (List.mem_of_getElem? (i := 3) (by decide +kernel))) (hts (.instanceMethod yJxc12de_init_da8c8) (List.mem_of_getElem? (i := 4) (by decide +kernel))) rfl (by decide +kernel) ⟨Nat.le_of_ble_eq_true rfl, Nat.le_of_ble_eq_true rfl⟩) (j_prS2z hK hG hI hw) rfl rfl hl.1 rfl (lv_room (Nat.le_of_ble_eq_true rfl)) dJx4a65c_init_da8c8_1 ⟨by show _ ≤ 0; omega, by show _ ≤ 0; omega⟩) (fun u1 μ2 H locs hw hI => ?_)
  refine W.eq (g2 := F0 m 4 ls []) rfl ?_
  refine j_aload_n (r := (some b)) hx hb dJx4a65c_init_da8c8_4 rfl (lv_at hl 0 rfl) ?_
  refine va_gets hx hb hG.1 hI.2.2.1 hown (hts (.fieldLink RJx4a65c 39 "java/util/ArrayList" "DEFAULTCAPACITY_EMPTY_ELEMENTDATA" "[Ljava/lang/Object;") (List.mem_of_getElem? (i := 1) (by decide +kernel))) (fun _ h => h) dJx4a65c_init_da8c8_5 ?_
  refine W.eq (g2 := F0 m 8 ls [va_rf (some z.1), va_rf (some b)]) rfl ?_
  obtain ⟨μ3, hμ3, hw⟩ := hw
  refine j_putz (C := RJx4a65c) (T := TJx4a65c) (N := 3) (ci := 2) (r := (some b)) (v := va_rf (some z.1)) hx hb hfJx4a65c tyJx4a65c tyJx4a65c_ok nmJx4a65c hown hK hI rfl 1 (by decide) (hts (.fieldLink RJx4a65c 9 "java/util/ArrayList" "elementData" "[Ljava/lang/Object;") (List.mem_of_getElem? (i := 2) (by decide +kernel))) (fun _ h => h) rfl (tyJx4a65c_ok 1 (by decide)) (jnra _ (some z.1)) (jfra _ (some z.1)) hμ3 dJx4a65c_init_da8c8_8 (fun H locs hI => ?_)
  exact j_vretz hx hb hr hlocks hI hw (by omega) (by omega) dJx4a65c_init_da8c8_11
set_option maxHeartbeats 4000000 in
set_option maxRecDepth 100000 in
theorem kJx4a65c_init_da8c8 (l : Launch) (hfl : l.stackTraces = false) (D : jD) (z : Nat × Nat) (b : Nat)  (μ : jM) (sz : Nat) (Q : Unit → jM → Prop) : Met l yJx4a65c_init_da8c8 wsJx4a65c_init_da8c8 rmJx4a65c_init_da8c8 (jPre2z D z μ sz [.ref b] (wJx4a65c_init_da8c8 z b  μ Q)) (jRz jfV Q D z (jA z μ sz)) 0 0 (jA z μ sz) := by
  refine Met.ofW (cc := cJx4a65c_init_da8c8) (maxL := 1) (ret := none) (by decide) rfl ?_
  intro p e s m args below meth c s₁ B hml hv
  obtain ⟨rfl, hsz, hH, hz0, hK, hG, hw⟩ := hv
  subst hsz
  have hX : jX2 D z (jA z μ s.heap.size) p l s m _ meth c yJx4a65c_init_da8c8 cJx4a65c_init_da8c8 1 wsJx4a65c_init_da8c8 none := ⟨B.exec, B.bytes, hml, findClass_of_methodNamed B.named, atoms_spec (ws := wsJx4a65c_init_da8c8) B.pre, B.returns, B.notSynchronized, (name_of_methodNamed B.named B.method).1, hK, hG, hfl⟩
  obtain ⟨ls, hg, hl⟩ : ∃ ls : Array Slot, entryFrame m ([.ref b] : List Value).toArray 1 = F0 m 0 ls [] ∧ lv_has ls 1 [(0, va_rf (some b))] := by
    exact ⟨_, lg_entry_eq .., lv_entry _ (n := 1) (Nat.le_of_ble_eq_true rfl)⟩
  rw [hg]
  exact kJx4a65c_init_da8c8_0 hX hw (jIz.start hH hz0) (lv_sub hl [0] rfl) (by decide) (by decide)
set_option maxHeartbeats 4000000 in
set_option maxRecDepth 100000 in
theorem kX7_init_0 {b : Nat} (hX : jX2 D z A p l s m args meth c yX7_init cX7_init 3 wsX7_init none) {Q : Unit → jM → Prop}  {x1 : Int32} {x2 : Int32} {μ : jM} {H : Heap} {locs : List Loc} {ls : Array Slot} {cells slots : Nat} (hw : wX7_init_0 z b Q x1 x2 μ) (hI : jIz D z A s.heap μ H locs) (hl : lv_has ls 3 [(0, va_rf (some b)), (1, .int x1), (2, .int x2)]) (hcn : cells + 4 ≤ 4) (hsn : slots + 40 ≤ 40) : W p l e rmX7_init s m args below meth c H locs cells slots (MQ below (jRz jfV Q D z A) args s 4 40 A) (F0 m 0 ls []) := by
  unfold wX7_init_0 at hw
  obtain ⟨hx, hb, hml, hown, hts, hr, hlocks, hnm, hK, hG, hfl⟩ := id hX
  have hown : s.vm.findClass RX7 = some m.cls := hown
  have hfX7 : ∀ w ∈ wsX70, w.before args s = true := fun w h => hts w (List.mem_cons_of_mem _ (List.mem_append_right _ h))
  refine j_aload_n (r := (some b)) hx hb dX7_init_0 rfl (lv_at hl 0 rfl) ?_
  refine W.objInit hx hb hown (hts (.methodLink RX7 3 objectInit) (List.mem_of_getElem? (i := 1) (by decide +kernel))) (hts (.instanceMethod objectInit) (List.mem_of_getElem? (i := 2) (by decide +kernel))) (hts (.code objectInit ⟨#[0xb1]⟩ 1 none) (List.mem_of_getElem? (i := 3) (by decide +kernel))) rfl (by rw [hml]; exact hl.1) rfl dX7_init_1 (Nat.le_of_ble_eq_true rfl) (Nat.le_of_ble_eq_true rfl) ?_
  refine W.eq (g2 := F0 m 4 ls []) rfl ?_
  refine j_aload_n (r := (some b)) hx hb dX7_init_4 rfl (lv_at hl 0 rfl) ?_
  refine lv_bipush (v := (10)) hx hb dX7_init_5 (by decide) ?_
  refine j_newaz (atype := .long) (ty := .long) (t := 1) (N' := 10) (a0 := (10, .inr (.inl (fun _ => 0)))) hx hb (hts (.arrayClass .long) (List.mem_of_getElem? (i := 4) (by decide +kernel))) rfl hK hI (fun cA h => Option.some.inj (h.symm.trans ((hK.2 1 (D.2 1, .long) rfl).2))) (fun cA => rfl) (by decide) (by decide) (by decide) (by show _ ≤ 4; omega) (by show _ ≤ 40; omega) dX7_init_7 (fun q1 H hq1 hI => ?_)
  have hw := hw q1 hq1
  obtain ⟨μ2, hμ2, hw⟩ := hw
  refine j_putFz (C := RX7) (T := TX7) (N := 10) (ci := 10) (r := (some b)) (v := va_rf (some q1)) hx hb hfX7 tyX7 tyX7_ok nmX7 hown hK hI rfl 4 (by decide) (hts (.fieldLink RX7 9 "CashPools$Side" "weights" "[J") (List.mem_of_getElem? (i := 5) (by decide +kernel))) (fun _ h => h) rfl hnm rfl (tyX7_ok 4 (by decide)) (jnra _ (some q1)) (jfra _ (some q1)) hμ2 dX7_init_9 (fun H locs hI => ?_)
  refine j_aload_n (r := (some b)) hx hb dX7_init_12 rfl (lv_at hl 0 rfl) ?_
  refine lv_bipush (v := (10)) hx hb dX7_init_13 (by decide) ?_
  refine j_newaz (atype := .long) (ty := .long) (t := 1) (N' := 10) (a0 := (10, .inr (.inl (fun _ => 0)))) hx hb (hts (.arrayClass .long) (List.mem_of_getElem? (i := 4) (by decide +kernel))) rfl hK hI (fun cA h => Option.some.inj (h.symm.trans ((hK.2 1 (D.2 1, .long) rfl).2))) (fun cA => rfl) (by decide) (by decide) (by decide) (by show _ ≤ 4; omega) (by show _ ≤ 40; omega) dX7_init_15 (fun q3 H hq3 hI => ?_)
  have hw := hw q3 hq3
  obtain ⟨μ4, hμ4, hw⟩ := hw
  refine j_putFz (C := RX7) (T := TX7) (N := 10) (ci := 10) (r := (some b)) (v := va_rf (some q3)) hx hb hfX7 tyX7 tyX7_ok nmX7 hown hK hI rfl 5 (by decide) (hts (.fieldLink RX7 15 "CashPools$Side" "shares" "[J") (List.mem_of_getElem? (i := 6) (by decide +kernel))) (fun _ h => h) rfl hnm rfl (tyX7_ok 5 (by decide)) (jnra _ (some q3)) (jfra _ (some q3)) hμ4 dX7_init_17 (fun H locs hI => ?_)
  refine j_aload_n (r := (some b)) hx hb dX7_init_20 rfl (lv_at hl 0 rfl) ?_
  refine lv_bipush (v := (10)) hx hb dX7_init_21 (by decide) ?_
  refine j_newaz (atype := .long) (ty := .long) (t := 1) (N' := 10) (a0 := (10, .inr (.inl (fun _ => 0)))) hx hb (hts (.arrayClass .long) (List.mem_of_getElem? (i := 4) (by decide +kernel))) rfl hK hI (fun cA h => Option.some.inj (h.symm.trans ((hK.2 1 (D.2 1, .long) rfl).2))) (fun cA => rfl) (by decide) (by decide) (by decide) (by show _ ≤ 4; omega) (by show _ ≤ 40; omega) dX7_init_23 (fun q5 H hq5 hI => ?_)
  have hw := hw q5 hq5
  obtain ⟨μ6, hμ6, hw⟩ := hw
  refine j_putFz (C := RX7) (T := TX7) (N := 10) (ci := 10) (r := (some b)) (v := va_rf (some q5)) hx hb hfX7 tyX7 tyX7_ok nmX7 hown hK hI rfl 6 (by decide) (hts (.fieldLink RX7 18 "CashPools$Side" "remainders" "[J") (List.mem_of_getElem? (i := 7) (by decide +kernel))) (fun _ h => h) rfl hnm rfl (tyX7_ok 6 (by decide)) (jnra _ (some q5)) (jfra _ (some q5)) hμ6 dX7_init_25 (fun H locs hI => ?_)
  refine j_aload_n (r := (some b)) hx hb dX7_init_28 rfl (lv_at hl 0 rfl) ?_
  refine lv_bipush (v := (10)) hx hb dX7_init_29 (by decide) ?_
  refine j_newaz (atype := .long) (ty := .long) (t := 1) (N' := 10) (a0 := (10, .inr (.inl (fun _ => 0)))) hx hb (hts (.arrayClass .long) (List.mem_of_getElem? (i := 4) (by decide +kernel))) rfl hK hI (fun cA h => Option.some.inj (h.symm.trans ((hK.2 1 (D.2 1, .long) rfl).2))) (fun cA => rfl) (by decide) (by decide) (by decide) (by show _ ≤ 4; omega) (by show _ ≤ 40; omega) dX7_init_31 (fun q7 H hq7 hI => ?_)
  have hw := hw q7 hq7
  obtain ⟨μ8, hμ8, hw⟩ := hw
  refine j_putFz (C := RX7) (T := TX7) (N := 10) (ci := 10) (r := (some b)) (v := va_rf (some q7)) hx hb hfX7 tyX7 tyX7_ok nmX7 hown hK hI rfl 9 (by decide) (hts (.fieldLink RX7 21 "CashPools$Side" "keptWeights" "[J") (List.mem_of_getElem? (i := 8) (by decide +kernel))) (fun _ h => h) rfl hnm rfl (tyX7_ok 9 (by decide)) (jnra _ (some q7)) (jfra _ (some q7)) hμ8 dX7_init_33 (fun H locs hI => ?_)
  refine j_aload_n (r := (some b)) hx hb dX7_init_36 rfl (lv_at hl 0 rfl) ?_
  refine lv_iload_n hx hb dX7_init_37 rfl (lv_at hl 1 rfl) ?_
  obtain ⟨μ9, hμ9, hw⟩ := hw
  refine j_putFz (C := RX7) (T := TX7) (N := 10) (ci := 10) (r := (some b)) (v := .int x1) hx hb hfX7 tyX7 tyX7_ok nmX7 hown hK hI rfl 0 (by decide) (hts (.fieldLink RX7 24 "CashPools$Side" "rate" "I") (List.mem_of_getElem? (i := 9) (by decide +kernel))) (fun _ h => h) rfl hnm rfl (tyX7_ok 0 (by decide)) rfl rfl hμ9 dX7_init_38 (fun H locs hI => ?_)
  refine j_aload_n (r := (some b)) hx hb dX7_init_41 rfl (lv_at hl 0 rfl) ?_
  refine lv_iload_n hx hb dX7_init_42 rfl (lv_at hl 2 rfl) ?_
  obtain ⟨μ10, hμ10, hw⟩ := hw
  refine j_putFz (C := RX7) (T := TX7) (N := 10) (ci := 10) (r := (some b)) (v := .int x2) hx hb hfX7 tyX7 tyX7_ok nmX7 hown hK hI rfl 1 (by decide) (hts (.fieldLink RX7 28 "CashPools$Side" "sign" "I") (List.mem_of_getElem? (i := 10) (by decide +kernel))) (fun _ h => h) rfl hnm rfl (tyX7_ok 1 (by decide)) rfl rfl hμ10 dX7_init_43 (fun H locs hI => ?_)
  exact j_vretz hx hb hr hlocks hI hw (by omega) (by omega) dX7_init_46
set_option maxHeartbeats 4000000 in
set_option maxRecDepth 100000 in
theorem kX7_init (l : Launch) (hfl : l.stackTraces = false) (D : jD) (z : Nat × Nat) (b : Nat) (x1 : Int32) (x2 : Int32) (μ : jM) (sz : Nat) (Q : Unit → jM → Prop) : Met l yX7_init wsX7_init rmX7_init (jPre2z D z μ sz [.ref b, .int x1, .int x2] (wX7_init z b x1 x2 μ Q)) (jRz jfV Q D z (jA z μ sz)) 4 40 (jA z μ sz) := by
  refine Met.ofW (cc := cX7_init) (maxL := 3) (ret := none) (by decide) rfl ?_
  intro p e s m args below meth c s₁ B hml hv
  obtain ⟨rfl, hsz, hH, hz0, hK, hG, hw⟩ := hv
  subst hsz
  have hX : jX2 D z (jA z μ s.heap.size) p l s m _ meth c yX7_init cX7_init 3 wsX7_init none := ⟨B.exec, B.bytes, hml, findClass_of_methodNamed B.named, atoms_spec (ws := wsX7_init) B.pre, B.returns, B.notSynchronized, (name_of_methodNamed B.named B.method).1, hK, hG, hfl⟩
  obtain ⟨ls, hg, hl⟩ : ∃ ls : Array Slot, entryFrame m ([.ref b, .int x1, .int x2] : List Value).toArray 3 = F0 m 0 ls [] ∧ lv_has ls 3 [(0, va_rf (some b)), (1, .int x1), (2, .int x2)] := by
    exact ⟨_, lg_entry_eq .., lv_entry _ (n := 3) (Nat.le_of_ble_eq_true rfl)⟩
  rw [hg]
  exact kX7_init_0 hX hw (jIz.start hH hz0) (lv_sub hl [0, 1, 2] rfl) (by decide) (by decide)
set_option maxHeartbeats 4000000 in
set_option maxRecDepth 100000 in
theorem kX6_init_0 {b : Nat} (hX : jX2 D z A p l s m args meth c yX6_init cX6_init 4 wsX6_init none) {Q : Unit → jM → Prop}  {x1 : Int32} {x2 : Int32} {x3 : Int32} {μ : jM} {H : Heap} {locs : List Loc} {ls : Array Slot} {cells slots : Nat} (hw : wX6_init_0 z b Q x1 x2 x3 μ) (hI : jIz D z A s.heap μ H locs) (hl : lv_has ls 4 [(0, va_rf (some b)), (1, .int x1), (2, .int x2), (3, .int x3)]) (hcn : cells + 12 ≤ 12) (hsn : slots + 106 ≤ 106) : W p l e rmX6_init s m args below meth c H locs cells slots (MQ below (jRz jfV Q D z A) args s 12 106 A) (F0 m 0 ls []) := by
  unfold wX6_init_0 at hw
  obtain ⟨hx, hb, hml, hown, hts, hr, hlocks, hnm, hK, hG, hfl⟩ := id hX
  have hown : s.vm.findClass RX6 = some m.cls := hown
  have hfJx4a65c : ∀ w ∈ wsJx4a65c0, w.before args s = true := fun w h => hts w (List.mem_cons_of_mem _ (List.mem_append_left _ (List.mem_append_left _ (List.mem_append_right _ h))))
  have hfX6 : ∀ w ∈ wsX60, w.before args s = true := fun w h => hts w (List.mem_cons_of_mem _ (List.mem_append_left _ (List.mem_append_right _ h)))
  have hfX7 : ∀ w ∈ wsX70, w.before args s = true := fun w h => hts w (List.mem_cons_of_mem _ (List.mem_append_right _ h))
  refine j_aload_n (r := (some b)) hx hb dX6_init_0 rfl (lv_at hl 0 rfl) ?_
  refine W.objInit hx hb hown (hts (.methodLink RX6 1 objectInit) (List.mem_of_getElem? (i := 1) (by decide +kernel))) (hts (.instanceMethod objectInit) (List.mem_of_getElem? (i := 2) (by decide +kernel))) (hts (.code objectInit ⟨#[0xb1]⟩ 1 none) (List.mem_of_getElem? (i := 3) (by decide +kernel))) rfl (by rw [hml]; exact hl.1) rfl dX6_init_1 (Nat.le_of_ble_eq_true rfl) (Nat.le_of_ble_eq_true rfl) ?_
  refine W.eq (g2 := F0 m 4 ls []) rfl ?_
  refine j_aload_n (r := (some b)) hx hb dX6_init_4 rfl (lv_at hl 0 rfl) ?_
  refine j_newz (C := RJx4a65c) (T := TJx4a65c) (N := 3) (ci := 2) (fs := jfJx4a65c) hx hb hfJx4a65c tyJx4a65c tyJx4a65c_ok hown (hts (.classLink RX6 7 RJx4a65c) (List.mem_of_getElem? (i := 4) (by decide +kernel))) (hts (.instantiable RJx4a65c 3) (List.mem_of_getElem? (i := 5) (by decide +kernel))) (hts (.initialized RJx4a65c) (List.mem_of_getElem? (i := 6) (by decide +kernel))) hK hI rfl jdJx4a65c (by show _ ≤ 12; omega) (by show _ ≤ 106; omega) dX6_init_5 (fun q1 H hq1 hI => ?_)
  have hw := hw q1 hq1
  refine lv_dup hx hb dX6_init_8 rfl ?_
  refine j_goz hI (va_runI (As := []) (rest := [va_rf (some q1), va_rf (some b)]) ⟨hx, hb, hml, hown, hts⟩ (kJx4a65c_init_da8c8 l hfl D z q1  (va_up μ q1 (some (.inr (2, jfJx4a65c)))) H.size _) (cwI 0 hts gX6_init_Jx4a65c_init_da8c8 rfl rfl rfl (hts (.initialized RJx4a65c) (List.mem_of_getElem? (i := 6) (by decide +kernel))) (hts (.methodLink RX6 9 yJx4a65c_init_da8c8) (List.mem_of_getElem? (i := 15) (by decide +kernel))) (hts (.instanceMethod yJx4a65c_init_da8c8) (List.mem_of_getElem? (i := 16) (by decide +kernel))) rfl (by decide +kernel) ⟨Nat.le_of_ble_eq_true rfl, Nat.le_of_ble_eq_true rfl⟩) (j_prS2z hK hG hI hw) rfl rfl hl.1 rfl (lv_room (Nat.le_of_ble_eq_true rfl)) dX6_init_9 ⟨by show _ ≤ 12; omega, by show _ ≤ 106; omega⟩) (fun u2 μ3 H locs hw hI => ?_)
  refine W.eq (g2 := F0 m 12 ls [va_rf (some q1), va_rf (some b)]) rfl ?_
  obtain ⟨μ4, hμ4, hw⟩ := hw
  refine j_putFz (C := RX6) (T := TX6) (N := 5) (ci := 9) (r := (some b)) (v := va_rf (some q1)) hx hb hfX6 tyX6 tyX6_ok nmX6 hown hK hI rfl 3 (by decide) (hts (.fieldLink RX6 10 "CashPools$Pool" "members" "Ljava/util/ArrayList;") (List.mem_of_getElem? (i := 7) (by decide +kernel))) (fun _ h => h) rfl hnm rfl (tyX6_ok 3 (by decide)) (jnr _ (some q1)) (jfr _ (some q1)) hμ4 dX6_init_12 (fun H locs hI => ?_)
  refine j_aload_n (r := (some b)) hx hb dX6_init_15 rfl (lv_at hl 0 rfl) ?_
  refine j_newz (C := RJx4a65c) (T := TJx4a65c) (N := 3) (ci := 2) (fs := jfJx4a65c) hx hb hfJx4a65c tyJx4a65c tyJx4a65c_ok hown (hts (.classLink RX6 7 RJx4a65c) (List.mem_of_getElem? (i := 4) (by decide +kernel))) (hts (.instantiable RJx4a65c 3) (List.mem_of_getElem? (i := 5) (by decide +kernel))) (hts (.initialized RJx4a65c) (List.mem_of_getElem? (i := 6) (by decide +kernel))) hK hI rfl jdJx4a65c (by show _ ≤ 12; omega) (by show _ ≤ 106; omega) dX6_init_16 (fun q5 H hq5 hI => ?_)
  have hw := hw q5 hq5
  refine lv_dup hx hb dX6_init_19 rfl ?_
  refine j_goz hI (va_runI (As := []) (rest := [va_rf (some q5), va_rf (some b)]) ⟨hx, hb, hml, hown, hts⟩ (kJx4a65c_init_da8c8 l hfl D z q5  (va_up μ4 q5 (some (.inr (2, jfJx4a65c)))) H.size _) (cwI 0 hts gX6_init_Jx4a65c_init_da8c8 rfl rfl rfl (hts (.initialized RJx4a65c) (List.mem_of_getElem? (i := 6) (by decide +kernel))) (hts (.methodLink RX6 9 yJx4a65c_init_da8c8) (List.mem_of_getElem? (i := 15) (by decide +kernel))) (hts (.instanceMethod yJx4a65c_init_da8c8) (List.mem_of_getElem? (i := 16) (by decide +kernel))) rfl (by decide +kernel) ⟨Nat.le_of_ble_eq_true rfl, Nat.le_of_ble_eq_true rfl⟩) (j_prS2z hK hG hI hw) rfl rfl hl.1 rfl (lv_room (Nat.le_of_ble_eq_true rfl)) dX6_init_20 ⟨by show _ ≤ 12; omega, by show _ ≤ 106; omega⟩) (fun u6 μ7 H locs hw hI => ?_)
  refine W.eq (g2 := F0 m 23 ls [va_rf (some q5), va_rf (some b)]) rfl ?_
  obtain ⟨μ8, hμ8, hw⟩ := hw
  refine j_putFz (C := RX6) (T := TX6) (N := 5) (ci := 9) (r := (some b)) (v := va_rf (some q5)) hx hb hfX6 tyX6 tyX6_ok nmX6 hown hK hI rfl 4 (by decide) (hts (.fieldLink RX6 16 "CashPools$Pool" "ranked" "Ljava/util/ArrayList;") (List.mem_of_getElem? (i := 8) (by decide +kernel))) (fun _ h => h) rfl hnm rfl (tyX6_ok 4 (by decide)) (jnr _ (some q5)) (jfr _ (some q5)) hμ8 dX6_init_23 (fun H locs hI => ?_)
  refine j_aload_n (r := (some b)) hx hb dX6_init_26 rfl (lv_at hl 0 rfl) ?_
  refine lv_iload_n hx hb dX6_init_27 rfl (lv_at hl 1 rfl) ?_
  obtain ⟨μ9, hμ9, hw⟩ := hw
  refine j_putFz (C := RX6) (T := TX6) (N := 5) (ci := 9) (r := (some b)) (v := .int x1) hx hb hfX6 tyX6 tyX6_ok nmX6 hown hK hI rfl 0 (by decide) (hts (.fieldLink RX6 19 "CashPools$Pool" "number" "I") (List.mem_of_getElem? (i := 9) (by decide +kernel))) (fun _ h => h) rfl hnm rfl (tyX6_ok 0 (by decide)) rfl rfl hμ9 dX6_init_28 (fun H locs hI => ?_)
  refine j_aload_n (r := (some b)) hx hb dX6_init_31 rfl (lv_at hl 0 rfl) ?_
  refine j_newz (C := RX7) (T := TX7) (N := 10) (ci := 10) (fs := jfX7) hx hb hfX7 tyX7 tyX7_ok hown (hts (.classLink RX6 23 RX7) (List.mem_of_getElem? (i := 10) (by decide +kernel))) (hts (.instantiable RX7 10) (List.mem_of_getElem? (i := 11) (by decide +kernel))) (hts (.initialized RX7) (List.mem_of_getElem? (i := 12) (by decide +kernel))) hK hI rfl jdX7 (by show _ ≤ 12; omega) (by show _ ≤ 106; omega) dX6_init_32 (fun q10 H hq10 hI => ?_)
  have hw := hw q10 hq10
  refine lv_dup hx hb dX6_init_35 rfl ?_
  refine lv_iload_n hx hb dX6_init_36 rfl (lv_at hl 2 rfl) ?_
  refine lv_iconst (v := (1)) hx hb dX6_init_37 (by decide) ?_
  refine j_goz hI (va_runI (As := [.int x2, .int (1 : Int32)]) (rest := [va_rf (some q10), va_rf (some b)]) ⟨hx, hb, hml, hown, hts⟩ (kX7_init l hfl D z q10 x2 (1 : Int32) (va_up μ9 q10 (some (.inr (10, jfX7)))) H.size _) (cwI 2 hts gX6_init_X7_init rfl rfl rfl (hts (.initialized RX7) (List.mem_of_getElem? (i := 12) (by decide +kernel))) (hts (.methodLink RX6 25 yX7_init) (List.mem_of_getElem? (i := 30) (by decide +kernel))) (hts (.instanceMethod yX7_init) (List.mem_of_getElem? (i := 31) (by decide +kernel))) rfl (by decide +kernel) ⟨Nat.le_of_ble_eq_true rfl, Nat.le_of_ble_eq_true rfl⟩) (j_prS2z hK hG hI hw) rfl rfl hl.1 rfl (lv_room (Nat.le_of_ble_eq_true rfl)) dX6_init_38 ⟨by show _ ≤ 12; omega, by show _ ≤ 106; omega⟩) (fun u11 μ12 H locs hw hI => ?_)
  refine W.eq (g2 := F0 m 41 ls [va_rf (some q10), va_rf (some b)]) rfl ?_
  obtain ⟨μ13, hμ13, hw⟩ := hw
  refine j_putFz (C := RX6) (T := TX6) (N := 5) (ci := 9) (r := (some b)) (v := va_rf (some q10)) hx hb hfX6 tyX6 tyX6_ok nmX6 hown hK hI rfl 1 (by decide) (hts (.fieldLink RX6 28 "CashPools$Pool" "credit" "LCashPools$Side;") (List.mem_of_getElem? (i := 13) (by decide +kernel))) (fun _ h => h) rfl hnm rfl (tyX6_ok 1 (by decide)) (jnr _ (some q10)) (jfr _ (some q10)) hμ13 dX6_init_41 (fun H locs hI => ?_)
  refine j_aload_n (r := (some b)) hx hb dX6_init_44 rfl (lv_at hl 0 rfl) ?_
  refine j_newz (C := RX7) (T := TX7) (N := 10) (ci := 10) (fs := jfX7) hx hb hfX7 tyX7 tyX7_ok hown (hts (.classLink RX6 23 RX7) (List.mem_of_getElem? (i := 10) (by decide +kernel))) (hts (.instantiable RX7 10) (List.mem_of_getElem? (i := 11) (by decide +kernel))) (hts (.initialized RX7) (List.mem_of_getElem? (i := 12) (by decide +kernel))) hK hI rfl jdX7 (by show _ ≤ 12; omega) (by show _ ≤ 106; omega) dX6_init_45 (fun q14 H hq14 hI => ?_)
  have hw := hw q14 hq14
  refine lv_dup hx hb dX6_init_48 rfl ?_
  refine lv_iload_n hx hb dX6_init_49 rfl (lv_at hl 3 rfl) ?_
  refine lv_iconst (v := (-1)) hx hb dX6_init_50 (by decide) ?_
  refine j_goz hI (va_runI (As := [.int x3, .int (-1 : Int32)]) (rest := [va_rf (some q14), va_rf (some b)]) ⟨hx, hb, hml, hown, hts⟩ (kX7_init l hfl D z q14 x3 (-1 : Int32) (va_up μ13 q14 (some (.inr (10, jfX7)))) H.size _) (cwI 2 hts gX6_init_X7_init rfl rfl rfl (hts (.initialized RX7) (List.mem_of_getElem? (i := 12) (by decide +kernel))) (hts (.methodLink RX6 25 yX7_init) (List.mem_of_getElem? (i := 30) (by decide +kernel))) (hts (.instanceMethod yX7_init) (List.mem_of_getElem? (i := 31) (by decide +kernel))) rfl (by decide +kernel) ⟨Nat.le_of_ble_eq_true rfl, Nat.le_of_ble_eq_true rfl⟩) (j_prS2z hK hG hI hw) rfl rfl hl.1 rfl (lv_room (Nat.le_of_ble_eq_true rfl)) dX6_init_51 ⟨by show _ ≤ 12; omega, by show _ ≤ 106; omega⟩) (fun u15 μ16 H locs hw hI => ?_)
  refine W.eq (g2 := F0 m 54 ls [va_rf (some q14), va_rf (some b)]) rfl ?_
  obtain ⟨μ17, hμ17, hw⟩ := hw
  refine j_putFz (C := RX6) (T := TX6) (N := 5) (ci := 9) (r := (some b)) (v := va_rf (some q14)) hx hb hfX6 tyX6 tyX6_ok nmX6 hown hK hI rfl 2 (by decide) (hts (.fieldLink RX6 32 "CashPools$Pool" "debit" "LCashPools$Side;") (List.mem_of_getElem? (i := 14) (by decide +kernel))) (fun _ h => h) rfl hnm rfl (tyX6_ok 2 (by decide)) (jnr _ (some q14)) (jfr _ (some q14)) hμ17 dX6_init_54 (fun H locs hI => ?_)
  exact j_vretz hx hb hr hlocks hI hw (by omega) (by omega) dX6_init_57
set_option maxHeartbeats 4000000 in
set_option maxRecDepth 100000 in
theorem kX6_init (l : Launch) (hfl : l.stackTraces = false) (D : jD) (z : Nat × Nat) (b : Nat) (x1 : Int32) (x2 : Int32) (x3 : Int32) (μ : jM) (sz : Nat) (Q : Unit → jM → Prop) : Met l yX6_init wsX6_init rmX6_init (jPre2z D z μ sz [.ref b, .int x1, .int x2, .int x3] (wX6_init z b x1 x2 x3 μ Q)) (jRz jfV Q D z (jA z μ sz)) 12 106 (jA z μ sz) := by
  refine Met.ofW (cc := cX6_init) (maxL := 4) (ret := none) (by decide) rfl ?_
  intro p e s m args below meth c s₁ B hml hv
  obtain ⟨rfl, hsz, hH, hz0, hK, hG, hw⟩ := hv
  subst hsz
  have hX : jX2 D z (jA z μ s.heap.size) p l s m _ meth c yX6_init cX6_init 4 wsX6_init none := ⟨B.exec, B.bytes, hml, findClass_of_methodNamed B.named, atoms_spec (ws := wsX6_init) B.pre, B.returns, B.notSynchronized, (name_of_methodNamed B.named B.method).1, hK, hG, hfl⟩
  obtain ⟨ls, hg, hl⟩ : ∃ ls : Array Slot, entryFrame m ([.ref b, .int x1, .int x2, .int x3] : List Value).toArray 4 = F0 m 0 ls [] ∧ lv_has ls 4 [(0, va_rf (some b)), (1, .int x1), (2, .int x2), (3, .int x3)] := by
    exact ⟨_, lg_entry_eq .., lv_entry _ (n := 4) (Nat.le_of_ble_eq_true rfl)⟩
  rw [hg]
  exact kX6_init_0 hX hw (jIz.start hH hz0) (lv_sub hl [0, 1, 2, 3] rfl) (by decide) (by decide)
set_option maxHeartbeats 4000000 in
set_option maxRecDepth 100000 in
theorem kX0_init_0 {b : Nat} (hX : jX2 D z A p l s m args meth c yX0_init cX0_init 5 wsX0_init none) {Q : Unit → jM → Prop}  {x1 : Int32} {x2 : Option Nat} {x3 : Option Nat} {x4 : Option Nat} {μ : jM} {H : Heap} {locs : List Loc} {ls : Array Slot} {cells slots : Nat} (hw : wX0_init_0 z b Q x1 x2 x3 x4 μ) (hI : jIz D z A s.heap μ H locs) (hl : lv_has ls 5 [(0, va_rf (some b)), (1, .int x1), (2, va_rf x2), (3, va_rf x3), (4, va_rf x4)]) (hcn : cells + 1 ≤ 1) (hsn : slots + 3 ≤ 3) : W p l e rmX0_init s m args below meth c H locs cells slots (MQ below (jRz jfV Q D z A) args s 1 3 A) (F0 m 0 ls []) := by
  unfold wX0_init_0 at hw
  obtain ⟨hx, hb, hml, hown, hts, hr, hlocks, hnm, hK, hG, hfl⟩ := id hX
  have hown : s.vm.findClass RX0 = some m.cls := hown
  have hfJx4a65c : ∀ w ∈ wsJx4a65c0, w.before args s = true := fun w h => hts w (List.mem_cons_of_mem _ (List.mem_append_left _ (List.mem_append_right _ h)))
  have hfX0 : ∀ w ∈ wsX00, w.before args s = true := fun w h => hts w (List.mem_cons_of_mem _ (List.mem_append_right _ h))
  refine j_aload_n (r := (some b)) hx hb dX0_init_0 rfl (lv_at hl 0 rfl) ?_
  refine W.objInit hx hb hown (hts (.methodLink RX0 1 objectInit) (List.mem_of_getElem? (i := 1) (by decide +kernel))) (hts (.instanceMethod objectInit) (List.mem_of_getElem? (i := 2) (by decide +kernel))) (hts (.code objectInit ⟨#[0xb1]⟩ 1 none) (List.mem_of_getElem? (i := 3) (by decide +kernel))) rfl (by rw [hml]; exact hl.1) rfl dX0_init_1 (Nat.le_of_ble_eq_true rfl) (Nat.le_of_ble_eq_true rfl) ?_
  refine W.eq (g2 := F0 m 4 ls []) rfl ?_
  refine j_aload_n (r := (some b)) hx hb dX0_init_4 rfl (lv_at hl 0 rfl) ?_
  refine j_newz (C := RJx4a65c) (T := TJx4a65c) (N := 3) (ci := 2) (fs := jfJx4a65c) hx hb hfJx4a65c tyJx4a65c tyJx4a65c_ok hown (hts (.classLink RX0 7 RJx4a65c) (List.mem_of_getElem? (i := 4) (by decide +kernel))) (hts (.instantiable RJx4a65c 3) (List.mem_of_getElem? (i := 5) (by decide +kernel))) (hts (.initialized RJx4a65c) (List.mem_of_getElem? (i := 6) (by decide +kernel))) hK hI rfl jdJx4a65c (by show _ ≤ 1; omega) (by show _ ≤ 3; omega) dX0_init_5 (fun q1 H hq1 hI => ?_)
  have hw := hw q1 hq1
  refine lv_dup hx hb dX0_init_8 rfl ?_
  refine j_goz hI (va_runI (As := []) (rest := [va_rf (some q1), va_rf (some b)]) ⟨hx, hb, hml, hown, hts⟩ (kJx4a65c_init_da8c8 l hfl D z q1  (va_up μ q1 (some (.inr (2, jfJx4a65c)))) H.size _) (cwI 0 hts gX0_init_Jx4a65c_init_da8c8 rfl rfl rfl (hts (.initialized RJx4a65c) (List.mem_of_getElem? (i := 6) (by decide +kernel))) (hts (.methodLink RX0 9 yJx4a65c_init_da8c8) (List.mem_of_getElem? (i := 12) (by decide +kernel))) (hts (.instanceMethod yJx4a65c_init_da8c8) (List.mem_of_getElem? (i := 13) (by decide +kernel))) rfl (by decide +kernel) ⟨Nat.le_of_ble_eq_true rfl, Nat.le_of_ble_eq_true rfl⟩) (j_prS2z hK hG hI hw) rfl rfl hl.1 rfl (lv_room (Nat.le_of_ble_eq_true rfl)) dX0_init_9 ⟨by show _ ≤ 1; omega, by show _ ≤ 3; omega⟩) (fun u2 μ3 H locs hw hI => ?_)
  refine W.eq (g2 := F0 m 12 ls [va_rf (some q1), va_rf (some b)]) rfl ?_
  obtain ⟨μ4, hμ4, hw⟩ := hw
  refine j_putFz (C := RX0) (T := TX0) (N := 12) (ci := 3) (r := (some b)) (v := va_rf (some q1)) hx hb hfX0 tyX0 tyX0_ok nmX0 hown hK hI rfl 4 (by decide) (hts (.fieldLink RX0 10 "CashPools$Account" "children" "Ljava/util/ArrayList;") (List.mem_of_getElem? (i := 7) (by decide +kernel))) (fun _ h => h) rfl hnm rfl (tyX0_ok 4 (by decide)) (jnr _ (some q1)) (jfr _ (some q1)) hμ4 dX0_init_12 (fun H locs hI => ?_)
  refine j_aload_n (r := (some b)) hx hb dX0_init_15 rfl (lv_at hl 0 rfl) ?_
  refine lv_iload_n hx hb dX0_init_16 rfl (lv_at hl 1 rfl) ?_
  obtain ⟨μ5, hμ5, hw⟩ := hw
  refine j_putFz (C := RX0) (T := TX0) (N := 12) (ci := 3) (r := (some b)) (v := .int x1) hx hb hfX0 tyX0 tyX0_ok nmX0 hown hK hI rfl 0 (by decide) (hts (.fieldLink RX0 16 "CashPools$Account" "number" "I") (List.mem_of_getElem? (i := 8) (by decide +kernel))) (fun _ h => h) rfl hnm rfl (tyX0_ok 0 (by decide)) rfl rfl hμ5 dX0_init_17 (fun H locs hI => ?_)
  refine j_aload_n (r := (some b)) hx hb dX0_init_20 rfl (lv_at hl 0 rfl) ?_
  refine j_aload_n (r := x2) hx hb dX0_init_21 rfl (lv_at hl 2 rfl) ?_
  obtain ⟨μ6, hμ6, hw⟩ := hw
  refine j_putFz (C := RX0) (T := TX0) (N := 12) (ci := 3) (r := (some b)) (v := va_rf x2) hx hb hfX0 tyX0 tyX0_ok nmX0 hown hK hI rfl 1 (by decide) (hts (.fieldLink RX0 20 "CashPools$Account" "parent" "LCashPools$Account;") (List.mem_of_getElem? (i := 9) (by decide +kernel))) (fun _ h => h) rfl hnm rfl (tyX0_ok 1 (by decide)) (jnr _ x2) (jfr _ x2) hμ6 dX0_init_22 (fun H locs hI => ?_)
  refine j_aload_n (r := (some b)) hx hb dX0_init_25 rfl (lv_at hl 0 rfl) ?_
  refine j_aload_n (r := x3) hx hb dX0_init_26 rfl (lv_at hl 3 rfl) ?_
  obtain ⟨μ7, hμ7, hw⟩ := hw
  refine j_putFz (C := RX0) (T := TX0) (N := 12) (ci := 3) (r := (some b)) (v := va_rf x3) hx hb hfX0 tyX0 tyX0_ok nmX0 hown hK hI rfl 2 (by decide) (hts (.fieldLink RX0 24 "CashPools$Account" "pool" "LCashPools$Pool;") (List.mem_of_getElem? (i := 10) (by decide +kernel))) (fun _ h => h) rfl hnm rfl (tyX0_ok 2 (by decide)) (jnr _ x3) (jfr _ x3) hμ7 dX0_init_27 (fun H locs hI => ?_)
  refine j_aload_n (r := (some b)) hx hb dX0_init_30 rfl (lv_at hl 0 rfl) ?_
  refine j_aload (r := x4) hx hb dX0_init_31 (lv_at hl 4 rfl) ?_
  obtain ⟨μ8, hμ8, hw⟩ := hw
  refine j_putFz (C := RX0) (T := TX0) (N := 12) (ci := 3) (r := (some b)) (v := va_rf x4) hx hb hfX0 tyX0 tyX0_ok nmX0 hown hK hI rfl 3 (by decide) (hts (.fieldLink RX0 28 "CashPools$Account" "bank" "LCashPools$Bank;") (List.mem_of_getElem? (i := 11) (by decide +kernel))) (fun _ h => h) rfl hnm rfl (tyX0_ok 3 (by decide)) (jnr _ x4) (jfr _ x4) hμ8 dX0_init_33 (fun H locs hI => ?_)
  exact j_vretz hx hb hr hlocks hI hw (by omega) (by omega) dX0_init_36
set_option maxHeartbeats 4000000 in
set_option maxRecDepth 100000 in
theorem kX0_init (l : Launch) (hfl : l.stackTraces = false) (D : jD) (z : Nat × Nat) (b : Nat) (x1 : Int32) (x2 : Option Nat) (x3 : Option Nat) (x4 : Option Nat) (μ : jM) (sz : Nat) (Q : Unit → jM → Prop) : Met l yX0_init wsX0_init rmX0_init (jPre2z D z μ sz [.ref b, .int x1, va_rf x2, va_rf x3, va_rf x4] (wX0_init z b x1 x2 x3 x4 μ Q)) (jRz jfV Q D z (jA z μ sz)) 1 3 (jA z μ sz) := by
  refine Met.ofW (cc := cX0_init) (maxL := 5) (ret := none) (by decide) rfl ?_
  intro p e s m args below meth c s₁ B hml hv
  obtain ⟨rfl, hsz, hH, hz0, hK, hG, hw⟩ := hv
  subst hsz
  have hX : jX2 D z (jA z μ s.heap.size) p l s m _ meth c yX0_init cX0_init 5 wsX0_init none := ⟨B.exec, B.bytes, hml, findClass_of_methodNamed B.named, atoms_spec (ws := wsX0_init) B.pre, B.returns, B.notSynchronized, (name_of_methodNamed B.named B.method).1, hK, hG, hfl⟩
  obtain ⟨ls, hg, hl⟩ : ∃ ls : Array Slot, entryFrame m ([.ref b, .int x1, va_rf x2, va_rf x3, va_rf x4] : List Value).toArray 5 = F0 m 0 ls [] ∧ lv_has ls 5 [(0, va_rf (some b)), (1, .int x1), (2, va_rf x2), (3, va_rf x3), (4, va_rf x4)] := by
    cases x2 <;> cases x3 <;> cases x4 <;> exact ⟨_, lg_entry_eq .., lv_entry _ (n := 5) (Nat.le_of_ble_eq_true rfl)⟩
  rw [hg]
  exact kX0_init_0 hX hw (jIz.start hH hz0) (lv_sub hl [0, 1, 2, 3, 4] rfl) (by decide) (by decide)
set_option maxHeartbeats 4000000 in
set_option maxRecDepth 100000 in
theorem kJ8_hugeLength_7cf53_0 (hX : jX2 D z A p l s m args meth c yJ8_hugeLength_7cf53 cJ8_hugeLength_7cf53 3 wsJ8_hugeLength_7cf53 (some .int)) {Q : Int32 → jM → Prop}  {x0 : Int32} {x1 : Int32} {μ : jM} {H : Heap} {locs : List Loc} {ls : Array Slot} {cells slots : Nat} (hw : wJ8_hugeLength_7cf53_0 z Q x0 x1 μ) (hI : jIz D z A s.heap μ H locs) (hl : lv_has ls 3 [(0, .int x0), (1, .int x1)]) (hcn : cells + 0 ≤ 0) (hsn : slots + 0 ≤ 0) : W p l e rmJ8_hugeLength_7cf53 s m args below meth c H locs cells slots (MQ below (jRz jfI Q D z A) args s 0 0 A) (F0 m 0 ls []) := by
  unfold wJ8_hugeLength_7cf53_0 at hw
  obtain ⟨hx, hb, hml, hown, hts, hr, hlocks, hnm, hK, hG, hfl⟩ := id hX
  have hown : s.vm.findClass RJ8 = some m.cls := hown
  refine lv_iload_n hx hb dJ8_hugeLength_7cf53_0 rfl (lv_at hl 0 rfl) ?_
  refine lv_iload_n hx hb dJ8_hugeLength_7cf53_1 rfl (lv_at hl 1 rfl) ?_
  refine lv_iadd hx hb dJ8_hugeLength_7cf53_2 ?_
  refine lv_topi (fun v1 ev1 => ?_)
  have hw := hw v1 ev1
  refine lv_istore_n (lv' := [(2, .int v1), (0, .int x0), (1, .int x1)]) hx hb dJ8_hugeLength_7cf53_3 rfl hl (by decide) rfl (fun ls hl => ?_)
  refine lv_iload_n hx hb dJ8_hugeLength_7cf53_4 rfl (lv_at hl 0 rfl) ?_
  refine lv_if_ge (tgt := 49) hx hb dJ8_hugeLength_7cf53_5 (by decide) (fun hc => ?_) (fun hc => ?_)
  · have hw := hw.1 hc
    refine lv_iload_n hx hb dJ8_hugeLength_7cf53_49 rfl (lv_at hl 0 rfl) ?_
    refine lv_ldc (v := (2147483639)) hx hb hown (hts (.constant RJ8 200 (2147483639)) (List.mem_of_getElem? (i := 1) (by decide +kernel))) dJ8_hugeLength_7cf53_50 ?_
    refine lv_icmp_gt (tgt := 58) hx hb dJ8_hugeLength_7cf53_52 (by decide) (fun hc => ?_) (fun hc => ?_)
    · have hw := hw.1 hc
      refine lv_iload_n hx hb dJ8_hugeLength_7cf53_58 rfl (lv_at hl 0 rfl) ?_
      exact j_iretz hx hb hr hlocks hI hw (by omega) (by omega) dJ8_hugeLength_7cf53_59
    · have hw := hw.2 hc
      refine lv_ldc (v := (2147483639)) hx hb hown (hts (.constant RJ8 200 (2147483639)) (List.mem_of_getElem? (i := 1) (by decide +kernel))) dJ8_hugeLength_7cf53_55 ?_
      exact j_iretz hx hb hr hlocks hI hw (by omega) (by omega) dJ8_hugeLength_7cf53_57
  · have hw := hw.2 hc
    exact (show False from hw).elim
set_option maxHeartbeats 4000000 in
set_option maxRecDepth 100000 in
theorem kJ8_hugeLength_7cf53 (l : Launch) (hfl : l.stackTraces = false) (D : jD) (z : Nat × Nat) (x0 : Int32) (x1 : Int32) (μ : jM) (sz : Nat) (Q : Int32 → jM → Prop) : Met l yJ8_hugeLength_7cf53 wsJ8_hugeLength_7cf53 rmJ8_hugeLength_7cf53 (jPre2z D z μ sz [.int x0, .int x1] (wJ8_hugeLength_7cf53 z x0 x1 μ Q)) (jRz jfI Q D z (jA z μ sz)) 0 0 (jA z μ sz) := by
  refine Met.ofW (cc := cJ8_hugeLength_7cf53) (maxL := 3) (ret := (some .int)) (by decide) rfl ?_
  intro p e s m args below meth c s₁ B hml hv
  obtain ⟨rfl, hsz, hH, hz0, hK, hG, hw⟩ := hv
  subst hsz
  have hX : jX2 D z (jA z μ s.heap.size) p l s m _ meth c yJ8_hugeLength_7cf53 cJ8_hugeLength_7cf53 3 wsJ8_hugeLength_7cf53 (some .int) := ⟨B.exec, B.bytes, hml, findClass_of_methodNamed B.named, atoms_spec (ws := wsJ8_hugeLength_7cf53) B.pre, B.returns, B.notSynchronized, (name_of_methodNamed B.named B.method).1, hK, hG, hfl⟩
  obtain ⟨ls, hg, hl⟩ : ∃ ls : Array Slot, entryFrame m ([.int x0, .int x1] : List Value).toArray 3 = F0 m 0 ls [] ∧ lv_has ls 3 [(0, .int x0), (1, .int x1)] := by
    exact ⟨_, lg_entry_eq .., lv_entry _ (n := 3) (Nat.le_of_ble_eq_true rfl)⟩
  rw [hg]
  exact kJ8_hugeLength_7cf53_0 hX hw (jIz.start hH hz0) (lv_sub hl [0, 1] rfl) (by decide) (by decide)
set_option maxHeartbeats 4000000 in
set_option maxRecDepth 100000 in
theorem kJ8_newLength_cabcc_21 (hX : jX2 D z A p l s m args meth c yJ8_newLength_cabcc cJ8_newLength_cabcc 4 wsJ8_newLength_cabcc (some .int)) {Q : Int32 → jM → Prop}  {x0 : Int32} {x1 : Int32} {μ : jM} {H : Heap} {locs : List Loc} {ls : Array Slot} {cells slots : Nat} (hw : wJ8_newLength_cabcc_21 z Q x0 x1 μ) (hI : jIz D z A s.heap μ H locs) (hl : lv_has ls 4 [(0, .int x0), (1, .int x1)]) (hcn : cells + 0 ≤ 0) (hsn : slots + 0 ≤ 0) : W p l e rmJ8_newLength_cabcc s m args below meth c H locs cells slots (MQ below (jRz jfI Q D z A) args s 0 0 A) (F0 m 21 ls []) := by
  unfold wJ8_newLength_cabcc_21 at hw
  obtain ⟨hx, hb, hml, hown, hts, hr, hlocks, hnm, hK, hG, hfl⟩ := id hX
  have hown : s.vm.findClass RJ8 = some m.cls := hown
  refine lv_iload_n hx hb dJ8_newLength_cabcc_21 rfl (lv_at hl 0 rfl) ?_
  refine lv_iload_n hx hb dJ8_newLength_cabcc_22 rfl (lv_at hl 1 rfl) ?_
  refine j_goz hI (va_runS (As := [.int x0, .int x1]) (rest := []) ⟨hx, hb, hml, hown, hts⟩ (kJ8_hugeLength_7cf53 l hfl D z x0 x1 μ H.size _) (va_cwS 2 hts gJ8_newLength_cabcc_J8_hugeLength_7cf53 rfl rfl rfl (by decide +kernel) ⟨Nat.le_of_ble_eq_true rfl, Nat.le_of_ble_eq_true rfl⟩) (j_prS2z hK hG hI hw) rfl rfl hl.1 rfl (lv_room (Nat.le_of_ble_eq_true rfl)) dJ8_newLength_cabcc_23 ⟨by show _ ≤ 0; omega, by show _ ≤ 0; omega⟩) (fun v1 μ2 H locs hw hI => ?_)
  refine W.eq (g2 := F0 m 26 ls [.int v1]) rfl ?_
  exact j_iretz hx hb hr hlocks hI hw (by omega) (by omega) dJ8_newLength_cabcc_26
set_option maxHeartbeats 4000000 in
set_option maxRecDepth 100000 in
theorem kJ8_newLength_cabcc_0 (hX : jX2 D z A p l s m args meth c yJ8_newLength_cabcc cJ8_newLength_cabcc 4 wsJ8_newLength_cabcc (some .int)) {Q : Int32 → jM → Prop}  {x0 : Int32} {x1 : Int32} {x2 : Int32} {μ : jM} {H : Heap} {locs : List Loc} {ls : Array Slot} {cells slots : Nat} (hw : wJ8_newLength_cabcc_0 z Q x0 x1 x2 μ) (hI : jIz D z A s.heap μ H locs) (hl : lv_has ls 4 [(0, .int x0), (1, .int x1), (2, .int x2)]) (hcn : cells + 0 ≤ 0) (hsn : slots + 0 ≤ 0) : W p l e rmJ8_newLength_cabcc s m args below meth c H locs cells slots (MQ below (jRz jfI Q D z A) args s 0 0 A) (F0 m 0 ls []) := by
  unfold wJ8_newLength_cabcc_0 at hw
  obtain ⟨hx, hb, hml, hown, hts, hr, hlocks, hnm, hK, hG, hfl⟩ := id hX
  have hown : s.vm.findClass RJ8 = some m.cls := hown
  refine lv_iload_n hx hb dJ8_newLength_cabcc_0 rfl (lv_at hl 0 rfl) ?_
  refine lv_iload_n hx hb dJ8_newLength_cabcc_1 rfl (lv_at hl 1 rfl) ?_
  refine lv_iload_n hx hb dJ8_newLength_cabcc_2 rfl (lv_at hl 2 rfl) ?_
  refine va_mmax hx hb (by rw [hml]; exact hl.1.symm) hown (hts (.methodLink RJ8 194 Lib.Math.max.name) (List.mem_of_getElem? (i := 1) (by decide +kernel))) (hts (.static Lib.Math.max.name) (List.mem_of_getElem? (i := 2) (by decide +kernel))) (hts (.initialized "java/lang/Math") (List.mem_of_getElem? (i := 3) (by decide +kernel))) (hts (.code Lib.Math.max.name Lib.Math.max.code 2 (some .int)) (List.mem_of_getElem? (i := 4) (by decide +kernel))) (Nat.le_of_ble_eq_true rfl) (Nat.le_of_ble_eq_true rfl) (by show _ ≤ 0; omega) (by show _ ≤ 0; omega) dJ8_newLength_cabcc_3 ?_
  refine lv_iadd hx hb dJ8_newLength_cabcc_6 ?_
  refine lv_topi (fun v1 ev1 => ?_)
  have hw := hw v1 ev1
  refine lv_istore_n (lv' := [(3, .int v1), (0, .int x0), (1, .int x1), (2, .int x2)]) hx hb dJ8_newLength_cabcc_7 rfl hl (by decide) rfl (fun ls hl => ?_)
  refine lv_iconst (v := (0)) hx hb dJ8_newLength_cabcc_8 (by decide) ?_
  refine lv_iload_n hx hb dJ8_newLength_cabcc_9 rfl (lv_at hl 0 rfl) ?_
  refine lv_icmp_ge (tgt := 21) hx hb dJ8_newLength_cabcc_10 (by decide) (fun hc => ?_) (fun hc => ?_)
  · have hw := hw.1 hc
    exact kJ8_newLength_cabcc_21 hX  hw hI (lv_sub hl [1, 2] rfl) (by omega) (by omega)
  · have hw := hw.2 hc
    refine lv_iload_n hx hb dJ8_newLength_cabcc_13 rfl (lv_at hl 0 rfl) ?_
    refine lv_ldc (v := (2147483639)) hx hb hown (hts (.constant RJ8 200 (2147483639)) (List.mem_of_getElem? (i := 5) (by decide +kernel))) dJ8_newLength_cabcc_14 ?_
    refine lv_icmp_gt (tgt := 21) hx hb dJ8_newLength_cabcc_16 (by decide) (fun hc => ?_) (fun hc => ?_)
    · have hw := hw.1 hc
      exact kJ8_newLength_cabcc_21 hX  hw hI (lv_sub hl [1, 2] rfl) (by omega) (by omega)
    · have hw := hw.2 hc
      refine lv_iload_n hx hb dJ8_newLength_cabcc_19 rfl (lv_at hl 0 rfl) ?_
      exact j_iretz hx hb hr hlocks hI hw (by omega) (by omega) dJ8_newLength_cabcc_20
set_option maxHeartbeats 4000000 in
set_option maxRecDepth 100000 in
theorem kJ8_newLength_cabcc (l : Launch) (hfl : l.stackTraces = false) (D : jD) (z : Nat × Nat) (x0 : Int32) (x1 : Int32) (x2 : Int32) (μ : jM) (sz : Nat) (Q : Int32 → jM → Prop) : Met l yJ8_newLength_cabcc wsJ8_newLength_cabcc rmJ8_newLength_cabcc (jPre2z D z μ sz [.int x0, .int x1, .int x2] (wJ8_newLength_cabcc z x0 x1 x2 μ Q)) (jRz jfI Q D z (jA z μ sz)) 0 0 (jA z μ sz) := by
  refine Met.ofW (cc := cJ8_newLength_cabcc) (maxL := 4) (ret := (some .int)) (by decide) rfl ?_
  intro p e s m args below meth c s₁ B hml hv
  obtain ⟨rfl, hsz, hH, hz0, hK, hG, hw⟩ := hv
  subst hsz
  have hX : jX2 D z (jA z μ s.heap.size) p l s m _ meth c yJ8_newLength_cabcc cJ8_newLength_cabcc 4 wsJ8_newLength_cabcc (some .int) := ⟨B.exec, B.bytes, hml, findClass_of_methodNamed B.named, atoms_spec (ws := wsJ8_newLength_cabcc) B.pre, B.returns, B.notSynchronized, (name_of_methodNamed B.named B.method).1, hK, hG, hfl⟩
  obtain ⟨ls, hg, hl⟩ : ∃ ls : Array Slot, entryFrame m ([.int x0, .int x1, .int x2] : List Value).toArray 4 = F0 m 0 ls [] ∧ lv_has ls 4 [(0, .int x0), (1, .int x1), (2, .int x2)] := by
    exact ⟨_, lg_entry_eq .., lv_entry _ (n := 4) (Nat.le_of_ble_eq_true rfl)⟩
  rw [hg]
  exact kJ8_newLength_cabcc_0 hX hw (jIz.start hH hz0) (lv_sub hl [0, 1, 2] rfl) (by decide) (by decide)
set_option maxHeartbeats 4000000 in
set_option maxRecDepth 100000 in
theorem kJ7_copyOf_6403c_24 (hX : jX2 D z A p l s m args meth c yJ7_copyOf_6403c cJ7_copyOf_6403c 4 wsJ7_copyOf_6403c (some (.array (.object "java/lang/Object")))) {Q : Option Nat → jM → Prop}  {x0 : Option Nat} {x1 : Int32} {t0 : Option Nat} {μ : jM} {H : Heap} {locs : List Loc} {ls : Array Slot} {cells slots : Nat} (hw : wJ7_copyOf_6403c_24 z Q x0 x1 t0 μ) (hI : jIz D z A s.heap μ H locs) (hl : lv_has ls 4 [(0, va_rf x0), (1, .int x1)]) (hcn : cells + 0 ≤ 1) (hsn : slots + 0 ≤ 32) : W p l e rmJ7_copyOf_6403c s m args below meth c H locs cells slots (MQ below (jRz jfR Q D z A) args s 1 32 A) (F0 m 24 ls [va_rf t0]) := by
  unfold wJ7_copyOf_6403c_24 at hw
  obtain ⟨hx, hb, hml, hown, hts, hr, hlocks, hnm, hK, hG, hfl⟩ := id hX
  have hown : s.vm.findClass RJ7 = some m.cls := hown
  refine j_astore_n (r := t0) (lv' := [(3, va_rf t0), (0, va_rf x0), (1, .int x1)]) hx hb dJ7_copyOf_6403c_24 rfl hl (by decide) rfl (fun ls hl => ?_)
  refine j_aload_n (r := x0) hx hb dJ7_copyOf_6403c_25 rfl (lv_at hl 1 rfl) ?_
  refine lv_iconst (v := (0)) hx hb dJ7_copyOf_6403c_26 (by decide) ?_
  refine j_aload_n (r := t0) hx hb dJ7_copyOf_6403c_27 rfl (lv_at hl 0 rfl) ?_
  refine lv_iconst (v := (0)) hx hb dJ7_copyOf_6403c_28 (by decide) ?_
  refine j_aload_n (r := x0) hx hb dJ7_copyOf_6403c_29 rfl (lv_at hl 1 rfl) ?_
  obtain ⟨v1, hv1, hw⟩ := hw
  refine j_alenz (r := x0) hx hb hK hI hv1 dJ7_copyOf_6403c_30 ?_
  refine lv_iload_n hx hb dJ7_copyOf_6403c_31 rfl (lv_at hl 2 rfl) ?_
  refine va_mmin hx hb (by rw [hml]; exact hl.1.symm) hown (hts (.methodLink RJ7 304 Lib.Math.min.name) (List.mem_of_getElem? (i := 3) (by decide +kernel))) (hts (.static Lib.Math.min.name) (List.mem_of_getElem? (i := 4) (by decide +kernel))) (hts (.initialized "java/lang/Math") (List.mem_of_getElem? (i := 5) (by decide +kernel))) (hts (.code Lib.Math.min.name Lib.Math.min.code 2 (some .int)) (List.mem_of_getElem? (i := 6) (by decide +kernel))) (Nat.le_of_ble_eq_true rfl) (by simp only [List.map, List.sum_cons, List.sum_nil, jrc, jci, jcl, jcr, jcn]; exact Nat.le_of_ble_eq_true rfl) (by show _ ≤ 1; omega) (by show _ ≤ 32; omega) dJ7_copyOf_6403c_32 ?_
  obtain ⟨μ2, hμ2, hw⟩ := hw
  refine j_copyqz (r0 := x0) (r1 := t0) hx hb (by rw [hml]; exact hl.1.symm) hown (hts (.methodLink RJ7 150 arraycopyName) (List.mem_of_getElem? (i := 7) (by decide +kernel))) (hts (.native arraycopyName) (List.mem_of_getElem? (i := 8) (by decide +kernel))) (hts (.static arraycopyName) (List.mem_of_getElem? (i := 9) (by decide +kernel))) (hts (.initialized "java/lang/System") (List.mem_of_getElem? (i := 10) (by decide +kernel))) hG.2.2.2.2.2.2.1 hK hI hμ2 (Nat.le_of_ble_eq_true rfl) (by simp only [List.map, List.sum_cons, List.sum_nil, jrc, jci, jcl, jcr, jcn]; exact Nat.le_of_ble_eq_true rfl) dJ7_copyOf_6403c_35 (fun H locs hI => ?_)
  refine j_aload_n (r := t0) hx hb dJ7_copyOf_6403c_38 rfl (lv_at hl 0 rfl) ?_
  exact j_aretz (v := t0) hx hb hr (Or.inr ⟨_, rfl⟩) hlocks hI hw (by omega) (by omega) dJ7_copyOf_6403c_39
set_option maxHeartbeats 4000000 in
set_option maxRecDepth 100000 in
theorem kJ7_copyOf_6403c_0 (hX : jX2 D z A p l s m args meth c yJ7_copyOf_6403c cJ7_copyOf_6403c 4 wsJ7_copyOf_6403c (some (.array (.object "java/lang/Object")))) {Q : Option Nat → jM → Prop}  {x0 : Option Nat} {x1 : Int32} {x2 : Option Nat} {μ : jM} {H : Heap} {locs : List Loc} {ls : Array Slot} {cells slots : Nat} (hw : wJ7_copyOf_6403c_0 z Q x0 x1 x2 μ) (hI : jIz D z A s.heap μ H locs) (hl : lv_has ls 4 [(0, va_rf x0), (1, .int x1), (2, va_rf x2)]) (hcn : cells + 1 ≤ 1) (hsn : slots + 32 ≤ 32) : W p l e rmJ7_copyOf_6403c s m args below meth c H locs cells slots (MQ below (jRz jfR Q D z A) args s 1 32 A) (F0 m 0 ls []) := by
  unfold wJ7_copyOf_6403c_0 at hw
  obtain ⟨hx, hb, hml, hown, hts, hr, hlocks, hnm, hK, hG, hfl⟩ := id hX
  have hown : s.vm.findClass RJ7 = some m.cls := hown
  refine j_aload_n (r := x2) hx hb dJ7_copyOf_6403c_0 rfl (lv_at hl 2 rfl) ?_
  refine va_ldcM hx hb hown (hts (.classLink RJ7 110 "[Ljava/lang/Object;") (List.mem_of_getElem? (i := 1) (by decide +kernel))) hG.2.2.2.1 dJ7_copyOf_6403c_1 ?_
  refine W.eq (g2 := F0 m 3 ls [va_rf (some z.2), va_rf x2]) rfl ?_
  refine lv_acmp_ne (rx := x2) (ry := (some z.2)) (tgt := 13) hx hb dJ7_copyOf_6403c_3 (by decide) (fun hc => ?_) (fun hc => ?_)
  · have hw := hw.1 hc
    refine j_aload_n (r := x2) hx hb dJ7_copyOf_6403c_13 rfl (lv_at hl 2 rfl) ?_
    exact (show False from hw).elim
  · have hw := hw.2 hc
    refine lv_iload_n hx hb dJ7_copyOf_6403c_6 rfl (lv_at hl 1 rfl) ?_
    obtain ⟨N2, hN21, hN22, hN23, hw⟩ := hw
    refine W.widen (k := cells + 0) (n := slots + (32 - N2)) (by omega) (by omega) ?_
    refine j_newqz (N' := N2) hx hb hown (hts (.classLink RJ7 2 "java/lang/Object") (List.mem_of_getElem? (i := 2) (by decide +kernel))) hG.2.2.2.2.1 hK hI rfl hN22 hN21 (by omega) (by show _ ≤ 1; omega) (by show _ ≤ 32; omega) dJ7_copyOf_6403c_7 (fun q1 H hq1 hI => ?_)
    have hw := hw q1 hq1
    refine lv_goto (tgt := 24) hx hb dJ7_copyOf_6403c_10 (by decide) ?_
    exact kJ7_copyOf_6403c_24 hX  hw hI (lv_sub hl [0, 1] rfl) (by omega) (by omega)
set_option maxHeartbeats 4000000 in
set_option maxRecDepth 100000 in
theorem kJ7_copyOf_6403c (l : Launch) (hfl : l.stackTraces = false) (D : jD) (z : Nat × Nat) (x0 : Option Nat) (x1 : Int32) (x2 : Option Nat) (μ : jM) (sz : Nat) (Q : Option Nat → jM → Prop) : Met l yJ7_copyOf_6403c wsJ7_copyOf_6403c rmJ7_copyOf_6403c (jPre2z D z μ sz [va_rf x0, .int x1, va_rf x2] (wJ7_copyOf_6403c z x0 x1 x2 μ Q)) (jRz jfR Q D z (jA z μ sz)) 1 32 (jA z μ sz) := by
  refine Met.ofW (cc := cJ7_copyOf_6403c) (maxL := 4) (ret := (some (.array (.object "java/lang/Object")))) (by decide) rfl ?_
  intro p e s m args below meth c s₁ B hml hv
  obtain ⟨rfl, hsz, hH, hz0, hK, hG, hw⟩ := hv
  subst hsz
  have hX : jX2 D z (jA z μ s.heap.size) p l s m _ meth c yJ7_copyOf_6403c cJ7_copyOf_6403c 4 wsJ7_copyOf_6403c (some (.array (.object "java/lang/Object"))) := ⟨B.exec, B.bytes, hml, findClass_of_methodNamed B.named, atoms_spec (ws := wsJ7_copyOf_6403c) B.pre, B.returns, B.notSynchronized, (name_of_methodNamed B.named B.method).1, hK, hG, hfl⟩
  obtain ⟨ls, hg, hl⟩ : ∃ ls : Array Slot, entryFrame m ([va_rf x0, .int x1, va_rf x2] : List Value).toArray 4 = F0 m 0 ls [] ∧ lv_has ls 4 [(0, va_rf x0), (1, .int x1), (2, va_rf x2)] := by
    cases x0 <;> cases x2 <;> exact ⟨_, lg_entry_eq .., lv_entry _ (n := 4) (Nat.le_of_ble_eq_true rfl)⟩
  rw [hg]
  exact kJ7_copyOf_6403c_0 hX hw (jIz.start hH hz0) (lv_sub hl [0, 1, 2] rfl) (by decide) (by decide)
set_option maxHeartbeats 4000000 in
set_option maxRecDepth 100000 in
theorem kJ7_copyOf_1904c_0 (hX : jX2 D z A p l s m args meth c yJ7_copyOf_1904c cJ7_copyOf_1904c 2 wsJ7_copyOf_1904c (some (.array (.object "java/lang/Object")))) {Q : Option Nat → jM → Prop}  {x0 : Option Nat} {x1 : Int32} {μ : jM} {H : Heap} {locs : List Loc} {ls : Array Slot} {cells slots : Nat} (hw : wJ7_copyOf_1904c_0 z Q x0 x1 μ) (hI : jIz D z A s.heap μ H locs) (hl : lv_has ls 2 [(0, va_rf x0), (1, .int x1)]) (hcn : cells + 1 ≤ 1) (hsn : slots + 32 ≤ 32) : W p l e rmJ7_copyOf_1904c s m args below meth c H locs cells slots (MQ below (jRz jfR Q D z A) args s 1 32 A) (F0 m 0 ls []) := by
  unfold wJ7_copyOf_1904c_0 at hw
  obtain ⟨hx, hb, hml, hown, hts, hr, hlocks, hnm, hK, hG, hfl⟩ := id hX
  have hown : s.vm.findClass RJ7 = some m.cls := hown
  refine j_aload_n (r := x0) hx hb dJ7_copyOf_1904c_0 rfl (lv_at hl 0 rfl) ?_
  refine lv_iload_n hx hb dJ7_copyOf_1904c_1 rfl (lv_at hl 1 rfl) ?_
  refine j_aload_n (r := x0) hx hb dJ7_copyOf_1904c_2 rfl (lv_at hl 0 rfl) ?_
  obtain ⟨hgc, hw⟩ := hw
  refine j_getCz (r := x0) hx hb (by rw [hml]; exact hl.1.symm) hown (hts (.methodLink RJ7 86 ⟨"java/lang/Object", "getClass", "()Ljava/lang/Class;"⟩) (List.mem_of_getElem? (i := 1) (by decide +kernel))) (hts (.selects "[Ljava/lang/Object;" ⟨"java/lang/Object", "getClass", "()Ljava/lang/Class;"⟩ ⟨"java/lang/Object", "getClass", "()Ljava/lang/Class;"⟩) (List.mem_of_getElem? (i := 2) (by decide +kernel))) (hts (.instanceMethod ⟨"java/lang/Object", "getClass", "()Ljava/lang/Class;"⟩) (List.mem_of_getElem? (i := 3) (by decide +kernel))) (hts (.native ⟨"java/lang/Object", "getClass", "()Ljava/lang/Class;"⟩) (List.mem_of_getElem? (i := 4) (by decide +kernel))) hG hK hI hgc (Nat.le_of_ble_eq_true rfl) (by simp only [List.map, List.sum_cons, List.sum_nil, jrc, jci, jcl, jcr, jcn]; exact Nat.le_of_ble_eq_true rfl) dJ7_copyOf_1904c_3 ?_
  refine j_goz hI (va_runS (As := [va_rf x0, .int x1, va_rf (some z.2)]) (rest := []) ⟨hx, hb, hml, hown, hts⟩ (kJ7_copyOf_6403c l hfl D z x0 x1 (some z.2) μ H.size _) (va_cwS 3 hts gJ7_copyOf_1904c_J7_copyOf_6403c rfl rfl rfl (by decide +kernel) ⟨Nat.le_of_ble_eq_true rfl, Nat.le_of_ble_eq_true rfl⟩) (j_prS2z hK hG hI hw) rfl rfl hl.1 rfl (lv_room (Nat.le_of_ble_eq_true rfl)) dJ7_copyOf_1904c_6 ⟨by show _ ≤ 1; omega, by show _ ≤ 32; omega⟩) (fun v1 μ2 H locs hw hI => ?_)
  refine W.eq (g2 := F0 m 9 ls [va_rf v1]) rfl ?_
  exact j_aretz (v := v1) hx hb hr (Or.inr ⟨_, rfl⟩) hlocks hI hw (by omega) (by omega) dJ7_copyOf_1904c_9
set_option maxHeartbeats 4000000 in
set_option maxRecDepth 100000 in
theorem kJ7_copyOf_1904c (l : Launch) (hfl : l.stackTraces = false) (D : jD) (z : Nat × Nat) (x0 : Option Nat) (x1 : Int32) (μ : jM) (sz : Nat) (Q : Option Nat → jM → Prop) : Met l yJ7_copyOf_1904c wsJ7_copyOf_1904c rmJ7_copyOf_1904c (jPre2z D z μ sz [va_rf x0, .int x1] (wJ7_copyOf_1904c z x0 x1 μ Q)) (jRz jfR Q D z (jA z μ sz)) 1 32 (jA z μ sz) := by
  refine Met.ofW (cc := cJ7_copyOf_1904c) (maxL := 2) (ret := (some (.array (.object "java/lang/Object")))) (by decide) rfl ?_
  intro p e s m args below meth c s₁ B hml hv
  obtain ⟨rfl, hsz, hH, hz0, hK, hG, hw⟩ := hv
  subst hsz
  have hX : jX2 D z (jA z μ s.heap.size) p l s m _ meth c yJ7_copyOf_1904c cJ7_copyOf_1904c 2 wsJ7_copyOf_1904c (some (.array (.object "java/lang/Object"))) := ⟨B.exec, B.bytes, hml, findClass_of_methodNamed B.named, atoms_spec (ws := wsJ7_copyOf_1904c) B.pre, B.returns, B.notSynchronized, (name_of_methodNamed B.named B.method).1, hK, hG, hfl⟩
  obtain ⟨ls, hg, hl⟩ : ∃ ls : Array Slot, entryFrame m ([va_rf x0, .int x1] : List Value).toArray 2 = F0 m 0 ls [] ∧ lv_has ls 2 [(0, va_rf x0), (1, .int x1)] := by
    cases x0 <;> exact ⟨_, lg_entry_eq .., lv_entry _ (n := 2) (Nat.le_of_ble_eq_true rfl)⟩
  rw [hg]
  exact kJ7_copyOf_1904c_0 hX hw (jIz.start hH hz0) (lv_sub hl [0, 1] rfl) (by decide) (by decide)
set_option maxHeartbeats 4000000 in
set_option maxRecDepth 100000 in
theorem kJx4a65c_grow_92f84_20 {b : Nat} (hX : jX2 D z A p l s m args meth c yJx4a65c_grow_92f84 cJx4a65c_grow_92f84 4 wsJx4a65c_grow_92f84 (some (.array (.object "java/lang/Object")))) {Q : Option Nat → jM → Prop}  {x1 : Int32} {x2 : Int32} {μ : jM} {H : Heap} {locs : List Loc} {ls : Array Slot} {cells slots : Nat} (hw : wJx4a65c_grow_92f84_20 z b Q x1 x2 μ) (hI : jIz D z A s.heap μ H locs) (hl : lv_has ls 4 [(0, va_rf (some b)), (1, .int x1), (2, .int x2)]) (hcn : cells + 1 ≤ 1) (hsn : slots + 32 ≤ 32) : W p l e rmJx4a65c_grow_92f84 s m args below meth c H locs cells slots (MQ below (jRz jfR Q D z A) args s 1 32 A) (F0 m 20 ls []) := by
  unfold wJx4a65c_grow_92f84_20 at hw
  obtain ⟨hx, hb, hml, hown, hts, hr, hlocks, hnm, hK, hG, hfl⟩ := id hX
  have hown : s.vm.findClass RJx4a65c = some m.cls := hown
  have hfJx4a65c : ∀ w ∈ wsJx4a65c0, w.before args s = true := fun w h => hts w (List.mem_cons_of_mem _ (List.mem_append_right _ h))
  refine lv_iload_n hx hb dJx4a65c_grow_92f84_20 rfl (lv_at hl 2 rfl) ?_
  refine lv_iload_n hx hb dJx4a65c_grow_92f84_21 rfl (lv_at hl 1 rfl) ?_
  refine lv_iload_n hx hb dJx4a65c_grow_92f84_22 rfl (lv_at hl 2 rfl) ?_
  refine lv_isub hx hb dJx4a65c_grow_92f84_23 ?_
  refine lv_iload_n hx hb dJx4a65c_grow_92f84_24 rfl (lv_at hl 2 rfl) ?_
  refine lv_iconst (v := (1)) hx hb dJx4a65c_grow_92f84_25 (by decide) ?_
  refine lv_ishr hx hb dJx4a65c_grow_92f84_26 ?_
  refine j_goz hI (va_runS (As := [.int x2, .int (x1 - x2), .int (x2 >>> ((1 : Int32) &&& 31))]) (rest := []) ⟨hx, hb, hml, hown, hts⟩ (kJ8_newLength_cabcc l hfl D z x2 (x1 - x2) (x2 >>> ((1 : Int32) &&& 31)) μ H.size _) (va_cwS 3 hts gJx4a65c_grow_92f84_J8_newLength_cabcc rfl rfl rfl (by decide +kernel) ⟨Nat.le_of_ble_eq_true rfl, Nat.le_of_ble_eq_true rfl⟩) (j_prS2z hK hG hI hw) rfl rfl hl.1 rfl (lv_room (Nat.le_of_ble_eq_true rfl)) dJx4a65c_grow_92f84_27 ⟨by show _ ≤ 1; omega, by show _ ≤ 32; omega⟩) (fun v1 μ2 H locs hw hI => ?_)
  refine W.eq (g2 := F0 m 30 ls [.int v1]) rfl ?_
  refine lv_istore_n (lv' := [(3, .int v1), (0, va_rf (some b)), (1, .int x1), (2, .int x2)]) hx hb dJx4a65c_grow_92f84_30 rfl hl (by decide) rfl (fun ls hl => ?_)
  refine j_aload_n (r := (some b)) hx hb dJx4a65c_grow_92f84_31 rfl (lv_at hl 1 rfl) ?_
  refine j_aload_n (r := (some b)) hx hb dJx4a65c_grow_92f84_32 rfl (lv_at hl 1 rfl) ?_
  obtain ⟨v3, hv3, hw⟩ := hw
  refine j_getz (C := RJx4a65c) (T := TJx4a65c) (N := 3) (ci := 2) (r := (some b)) (v := va_rf v3) hx hb hfJx4a65c hown hK hI rfl 1 (by decide) (hts (.fieldLink RJx4a65c 9 "java/util/ArrayList" "elementData" "[Ljava/lang/Object;") (List.mem_of_getElem? (i := 1) (by decide +kernel))) (fun _ h => h) hv3 dJx4a65c_grow_92f84_33 ?_
  refine lv_iload_n hx hb dJx4a65c_grow_92f84_36 rfl (lv_at hl 0 rfl) ?_
  refine j_goz hI (va_runS (As := [va_rf v3, .int v1]) (rest := [va_rf (some b)]) ⟨hx, hb, hml, hown, hts⟩ (kJ7_copyOf_1904c l hfl D z v3 v1 μ2 H.size _) (va_cwS 2 hts gJx4a65c_grow_92f84_J7_copyOf_1904c rfl rfl rfl (by decide +kernel) ⟨Nat.le_of_ble_eq_true rfl, Nat.le_of_ble_eq_true rfl⟩) (j_prS2z hK hG hI hw) rfl rfl hl.1 rfl (lv_room (Nat.le_of_ble_eq_true rfl)) dJx4a65c_grow_92f84_37 ⟨by show _ ≤ 1; omega, by show _ ≤ 32; omega⟩) (fun v4 μ5 H locs hw hI => ?_)
  refine W.eq (g2 := F0 m 40 ls [va_rf v4, va_rf (some b)]) rfl ?_
  refine lv_dup_x1 hx hb dJx4a65c_grow_92f84_40 (jrc v4) rfl ?_
  obtain ⟨μ6, hμ6, hw⟩ := hw
  refine j_putz (C := RJx4a65c) (T := TJx4a65c) (N := 3) (ci := 2) (r := (some b)) (v := va_rf v4) hx hb hfJx4a65c tyJx4a65c tyJx4a65c_ok nmJx4a65c hown hK hI rfl 1 (by decide) (hts (.fieldLink RJx4a65c 9 "java/util/ArrayList" "elementData" "[Ljava/lang/Object;") (List.mem_of_getElem? (i := 1) (by decide +kernel))) (fun _ h => h) rfl (tyJx4a65c_ok 1 (by decide)) (jnra _ v4) (jfra _ v4) hμ6 dJx4a65c_grow_92f84_41 (fun H locs hI => ?_)
  exact j_aretz (v := v4) hx hb hr (Or.inr ⟨_, rfl⟩) hlocks hI hw (by omega) (by omega) dJx4a65c_grow_92f84_44
set_option maxHeartbeats 4000000 in
set_option maxRecDepth 100000 in
theorem kJx4a65c_grow_92f84_0 {b : Nat} (hX : jX2 D z A p l s m args meth c yJx4a65c_grow_92f84 cJx4a65c_grow_92f84 4 wsJx4a65c_grow_92f84 (some (.array (.object "java/lang/Object")))) {Q : Option Nat → jM → Prop}  {x1 : Int32} {μ : jM} {H : Heap} {locs : List Loc} {ls : Array Slot} {cells slots : Nat} (hw : wJx4a65c_grow_92f84_0 z b Q x1 μ) (hI : jIz D z A s.heap μ H locs) (hl : lv_has ls 4 [(0, va_rf (some b)), (1, .int x1)]) (hcn : cells + 1 ≤ 1) (hsn : slots + 32 ≤ 32) : W p l e rmJx4a65c_grow_92f84 s m args below meth c H locs cells slots (MQ below (jRz jfR Q D z A) args s 1 32 A) (F0 m 0 ls []) := by
  unfold wJx4a65c_grow_92f84_0 at hw
  obtain ⟨hx, hb, hml, hown, hts, hr, hlocks, hnm, hK, hG, hfl⟩ := id hX
  have hown : s.vm.findClass RJx4a65c = some m.cls := hown
  have hfJx4a65c : ∀ w ∈ wsJx4a65c0, w.before args s = true := fun w h => hts w (List.mem_cons_of_mem _ (List.mem_append_right _ h))
  refine j_aload_n (r := (some b)) hx hb dJx4a65c_grow_92f84_0 rfl (lv_at hl 0 rfl) ?_
  obtain ⟨v1, hv1, hw⟩ := hw
  refine j_getz (C := RJx4a65c) (T := TJx4a65c) (N := 3) (ci := 2) (r := (some b)) (v := va_rf v1) hx hb hfJx4a65c hown hK hI rfl 1 (by decide) (hts (.fieldLink RJx4a65c 9 "java/util/ArrayList" "elementData" "[Ljava/lang/Object;") (List.mem_of_getElem? (i := 1) (by decide +kernel))) (fun _ h => h) hv1 dJx4a65c_grow_92f84_1 ?_
  obtain ⟨v2, hv2, hw⟩ := hw
  refine j_alenz (r := v1) hx hb hK hI hv2 dJx4a65c_grow_92f84_4 ?_
  refine lv_topi (fun v3 ev3 => ?_)
  have hw := hw v3 ev3
  refine lv_istore_n (lv' := [(2, .int v3), (0, va_rf (some b)), (1, .int x1)]) hx hb dJx4a65c_grow_92f84_5 rfl hl (by decide) rfl (fun ls hl => ?_)
  refine lv_iload_n hx hb dJx4a65c_grow_92f84_6 rfl (lv_at hl 0 rfl) ?_
  refine lv_if_gt (tgt := 20) hx hb dJx4a65c_grow_92f84_7 (by decide) (fun hc => ?_) (fun hc => ?_)
  · have hw := hw.1 hc
    exact kJx4a65c_grow_92f84_20 hX  hw hI (lv_sub hl [1, 2, 0] rfl) (by omega) (by omega)
  · have hw := hw.2 hc
    refine j_aload_n (r := (some b)) hx hb dJx4a65c_grow_92f84_10 rfl (lv_at hl 1 rfl) ?_
    obtain ⟨v4, hv4, hw⟩ := hw
    refine j_getz (C := RJx4a65c) (T := TJx4a65c) (N := 3) (ci := 2) (r := (some b)) (v := va_rf v4) hx hb hfJx4a65c hown hK hI rfl 1 (by decide) (hts (.fieldLink RJx4a65c 9 "java/util/ArrayList" "elementData" "[Ljava/lang/Object;") (List.mem_of_getElem? (i := 1) (by decide +kernel))) (fun _ h => h) hv4 dJx4a65c_grow_92f84_11 ?_
    refine va_gets hx hb hG.1 hI.2.2.1 hown (hts (.fieldLink RJx4a65c 39 "java/util/ArrayList" "DEFAULTCAPACITY_EMPTY_ELEMENTDATA" "[Ljava/lang/Object;") (List.mem_of_getElem? (i := 2) (by decide +kernel))) (fun _ h => h) dJx4a65c_grow_92f84_14 ?_
    refine W.eq (g2 := F0 m 17 ls [va_rf (some z.1), va_rf v4]) rfl ?_
    refine lv_acmp_eq (rx := v4) (ry := (some z.1)) (tgt := 45) hx hb dJx4a65c_grow_92f84_17 (by decide) (fun hc => ?_) (fun hc => ?_)
    · have hw := hw.1 hc
      refine j_aload_n (r := (some b)) hx hb dJx4a65c_grow_92f84_45 rfl (lv_at hl 1 rfl) ?_
      refine lv_bipush (v := (10)) hx hb dJx4a65c_grow_92f84_46 (by decide) ?_
      refine lv_iload_n hx hb dJx4a65c_grow_92f84_48 rfl (lv_at hl 2 rfl) ?_
      refine va_mmax hx hb (by rw [hml]; exact hl.1.symm) hown (hts (.methodLink RJx4a65c 79 Lib.Math.max.name) (List.mem_of_getElem? (i := 3) (by decide +kernel))) (hts (.static Lib.Math.max.name) (List.mem_of_getElem? (i := 4) (by decide +kernel))) (hts (.initialized "java/lang/Math") (List.mem_of_getElem? (i := 5) (by decide +kernel))) (hts (.code Lib.Math.max.name Lib.Math.max.code 2 (some .int)) (List.mem_of_getElem? (i := 6) (by decide +kernel))) (Nat.le_of_ble_eq_true rfl) (Nat.le_of_ble_eq_true rfl) (by show _ ≤ 1; omega) (by show _ ≤ 32; omega) dJx4a65c_grow_92f84_49 ?_
      obtain ⟨N6, hN61, hN62, hN63, hw⟩ := hw
      refine W.widen (k := cells + 0) (n := slots + (32 - N6)) (by omega) (by omega) ?_
      refine j_newqz (N' := N6) hx hb hown (hts (.classLink RJx4a65c 7 "java/lang/Object") (List.mem_of_getElem? (i := 7) (by decide +kernel))) hG.2.2.2.2.1 hK hI rfl hN62 hN61 (by omega) (by show _ ≤ 1; omega) (by show _ ≤ 32; omega) dJx4a65c_grow_92f84_52 (fun q5 H hq5 hI => ?_)
      have hw := hw q5 hq5
      refine lv_dup_x1 hx hb dJx4a65c_grow_92f84_55 rfl rfl ?_
      obtain ⟨μ7, hμ7, hw⟩ := hw
      refine j_putz (C := RJx4a65c) (T := TJx4a65c) (N := 3) (ci := 2) (r := (some b)) (v := va_rf (some q5)) hx hb hfJx4a65c tyJx4a65c tyJx4a65c_ok nmJx4a65c hown hK hI rfl 1 (by decide) (hts (.fieldLink RJx4a65c 9 "java/util/ArrayList" "elementData" "[Ljava/lang/Object;") (List.mem_of_getElem? (i := 1) (by decide +kernel))) (fun _ h => h) rfl (tyJx4a65c_ok 1 (by decide)) (jnra _ (some q5)) (jfra _ (some q5)) hμ7 dJx4a65c_grow_92f84_56 (fun H locs hI => ?_)
      exact j_aretz (v := (some q5)) hx hb hr (Or.inr ⟨_, rfl⟩) hlocks hI hw (by omega) (by omega) dJx4a65c_grow_92f84_59
    · have hw := hw.2 hc
      exact kJx4a65c_grow_92f84_20 hX  hw hI (lv_sub hl [1, 2, 0] rfl) (by omega) (by omega)
set_option maxHeartbeats 4000000 in
set_option maxRecDepth 100000 in
theorem kJx4a65c_grow_92f84 (l : Launch) (hfl : l.stackTraces = false) (D : jD) (z : Nat × Nat) (b : Nat) (x1 : Int32) (μ : jM) (sz : Nat) (Q : Option Nat → jM → Prop) : Met l yJx4a65c_grow_92f84 wsJx4a65c_grow_92f84 rmJx4a65c_grow_92f84 (jPre2z D z μ sz [.ref b, .int x1] (wJx4a65c_grow_92f84 z b x1 μ Q)) (jRz jfR Q D z (jA z μ sz)) 1 32 (jA z μ sz) := by
  refine Met.ofW (cc := cJx4a65c_grow_92f84) (maxL := 4) (ret := (some (.array (.object "java/lang/Object")))) (by decide) rfl ?_
  intro p e s m args below meth c s₁ B hml hv
  obtain ⟨rfl, hsz, hH, hz0, hK, hG, hw⟩ := hv
  subst hsz
  have hX : jX2 D z (jA z μ s.heap.size) p l s m _ meth c yJx4a65c_grow_92f84 cJx4a65c_grow_92f84 4 wsJx4a65c_grow_92f84 (some (.array (.object "java/lang/Object"))) := ⟨B.exec, B.bytes, hml, findClass_of_methodNamed B.named, atoms_spec (ws := wsJx4a65c_grow_92f84) B.pre, B.returns, B.notSynchronized, (name_of_methodNamed B.named B.method).1, hK, hG, hfl⟩
  obtain ⟨ls, hg, hl⟩ : ∃ ls : Array Slot, entryFrame m ([.ref b, .int x1] : List Value).toArray 4 = F0 m 0 ls [] ∧ lv_has ls 4 [(0, va_rf (some b)), (1, .int x1)] := by
    exact ⟨_, lg_entry_eq .., lv_entry _ (n := 4) (Nat.le_of_ble_eq_true rfl)⟩
  rw [hg]
  exact kJx4a65c_grow_92f84_0 hX hw (jIz.start hH hz0) (lv_sub hl [0, 1] rfl) (by decide) (by decide)
set_option maxHeartbeats 4000000 in
set_option maxRecDepth 100000 in
theorem kJx4a65c_grow_d5877_0 {b : Nat} (hX : jX2 D z A p l s m args meth c yJx4a65c_grow_d5877 cJx4a65c_grow_d5877 1 wsJx4a65c_grow_d5877 (some (.array (.object "java/lang/Object")))) {Q : Option Nat → jM → Prop}   {μ : jM} {H : Heap} {locs : List Loc} {ls : Array Slot} {cells slots : Nat} (hw : wJx4a65c_grow_d5877_0 z b Q  μ) (hI : jIz D z A s.heap μ H locs) (hl : lv_has ls 1 [(0, va_rf (some b))]) (hcn : cells + 1 ≤ 1) (hsn : slots + 32 ≤ 32) : W p l e rmJx4a65c_grow_d5877 s m args below meth c H locs cells slots (MQ below (jRz jfR Q D z A) args s 1 32 A) (F0 m 0 ls []) := by
  unfold wJx4a65c_grow_d5877_0 at hw
  obtain ⟨hx, hb, hml, hown, hts, hr, hlocks, hnm, hK, hG, hfl⟩ := id hX
  have hown : s.vm.findClass RJx4a65c = some m.cls := hown
  have hfJx4a65c : ∀ w ∈ wsJx4a65c0, w.before args s = true := fun w h => hts w (List.mem_cons_of_mem _ (List.mem_append_right _ h))
  refine j_aload_n (r := (some b)) hx hb dJx4a65c_grow_d5877_0 rfl (lv_at hl 0 rfl) ?_
  refine j_aload_n (r := (some b)) hx hb dJx4a65c_grow_d5877_1 rfl (lv_at hl 0 rfl) ?_
  obtain ⟨v1, hv1, hw⟩ := hw
  refine j_getz (C := RJx4a65c) (T := TJx4a65c) (N := 3) (ci := 2) (r := (some b)) (v := .int v1) hx hb hfJx4a65c hown hK hI rfl 2 (by decide) (hts (.fieldLink RJx4a65c 48 "java/util/ArrayList" "size" "I") (List.mem_of_getElem? (i := 1) (by decide +kernel))) (fun _ h => h) hv1 dJx4a65c_grow_d5877_2 ?_
  refine lv_iconst (v := (1)) hx hb dJx4a65c_grow_d5877_5 (by decide) ?_
  refine lv_iadd hx hb dJx4a65c_grow_d5877_6 ?_
  obtain ⟨hfs, hw⟩ := hw
  refine j_goz hI (va_runV (As := [.int (v1 + (1 : Int32))]) (rest := []) ⟨hx, hb, hml, hown, hts⟩ (kJx4a65c_grow_92f84 l hfl D z b (v1 + (1 : Int32)) μ H.size _) (cwV 1 hts gJx4a65c_grow_d5877_Jx4a65c_grow_92f84 rfl rfl rfl (by decide +kernel) ⟨Nat.le_of_ble_eq_true rfl, Nat.le_of_ble_eq_true rfl⟩) (j_prV2z hK hG hI hw (ci := 2) rfl hfs) rfl rfl hl.1 rfl (lv_room (Nat.le_of_ble_eq_true rfl)) dJx4a65c_grow_d5877_7 ⟨by show _ ≤ 1; omega, by show _ ≤ 32; omega⟩) (fun v2 μ3 H locs hw hI => ?_)
  refine W.eq (g2 := F0 m 10 ls [va_rf v2]) rfl ?_
  exact j_aretz (v := v2) hx hb hr (Or.inr ⟨_, rfl⟩) hlocks hI hw (by omega) (by omega) dJx4a65c_grow_d5877_10
set_option maxHeartbeats 4000000 in
set_option maxRecDepth 100000 in
theorem kJx4a65c_grow_d5877 (l : Launch) (hfl : l.stackTraces = false) (D : jD) (z : Nat × Nat) (b : Nat)  (μ : jM) (sz : Nat) (Q : Option Nat → jM → Prop) : Met l yJx4a65c_grow_d5877 wsJx4a65c_grow_d5877 rmJx4a65c_grow_d5877 (jPre2z D z μ sz [.ref b] (wJx4a65c_grow_d5877 z b  μ Q)) (jRz jfR Q D z (jA z μ sz)) 1 32 (jA z μ sz) := by
  refine Met.ofW (cc := cJx4a65c_grow_d5877) (maxL := 1) (ret := (some (.array (.object "java/lang/Object")))) (by decide) rfl ?_
  intro p e s m args below meth c s₁ B hml hv
  obtain ⟨rfl, hsz, hH, hz0, hK, hG, hw⟩ := hv
  subst hsz
  have hX : jX2 D z (jA z μ s.heap.size) p l s m _ meth c yJx4a65c_grow_d5877 cJx4a65c_grow_d5877 1 wsJx4a65c_grow_d5877 (some (.array (.object "java/lang/Object"))) := ⟨B.exec, B.bytes, hml, findClass_of_methodNamed B.named, atoms_spec (ws := wsJx4a65c_grow_d5877) B.pre, B.returns, B.notSynchronized, (name_of_methodNamed B.named B.method).1, hK, hG, hfl⟩
  obtain ⟨ls, hg, hl⟩ : ∃ ls : Array Slot, entryFrame m ([.ref b] : List Value).toArray 1 = F0 m 0 ls [] ∧ lv_has ls 1 [(0, va_rf (some b))] := by
    exact ⟨_, lg_entry_eq .., lv_entry _ (n := 1) (Nat.le_of_ble_eq_true rfl)⟩
  rw [hg]
  exact kJx4a65c_grow_d5877_0 hX hw (jIz.start hH hz0) (lv_sub hl [0] rfl) (by decide) (by decide)
set_option maxHeartbeats 4000000 in
set_option maxRecDepth 100000 in
theorem kJx4a65c_add_72be8_11 {b : Nat} (hX : jX2 D z A p l s m args meth c yJx4a65c_add_72be8 cJx4a65c_add_72be8 4 wsJx4a65c_add_72be8 none) {Q : Unit → jM → Prop}  {x1 : Option Nat} {x2 : Option Nat} {x3 : Int32} {μ : jM} {H : Heap} {locs : List Loc} {ls : Array Slot} {cells slots : Nat} (hw : wJx4a65c_add_72be8_11 z b Q x1 x2 x3 μ) (hI : jIz D z A s.heap μ H locs) (hl : lv_has ls 4 [(0, va_rf (some b)), (1, va_rf x1), (2, va_rf x2), (3, .int x3)]) (hcn : cells + 0 ≤ 1) (hsn : slots + 0 ≤ 32) : W p l e rmJx4a65c_add_72be8 s m args below meth c H locs cells slots (MQ below (jRz jfV Q D z A) args s 1 32 A) (F0 m 11 ls []) := by
  unfold wJx4a65c_add_72be8_11 at hw
  obtain ⟨hx, hb, hml, hown, hts, hr, hlocks, hnm, hK, hG, hfl⟩ := id hX
  have hown : s.vm.findClass RJx4a65c = some m.cls := hown
  have hfJx4a65c : ∀ w ∈ wsJx4a65c0, w.before args s = true := fun w h => hts w (List.mem_cons_of_mem _ (List.mem_append_right _ h))
  refine j_aload_n (r := x2) hx hb dJx4a65c_add_72be8_11 rfl (lv_at hl 2 rfl) ?_
  refine lv_iload_n hx hb dJx4a65c_add_72be8_12 rfl (lv_at hl 3 rfl) ?_
  refine j_aload_n (r := x1) hx hb dJx4a65c_add_72be8_13 rfl (lv_at hl 1 rfl) ?_
  obtain ⟨hμ1o, μ1, hμ1, hw⟩ := hw
  refine j_aastz (r := x2) (x := x1) hx hb hK hI hG.2.2.2.2.2.2.1 hμ1 hμ1o dJx4a65c_add_72be8_14 (fun H locs hI => ?_)
  refine j_aload_n (r := (some b)) hx hb dJx4a65c_add_72be8_15 rfl (lv_at hl 0 rfl) ?_
  refine lv_iload_n hx hb dJx4a65c_add_72be8_16 rfl (lv_at hl 3 rfl) ?_
  refine lv_iconst (v := (1)) hx hb dJx4a65c_add_72be8_17 (by decide) ?_
  refine lv_iadd hx hb dJx4a65c_add_72be8_18 ?_
  obtain ⟨μ2, hμ2, hw⟩ := hw
  refine j_putz (C := RJx4a65c) (T := TJx4a65c) (N := 3) (ci := 2) (r := (some b)) (v := .int (x3 + (1 : Int32))) hx hb hfJx4a65c tyJx4a65c tyJx4a65c_ok nmJx4a65c hown hK hI rfl 2 (by decide) (hts (.fieldLink RJx4a65c 48 "java/util/ArrayList" "size" "I") (List.mem_of_getElem? (i := 1) (by decide +kernel))) (fun _ h => h) rfl (tyJx4a65c_ok 2 (by decide)) rfl rfl hμ2 dJx4a65c_add_72be8_19 (fun H locs hI => ?_)
  exact j_vretz hx hb hr hlocks hI hw (by omega) (by omega) dJx4a65c_add_72be8_22
set_option maxHeartbeats 4000000 in
set_option maxRecDepth 100000 in
theorem kJx4a65c_add_72be8_0 {b : Nat} (hX : jX2 D z A p l s m args meth c yJx4a65c_add_72be8 cJx4a65c_add_72be8 4 wsJx4a65c_add_72be8 none) {Q : Unit → jM → Prop}  {x1 : Option Nat} {x2 : Option Nat} {x3 : Int32} {μ : jM} {H : Heap} {locs : List Loc} {ls : Array Slot} {cells slots : Nat} (hw : wJx4a65c_add_72be8_0 z b Q x1 x2 x3 μ) (hI : jIz D z A s.heap μ H locs) (hl : lv_has ls 4 [(0, va_rf (some b)), (1, va_rf x1), (2, va_rf x2), (3, .int x3)]) (hcn : cells + 1 ≤ 1) (hsn : slots + 32 ≤ 32) : W p l e rmJx4a65c_add_72be8 s m args below meth c H locs cells slots (MQ below (jRz jfV Q D z A) args s 1 32 A) (F0 m 0 ls []) := by
  unfold wJx4a65c_add_72be8_0 at hw
  obtain ⟨hx, hb, hml, hown, hts, hr, hlocks, hnm, hK, hG, hfl⟩ := id hX
  have hown : s.vm.findClass RJx4a65c = some m.cls := hown
  refine lv_iload_n hx hb dJx4a65c_add_72be8_0 rfl (lv_at hl 3 rfl) ?_
  refine j_aload_n (r := x2) hx hb dJx4a65c_add_72be8_1 rfl (lv_at hl 2 rfl) ?_
  obtain ⟨v1, hv1, hw⟩ := hw
  refine j_alenz (r := x2) hx hb hK hI hv1 dJx4a65c_add_72be8_2 ?_
  refine lv_icmp_ne (tgt := 11) hx hb dJx4a65c_add_72be8_3 (by decide) (fun hc => ?_) (fun hc => ?_)
  · have hw := hw.1 hc
    exact kJx4a65c_add_72be8_11 hX  hw hI (lv_sub hl [0, 1, 2, 3] rfl) (by omega) (by omega)
  · have hw := hw.2 hc
    refine j_aload_n (r := (some b)) hx hb dJx4a65c_add_72be8_6 rfl (lv_at hl 0 rfl) ?_
    obtain ⟨hfs, hw⟩ := hw
    refine j_goz hI (va_runV (As := []) (rest := []) ⟨hx, hb, hml, hown, hts⟩ (kJx4a65c_grow_d5877 l hfl D z b  μ H.size _) (cwV 0 hts gJx4a65c_add_72be8_Jx4a65c_grow_d5877 rfl rfl rfl (by decide +kernel) ⟨Nat.le_of_ble_eq_true rfl, Nat.le_of_ble_eq_true rfl⟩) (j_prV2z hK hG hI hw (ci := 2) rfl hfs) rfl rfl hl.1 rfl (lv_room (Nat.le_of_ble_eq_true rfl)) dJx4a65c_add_72be8_7 ⟨by show _ ≤ 1; omega, by show _ ≤ 32; omega⟩) (fun v2 μ3 H locs hw hI => ?_)
    refine W.eq (g2 := F0 m 10 ls [va_rf v2]) rfl ?_
    refine j_astore_nA (r := x1) (r0 := v2) (F := fun w => [(0, va_rf (some b)), (1, w), (2, va_rf x2), (3, .int x3)]) (F2 := fun w => [(2, va_rf v2), (0, va_rf (some b)), (1, w), (3, .int x3)]) hx hb dJx4a65c_add_72be8_10 rfl hl (by decide) (fun w hw => by rcases hw with rfl | ⟨_, rfl⟩ <;> rfl) (fun ls hl => ?_)
    exact kJx4a65c_add_72be8_11 hX  hw hI (lv_sub hl [1, 2, 0, 3] rfl) (by omega) (by omega)
set_option maxHeartbeats 4000000 in
set_option maxRecDepth 100000 in
theorem kJx4a65c_add_72be8 (l : Launch) (hfl : l.stackTraces = false) (D : jD) (z : Nat × Nat) (b : Nat) (x1 : Option Nat) (x2 : Option Nat) (x3 : Int32) (μ : jM) (sz : Nat) (Q : Unit → jM → Prop) : Met l yJx4a65c_add_72be8 wsJx4a65c_add_72be8 rmJx4a65c_add_72be8 (jPre2z D z μ sz [.ref b, va_rf x1, va_rf x2, .int x3] (wJx4a65c_add_72be8 z b x1 x2 x3 μ Q)) (jRz jfV Q D z (jA z μ sz)) 1 32 (jA z μ sz) := by
  refine Met.ofW (cc := cJx4a65c_add_72be8) (maxL := 4) (ret := none) (by decide) rfl ?_
  intro p e s m args below meth c s₁ B hml hv
  obtain ⟨rfl, hsz, hH, hz0, hK, hG, hw⟩ := hv
  subst hsz
  have hX : jX2 D z (jA z μ s.heap.size) p l s m _ meth c yJx4a65c_add_72be8 cJx4a65c_add_72be8 4 wsJx4a65c_add_72be8 none := ⟨B.exec, B.bytes, hml, findClass_of_methodNamed B.named, atoms_spec (ws := wsJx4a65c_add_72be8) B.pre, B.returns, B.notSynchronized, (name_of_methodNamed B.named B.method).1, hK, hG, hfl⟩
  obtain ⟨ls, hg, hl⟩ : ∃ ls : Array Slot, entryFrame m ([.ref b, va_rf x1, va_rf x2, .int x3] : List Value).toArray 4 = F0 m 0 ls [] ∧ lv_has ls 4 [(0, va_rf (some b)), (1, va_rf x1), (2, va_rf x2), (3, .int x3)] := by
    cases x1 <;> cases x2 <;> exact ⟨_, lg_entry_eq .., lv_entry _ (n := 4) (Nat.le_of_ble_eq_true rfl)⟩
  rw [hg]
  exact kJx4a65c_add_72be8_0 hX hw (jIz.start hH hz0) (lv_sub hl [0, 1, 2, 3] rfl) (by decide) (by decide)
set_option maxHeartbeats 4000000 in
set_option maxRecDepth 100000 in
theorem kJx4a65c_add_9ea2d_0 {b : Nat} (hX : jX2 D z A p l s m args meth c yJx4a65c_add_9ea2d cJx4a65c_add_9ea2d 2 wsJx4a65c_add_9ea2d (some .boolean)) {Q : Int32 → jM → Prop}  {x1 : Option Nat} {μ : jM} {H : Heap} {locs : List Loc} {ls : Array Slot} {cells slots : Nat} (hw : wJx4a65c_add_9ea2d_0 z b Q x1 μ) (hI : jIz D z A s.heap μ H locs) (hl : lv_has ls 2 [(0, va_rf (some b)), (1, va_rf x1)]) (hcn : cells + 1 ≤ 1) (hsn : slots + 32 ≤ 32) : W p l e rmJx4a65c_add_9ea2d s m args below meth c H locs cells slots (MQ below (jRz jfI Q D z A) args s 1 32 A) (F0 m 0 ls []) := by
  unfold wJx4a65c_add_9ea2d_0 at hw
  obtain ⟨hx, hb, hml, hown, hts, hr, hlocks, hnm, hK, hG, hfl⟩ := id hX
  have hown : s.vm.findClass RJx4a65c = some m.cls := hown
  have hfJx4a65c : ∀ w ∈ wsJx4a65c0, w.before args s = true := fun w h => hts w (List.mem_cons_of_mem _ (List.mem_append_right _ h))
  refine j_aload_n (r := (some b)) hx hb dJx4a65c_add_9ea2d_0 rfl (lv_at hl 0 rfl) ?_
  refine lv_dup hx hb dJx4a65c_add_9ea2d_1 rfl ?_
  obtain ⟨v1, hv1, hw⟩ := hw
  refine j_getz (C := RJx4a65c) (T := TJx4a65c) (N := 3) (ci := 2) (r := (some b)) (v := .int v1) hx hb hfJx4a65c hown hK hI rfl 0 (by decide) (hts (.fieldLink RJx4a65c 63 "java/util/ArrayList" "modCount" "I") (List.mem_of_getElem? (i := 1) (by decide +kernel))) (fun x h => u_same (hts (.sameField "java/util/ArrayList" "java/util/AbstractList" "modCount" "I") (List.mem_of_getElem? (i := 2) (by decide +kernel))) x h) hv1 dJx4a65c_add_9ea2d_2 ?_
  refine lv_iconst (v := (1)) hx hb dJx4a65c_add_9ea2d_5 (by decide) ?_
  refine lv_iadd hx hb dJx4a65c_add_9ea2d_6 ?_
  obtain ⟨μ2, hμ2, hw⟩ := hw
  refine j_putz (C := RJx4a65c) (T := TJx4a65c) (N := 3) (ci := 2) (r := (some b)) (v := .int (v1 + (1 : Int32))) hx hb hfJx4a65c tyJx4a65c tyJx4a65c_ok nmJx4a65c hown hK hI rfl 0 (by decide) (hts (.fieldLink RJx4a65c 63 "java/util/ArrayList" "modCount" "I") (List.mem_of_getElem? (i := 1) (by decide +kernel))) (fun x h => u_same (hts (.sameField "java/util/ArrayList" "java/util/AbstractList" "modCount" "I") (List.mem_of_getElem? (i := 2) (by decide +kernel))) x h) rfl (tyJx4a65c_ok 0 (by decide)) rfl rfl hμ2 dJx4a65c_add_9ea2d_7 (fun H locs hI => ?_)
  refine j_aload_n (r := (some b)) hx hb dJx4a65c_add_9ea2d_10 rfl (lv_at hl 0 rfl) ?_
  refine j_aload_n (r := x1) hx hb dJx4a65c_add_9ea2d_11 rfl (lv_at hl 1 rfl) ?_
  refine j_aload_n (r := (some b)) hx hb dJx4a65c_add_9ea2d_12 rfl (lv_at hl 0 rfl) ?_
  obtain ⟨v3, hv3, hw⟩ := hw
  refine j_getz (C := RJx4a65c) (T := TJx4a65c) (N := 3) (ci := 2) (r := (some b)) (v := va_rf v3) hx hb hfJx4a65c hown hK hI rfl 1 (by decide) (hts (.fieldLink RJx4a65c 9 "java/util/ArrayList" "elementData" "[Ljava/lang/Object;") (List.mem_of_getElem? (i := 3) (by decide +kernel))) (fun _ h => h) hv3 dJx4a65c_add_9ea2d_13 ?_
  refine j_aload_n (r := (some b)) hx hb dJx4a65c_add_9ea2d_16 rfl (lv_at hl 0 rfl) ?_
  obtain ⟨v4, hv4, hw⟩ := hw
  refine j_getz (C := RJx4a65c) (T := TJx4a65c) (N := 3) (ci := 2) (r := (some b)) (v := .int v4) hx hb hfJx4a65c hown hK hI rfl 2 (by decide) (hts (.fieldLink RJx4a65c 48 "java/util/ArrayList" "size" "I") (List.mem_of_getElem? (i := 4) (by decide +kernel))) (fun _ h => h) hv4 dJx4a65c_add_9ea2d_17 ?_
  obtain ⟨hfs, hw⟩ := hw
  refine j_goz hI (va_runV (As := [va_rf x1, va_rf v3, .int v4]) (rest := []) ⟨hx, hb, hml, hown, hts⟩ (kJx4a65c_add_72be8 l hfl D z b x1 v3 v4 μ2 H.size _) (cwV 3 hts gJx4a65c_add_9ea2d_Jx4a65c_add_72be8 rfl rfl rfl (by decide +kernel) ⟨Nat.le_of_ble_eq_true rfl, Nat.le_of_ble_eq_true rfl⟩) (j_prV2z hK hG hI hw (ci := 2) rfl hfs) rfl rfl hl.1 rfl (lv_room (Nat.le_of_ble_eq_true rfl)) dJx4a65c_add_9ea2d_20 ⟨by show _ ≤ 1; omega, by show _ ≤ 32; omega⟩) (fun u5 μ6 H locs hw hI => ?_)
  refine W.eq (g2 := F0 m 23 ls []) rfl ?_
  refine lv_iconst (v := (1)) hx hb dJx4a65c_add_9ea2d_23 (by decide) ?_
  exact j_zretz hx hb hr rfl hlocks hI hw (by omega) (by omega) dJx4a65c_add_9ea2d_24
set_option maxHeartbeats 4000000 in
set_option maxRecDepth 100000 in
theorem kJx4a65c_add_9ea2d (l : Launch) (hfl : l.stackTraces = false) (D : jD) (z : Nat × Nat) (b : Nat) (x1 : Option Nat) (μ : jM) (sz : Nat) (Q : Int32 → jM → Prop) : Met l yJx4a65c_add_9ea2d wsJx4a65c_add_9ea2d rmJx4a65c_add_9ea2d (jPre2z D z μ sz [.ref b, va_rf x1] (wJx4a65c_add_9ea2d z b x1 μ Q)) (jRz jfI Q D z (jA z μ sz)) 1 32 (jA z μ sz) := by
  refine Met.ofW (cc := cJx4a65c_add_9ea2d) (maxL := 2) (ret := (some .boolean)) (by decide) rfl ?_
  intro p e s m args below meth c s₁ B hml hv
  obtain ⟨rfl, hsz, hH, hz0, hK, hG, hw⟩ := hv
  subst hsz
  have hX : jX2 D z (jA z μ s.heap.size) p l s m _ meth c yJx4a65c_add_9ea2d cJx4a65c_add_9ea2d 2 wsJx4a65c_add_9ea2d (some .boolean) := ⟨B.exec, B.bytes, hml, findClass_of_methodNamed B.named, atoms_spec (ws := wsJx4a65c_add_9ea2d) B.pre, B.returns, B.notSynchronized, (name_of_methodNamed B.named B.method).1, hK, hG, hfl⟩
  obtain ⟨ls, hg, hl⟩ : ∃ ls : Array Slot, entryFrame m ([.ref b, va_rf x1] : List Value).toArray 2 = F0 m 0 ls [] ∧ lv_has ls 2 [(0, va_rf (some b)), (1, va_rf x1)] := by
    cases x1 <;> exact ⟨_, lg_entry_eq .., lv_entry _ (n := 2) (Nat.le_of_ble_eq_true rfl)⟩
  rw [hg]
  exact kJx4a65c_add_9ea2d_0 hX hw (jIz.start hH hz0) (lv_sub hl [0, 1] rfl) (by decide) (by decide)
end
