/-! ===== the same, with three words more: that the exceptions' own classes declare the constructors that they pass on to ===== -/
/-- what all methods take as given of statics, class objects, texts, kinship of classes -/
def jG2 (z : Nat × Nat) (A : Nat → Prop) (U : State) (H : Heap) : Prop :=
  va_Z "java/util/ArrayList" "DEFAULTCAPACITY_EMPTY_ELEMENTDATA" "[Ljava/lang/Object;" (.ref z.1) A U H ∧ vx_Zq Bundle.tN "UNASSIGNED_STACK" Bundle.steD A U H ∧ vx_Zq Bundle.tN "SUPPRESSED_SENTINEL" Bundle.listD A U H ∧
  va_Mi "[Ljava/lang/Object;" z.2 U ∧ va_AO "java/lang/Object" U ∧ va_Dc U ∧ (∀ (i : Nat) (r : vw_C), vwCl[i]? = some r → va_Nw (.castable r.1 "java/lang/Object") U) ∧ (∀ q ∈ jStr, ∃ a, vk_R q.1 q.2.1 q.2.2 a U) ∧
  (∀ E ∈ jEx, va_Nw (.castable E E) U) ∧ (∀ E ∈ jEx, ∀ N ∈ jEx, E ≠ N → va_Nc E N U) ∧ va_Nw (.methodLinkNest "CashPools$Desk" 32 ⟨"CashPools$Calendar", "<init>", "()V"⟩ "CashPools") U ∧ va_Nw (.methodLinkNest "CashPools" 160 ⟨"CashPools$Tree", "sumFrom", "(LCashPools$Account;I)J"⟩ "CashPools") U ∧ (∀ y ∈ [Bundle.initS "java/lang/RuntimeException", Bundle.initS "java/lang/Exception", Bundle.initS Bundle.tN], va_Nw (.declares y) U)
theorem jG2.go {z : Nat × Nat} {A : Nat → Prop} {s U : State} {H : Heap} (hW : s.WarmedH U.vm) (h : jG2 z A s H) : jG2 z A U H := by
  obtain ⟨h1, h2, h3, h4, h5, h6, h7, h8, h9, h10, h11, h12, h13⟩ := h
  exact ⟨h1.moved hW.alike, h2.moved hW.alike, h3.moved hW.alike, h4.moved hW.alike, h5.moved hW.alike, h6.moved hW.alike, fun i r hr => (h7 i r hr).warmC hW, fun q hq => (h8 q hq).imp fun a ha => ha.warm hW, fun E hE => (h9 E hE).warmC hW, fun E hE N hN hne => (h10 E hE N hN hne).moved hW.alike, h11.warmM hW, h12.warmM hW, fun y hy => (h13 y hy).warmD hW⟩
theorem jG2.kept {z : Nat × Nat} {A : Nat → Prop} {U : State} {H H1 : Heap} (h : jG2 z A U H) (hq : ∀ a : Nat, a < H.size → ¬ A a → H1[a]? = H[a]?) : jG2 z A U H1 := by
  obtain ⟨h1, h2, h3, h4⟩ := h
  exact ⟨h1.kept hq, h2.kept hq, h3.kept hq, h4⟩
theorem jG2.narrow {z : Nat × Nat} {A B : Nat → Prop} {U : State} {H : Heap} (h : jG2 z A U H) (hAB : ∀ q, B q → A q) : jG2 z B U H := by
  obtain ⟨h1, h2, h3, h4⟩ := h
  exact ⟨h1.narrow hAB, h2.narrow hAB, h3.narrow hAB, h4⟩
theorem jG2.same {z : Nat × Nat} {A : Nat → Prop} {u U : State} {H : Heap} (hv : u.vm = U.vm) (h : jG2 z A u H) : jG2 z A U H := by
  refine h.go ?_
  rw [← hv]
  exact State.WarmedH.refl u
def jPre2 (D : jD) (z : Nat × Nat) (μ : jM) (sz : Nat) (av : List Value) (P : Prop) : Array Value → State → Prop := va_Pc av (fun U => U.heap.size = sz ∧ jH D μ U.heap ∧ μ z.1 = some jZ0 ∧ jK D U ∧ jG2 z (jA z μ sz) U U.heap ∧ P)
theorem jPre2_blind {D : jD} {z : Nat × Nat} {μ : jM} {sz : Nat} {av : List Value} {P : Prop} : FrameBlind (jPre2 D z μ sz av P) := by
  intro a U g mk h
  obtain ⟨h0, h1, h2, h2z, h3, h4, h5⟩ := h
  exact ⟨h0, h1, h2, h2z, va_K.moved (u := U) (U := U.calling g mk a) (Vm.Alike.refl U.vm) h3, jG2.same (u := U) (U := U.calling g mk a) rfl h4, h5⟩
/-- what holds all along a method -/
def jX2 (D : jD) (z : Nat × Nat) (A : Nat → Prop) (p : Program) (l : Launch) (s : State) (m : MethodId) (args : Array Value) (meth : Method) (c : Code) (y : MethodName) (cc : ByteArray) (nL : Nat) (Ts : List Cond) (ret : Option FieldType) : Prop :=
  p.tables.exec = Jvm.exec ∧ c.code = cc ∧ c.maxLocals = nL ∧ s.vm.findClass y.cls = some m.cls ∧ (∀ w ∈ Ts, w.before args s = true) ∧ meth.sig.returnType = ret ∧ meth.locks = false ∧ meth.name = y.name ∧ jK D s ∧ jG2 z A s s.heap ∧ l.stackTraces = false
section JCA2
variable {p : Program} {l : Launch} {e : Env} {R : Room} {s : State} {m : MethodId} {args : Array Value} {below : List Frame} {meth : Method} {c : Code} {H : Heap} {locs : List Loc} {cells slots : Nat} {Q : State → Prop}
variable {cc bytes : ByteArray} {pc : Nat} {ls : Array Slot} {rest : List Value} {D : jD} {A : Nat → Prop} {μ : jM} {z : Nat × Nat}
variable {y : MethodName} {maxL nL mc ms n index : Nat} {ret : Option FieldType} {ws Ts : List Cond} {rm : Room} {own C : String} {b : Nat} {As : List Value} {P : Prop} {Qc : Array Value → State → Outcome → State → Prop} {free : Addr → Prop} {XC : String → State → State → Prop}
theorem j_pre2 (hK : jK D s) (hG : jG2 z A s s.heap) (hI : jI D z A s.heap μ H locs) (hP : P) {av : List Value} (U : State) (hU : U.heap = H) (hW : s.WarmedH U.vm) : jPre2 D z μ H.size av P av.toArray U := by
  refine ⟨rfl, by rw [hU], by rw [hU]; exact hI.1, hI.2.2.2.2.1, va_K.moved hW.alike hK, ?_, hP⟩
  rw [hU]
  exact ((hG.kept (fun q h1 h2 => hI.2.2.1.2.1 q h1 h2)).narrow hI.dom).go hW
theorem j_prS2 (hK : jK D s) (hG : jG2 z A s s.heap) (hI : jI D z A s.heap μ H locs) (hP : P) : PreS s H (jPre2 D z μ H.size As P) As := ⟨jPre2_blind, j_pre2 hK hG hI hP⟩
theorem j_prV2 (hK : jK D s) (hG : jG2 z A s s.heap) (hI : jI D z A s.heap μ H locs) (hP : P) {ci : Nat} {T : u_T} {N : Nat} (hc : vwCl[ci]? = some (C, T, N)) (hr : ∃ fs, μ b = some (.inr (ci, fs))) : PreV s H C b (jPre2 D z μ H.size (.ref b :: As) P) As := by
  obtain ⟨fs, hm⟩ := hr
  exact ⟨jPre2_blind, va_recv hK (jW1 hI.1 hm) (q0 := 0) hc rfl, j_pre2 hK hG hI hP⟩
theorem j_throw2 {X : String → jM → Prop} {cls text : String} {names : List String} {ik is ic : Nat} (hexec : p.tables.exec = Jvm.exec) (hb : c.code = cc) (hno : ∀ x ∈ c.exceptionTable.toList, False) (hfl : l.stackTraces = false) (hml : c.maxLocals = nL) (hlsz : ls.size = nL)
    (hown : s.vm.findClass own = some m.cls) (hcls : Bundle.fit cls = true) (hnames : ∀ n ∈ names, Bundle.fit n = true) (hk : (Cond.classLink own ik cls).before args s = true) (hini : (Cond.initialized cls).before args s = true) (hG : jG2 z A s s.heap) (hstr : (own, is, text) ∈ jStr)
    (hg1 : ∀ w ∈ (vx_atS own ic cls names).filter goodWord, w.before args s = true) (hE : cls ∈ jEx) (hg2 : ∀ w ∈ (vx_atS own ic cls names).filter (fun w => !goodWord w), w ∈ [Cond.declares (Bundle.initS "java/lang/RuntimeException"), Cond.declares (Bundle.initS "java/lang/Exception"), Cond.declares (Bundle.initS Bundle.tN), Cond.castable cls cls]) (hgood : ∀ w ∈ Cond.classLink own ik cls :: Cond.initialized cls :: vx_atS own ic cls names, vx_ot w = true)
    (d0 : decode cc pc = .ok (.new ik, 3)) (d3 : decode cc (pc + 3) = .ok (.dup, 1)) (d4 : decode cc (pc + 4) = .ok (.ldc is, 2)) (d6 : decode cc (pc + 6) = .ok (.invokespecial ic, 3)) (d9 : decode cc (pc + 9) = .ok (.athrow, 1))
    (hRframes : names.length + 3 < R.frames) (hRlocals : (rest.map fun v => v.category).sum + (13 * (names.length + 1) + 43) ≤ R.locals) (hRcells : cells + 1 ≤ R.cells) (hRslots : slots + 6 ≤ R.slots) (hlocks : meth.locks = false)
    (hI : jI D z A s.heap μ H locs) (hx : X cls μ) (hc : cells + 1 ≤ mc) (hs : slots + 6 ≤ ms) :
    W p l e R s m args below meth c H locs cells slots (vx_MQ below Qc (jXC X D z A) args s mc ms A) (F0 m pc ls rest) := by
  obtain ⟨h1, h2, h3, -, -, -, -, h8, h9, -, -, -, h13⟩ := hG
  obtain ⟨sa, hsa⟩ := h8 _ hstr
  refine vx_throwS (A := A) hexec hb hfl hown hcls hnames hk hini hsa (vx_hat hg1 hg2 (vx_c (va_Nw.use rfl (h13 _ (by simp))) (vx_c (va_Nw.use rfl (h13 _ (by simp))) (vx_c (va_Nw.use rfl (h13 _ (by simp))) (vx_c (va_Nw.use rfl (h9 cls hE)) vx_n))))) hgood h2 h3 hI.2.2.1 (hlsz.trans hml.symm) d0 d3 d4 d6 d9 (fun x hx => (hno x hx).elim) hRframes hRlocals hRcells hRslots hlocks (fun t hW hz hq => ?_) hI.2.2.1.2.2 hc hs
  refine ⟨μ, hx, ⟨fun a e he => ?_, hI.2.1, hI.2.2.2.2.1⟩, Nat.le_trans hI.2.2.1.1 hz, fun q h1 h2 => ?_⟩
  · exact (hI.1 a e he).kept (hq a (hI.1.lt he))
  · rw [hq q (Nat.lt_of_lt_of_le h1 hI.2.2.1.1)]
    exact hI.2.2.1.2.1 q h1 h2
end JCA2
/-! ===== further rows: references beside locals, class objects, copies, new objects ===== -/
theorem jrc (r : Option Nat) : (va_rf r).category = 1 := by cases r <;> rfl
theorem jci (x : Int32) : (Value.int x).category = 1 := rfl
theorem jcl (x : Int64) : (Value.long x).category = 2 := rfl
theorem jcr (x : Nat) : (Value.ref x).category = 1 := rfl
theorem jcn : Value.null.category = 1 := rfl
theorem jnr (C : String) (r : Option Nat) : narrow (.object C) (va_rf r) = va_rf r := by cases r <;> rfl
theorem jfr (C : String) (r : Option Nat) : fits (.object C) (va_rf r) = true := by cases r <;> rfl
theorem jnra (C : FieldType) (r : Option Nat) : narrow (.array C) (va_rf r) = va_rf r := by cases r <;> rfl
theorem jfra (C : FieldType) (r : Option Nat) : fits (.array C) (va_rf r) = true := by cases r <;> rfl
section JMO
variable {p : Program} {l : Launch} {e : Env} {R : Room} {s : State} {m : MethodId} {args : Array Value} {below : List Frame} {meth : Method} {c : Code} {H : Heap} {locs : List Loc} {cells slots : Nat} {Q : State → Prop}
variable {cc : ByteArray} {pc : Nat} {ls : Array Slot} {rest : List Value} {D : jD} {A : Nat → Prop} {H0 : Heap} {μ : jM} {z : Nat × Nat}
theorem j_istore_nA (hexec : p.tables.exec = Jvm.exec) (hb : c.code = cc) {k : Fin 4} {i nL : Nat} {x : Int32} {r : Option Nat} {F F2 : Value → List (Nat × Value)} (hdg : decode cc pc = .ok (.istore_n k, 1)) (hi : (k : Nat) = i) (h : lv_has ls nL (F (va_rf r))) (hn : i < nL) (hl : ∀ w : Value, (w = .null ∨ ∃ a, w = .ref a) → (i, Value.int x) :: (F w).filter (fun q => !(q.1 == i) && !(q.1 + 1 == i && q.2.category == 2)) = F2 w)
    (kk : ∀ ls' : Array Slot, lv_has ls' nL (F2 (va_rf r)) → W p l e R s m args below meth c H locs cells slots Q (F0 m (pc + 1) ls' rest)) : W p l e R s m args below meth c H locs cells slots Q (F0 m pc ls (Value.int x :: rest)) := by
  cases r with
  | none => exact lv_istore_n hexec hb hdg hi h hn (hl _ (Or.inl rfl)) kk
  | some a => exact lv_istore_n hexec hb hdg hi h hn (hl _ (Or.inr ⟨_, rfl⟩)) kk
theorem j_lstore_nA (hexec : p.tables.exec = Jvm.exec) (hb : c.code = cc) {k : Fin 4} {i nL : Nat} {x : Int64} {r : Option Nat} {F F2 : Value → List (Nat × Value)} (hdg : decode cc pc = .ok (.lstore_n k, 1)) (hi : (k : Nat) = i) (h : lv_has ls nL (F (va_rf r))) (hn : i + 1 < nL) (hl : ∀ w : Value, (w = .null ∨ ∃ a, w = .ref a) → (i, Value.long x) :: (F w).filter (fun q => !(q.1 == i) && (!(q.1 == i + 1) && !(q.1 + 1 == i && q.2.category == 2))) = F2 w)
    (kk : ∀ ls' : Array Slot, lv_has ls' nL (F2 (va_rf r)) → W p l e R s m args below meth c H locs cells slots Q (F0 m (pc + 1) ls' rest)) : W p l e R s m args below meth c H locs cells slots Q (F0 m pc ls (Value.long x :: rest)) := by
  cases r with
  | none => exact lv_lstore_n hexec hb hdg hi h hn (hl _ (Or.inl rfl)) kk
  | some a => exact lv_lstore_n hexec hb hdg hi h hn (hl _ (Or.inr ⟨_, rfl⟩)) kk
theorem j_astore_nA (hexec : p.tables.exec = Jvm.exec) (hb : c.code = cc) {k : Fin 4} {i nL : Nat} {r0 : Option Nat} {r : Option Nat} {F F2 : Value → List (Nat × Value)} (hdg : decode cc pc = .ok (.astore_n k, 1)) (hi : (k : Nat) = i) (h : lv_has ls nL (F (va_rf r))) (hn : i < nL) (hl : ∀ w : Value, (w = .null ∨ ∃ a, w = .ref a) → (i, va_rf r0) :: (F w).filter (fun q => !(q.1 == i) && !(q.1 + 1 == i && q.2.category == 2)) = F2 w)
    (kk : ∀ ls' : Array Slot, lv_has ls' nL (F2 (va_rf r)) → W p l e R s m args below meth c H locs cells slots Q (F0 m (pc + 1) ls' rest)) : W p l e R s m args below meth c H locs cells slots Q (F0 m pc ls (va_rf r0 :: rest)) := by
  cases r with
  | none => exact j_astore_n hexec hb hdg hi h hn (hl _ (Or.inl rfl)) kk
  | some a => exact j_astore_n hexec hb hdg hi h hn (hl _ (Or.inr ⟨_, rfl⟩)) kk
theorem j_istoreA (hexec : p.tables.exec = Jvm.exec) (hb : c.code = cc) {i nL : Nat} {x : Int32} {r : Option Nat} {F F2 : Value → List (Nat × Value)} (hdg : decode cc pc = .ok (.istore i, 2)) (h : lv_has ls nL (F (va_rf r))) (hn : i < nL) (hl : ∀ w : Value, (w = .null ∨ ∃ a, w = .ref a) → (i, Value.int x) :: (F w).filter (fun q => !(q.1 == i) && !(q.1 + 1 == i && q.2.category == 2)) = F2 w)
    (kk : ∀ ls' : Array Slot, lv_has ls' nL (F2 (va_rf r)) → W p l e R s m args below meth c H locs cells slots Q (F0 m (pc + 2) ls' rest)) : W p l e R s m args below meth c H locs cells slots Q (F0 m pc ls (Value.int x :: rest)) := by
  cases r with
  | none => exact lv_istore hexec hb hdg h hn (hl _ (Or.inl rfl)) kk
  | some a => exact lv_istore hexec hb hdg h hn (hl _ (Or.inr ⟨_, rfl⟩)) kk
theorem j_lstoreA (hexec : p.tables.exec = Jvm.exec) (hb : c.code = cc) {i nL : Nat} {x : Int64} {r : Option Nat} {F F2 : Value → List (Nat × Value)} (hdg : decode cc pc = .ok (.lstore i, 2)) (h : lv_has ls nL (F (va_rf r))) (hn : i + 1 < nL) (hl : ∀ w : Value, (w = .null ∨ ∃ a, w = .ref a) → (i, Value.long x) :: (F w).filter (fun q => !(q.1 == i) && (!(q.1 == i + 1) && !(q.1 + 1 == i && q.2.category == 2))) = F2 w)
    (kk : ∀ ls' : Array Slot, lv_has ls' nL (F2 (va_rf r)) → W p l e R s m args below meth c H locs cells slots Q (F0 m (pc + 2) ls' rest)) : W p l e R s m args below meth c H locs cells slots Q (F0 m pc ls (Value.long x :: rest)) := by
  cases r with
  | none => exact lv_lstore hexec hb hdg h hn (hl _ (Or.inl rfl)) kk
  | some a => exact lv_lstore hexec hb hdg h hn (hl _ (Or.inr ⟨_, rfl⟩)) kk
theorem j_astoreA (hexec : p.tables.exec = Jvm.exec) (hb : c.code = cc) {i nL : Nat} {r0 : Option Nat} {r : Option Nat} {F F2 : Value → List (Nat × Value)} (hdg : decode cc pc = .ok (.astore i, 2)) (h : lv_has ls nL (F (va_rf r))) (hn : i < nL) (hl : ∀ w : Value, (w = .null ∨ ∃ a, w = .ref a) → (i, va_rf r0) :: (F w).filter (fun q => !(q.1 == i) && !(q.1 + 1 == i && q.2.category == 2)) = F2 w)
    (kk : ∀ ls' : Array Slot, lv_has ls' nL (F2 (va_rf r)) → W p l e R s m args below meth c H locs cells slots Q (F0 m (pc + 2) ls' rest)) : W p l e R s m args below meth c H locs cells slots Q (F0 m pc ls (va_rf r0 :: rest)) := by
  cases r with
  | none => exact j_astore hexec hb hdg h hn (hl _ (Or.inl rfl)) kk
  | some a => exact j_astore hexec hb hdg h hn (hl _ (Or.inr ⟨_, rfl⟩)) kk
theorem j_iincA (hexec : p.tables.exec = Jvm.exec) (hb : c.code = cc) {i nL k : Nat} {n : Int} {x v : Int32} {r : Option Nat} {F F2 : Value → List (Nat × Value)} (hdg : decode cc pc = .ok (.iinc i n, 3)) (h : lv_has ls nL (F (va_rf r))) (hk : ∀ w, (F w)[k]? = some (i, .int x)) (hv : x + Int32.ofInt n = v) (hn : i < nL) (hl : ∀ w : Value, (w = .null ∨ ∃ a, w = .ref a) → (i, Value.int v) :: (F w).filter (fun q => !(q.1 == i) && !(q.1 + 1 == i && q.2.category == 2)) = F2 w)
    (kk : ∀ ls' : Array Slot, lv_has ls' nL (F2 (va_rf r)) → W p l e R s m args below meth c H locs cells slots Q (F0 m (pc + 3) ls' rest)) : W p l e R s m args below meth c H locs cells slots Q (F0 m pc ls rest) := by
  cases r with
  | none => exact lv_iinc hexec hb hdg h (hk _) hv hn (hl _ (Or.inl rfl)) kk
  | some a => exact lv_iinc hexec hb hdg h (hk _) hv hn (hl _ (Or.inr ⟨_, rfl⟩)) kk
theorem j_getC (hexec : p.tables.exec = Jvm.exec) (hb : c.code = cc) (hml : c.maxLocals = ls.size) {own : String} {index : Nat} (hown : s.vm.findClass own = some m.cls) (hlink : (Cond.methodLink own index ⟨"java/lang/Object", "getClass", "()Ljava/lang/Class;"⟩).before args s = true)
    (hsel : (Cond.selects "[Ljava/lang/Object;" ⟨"java/lang/Object", "getClass", "()Ljava/lang/Class;"⟩ ⟨"java/lang/Object", "getClass", "()Ljava/lang/Class;"⟩).before args s = true) (hinst : (Cond.instanceMethod ⟨"java/lang/Object", "getClass", "()Ljava/lang/Class;"⟩).before args s = true) (hnat : (Cond.native ⟨"java/lang/Object", "getClass", "()Ljava/lang/Class;"⟩).before args s = true)
    (hG : jG2 z A s s.heap) (hK : jK D s) (hI : jI D z A H0 μ H locs) {r : Option Nat} (hr : ∃ a n f, r = some a ∧ μ a = some (.inl (3, n, f))) (hframes : 1 ≤ R.frames) (hlocals : (rest.map fun v => v.category).sum + 14 ≤ R.locals) (hdg : decode cc pc = .ok (.invokevirtual index, 3))
    (kk : W p l e R s m args below meth c H locs cells slots Q (F0 m (pc + 3) ls (va_rf (some z.2) :: rest))) : W p l e R s m args below meth c H locs cells slots Q (F0 m pc ls (va_rf r :: rest)) := by
  obtain ⟨a, n, f, rfl, hm⟩ := hr
  have hc : H[a]? = some (vp_cell (D.2 3) (n, f)) := hI.1 a _ hm
  obtain ⟨_, _, _, _, _, hf⟩ := (hK.2 3 (D.2 3, .object "java/lang/Object") rfl).2
  refine va_getC hexec hb hml hown hlink (hG.2.2.2.2.2.1.use (A := args)) hsel hinst hnat hG.2.2.2.1 ⟨_, hc, ?_, ?_⟩ hframes hlocals hdg kk
  · rcases f with f | f | f | f | f <;> rfl
  · rcases f with f | f | f | f | f <;> exact hf
/-- a copy between two arrays of longs -/
def jcpj (μ : jM) (r0 : Option Nat) (sp : Int32) (r1 : Option Nat) (dp n : Int32) (μ1 : jM) : Prop := ∃ (a0 a1 n0 n1 : Nat) (f g : Nat → Int64), r0 = some a0 ∧ r1 = some a1 ∧ μ a0 = some (.inl (1, n0, .inr (.inl f))) ∧ μ a1 = some (.inl (1, n1, .inr (.inl g))) ∧
  ¬ sp < 0 ∧ ¬ dp < 0 ∧ ¬ n < 0 ∧ sp.toNatClampNeg + n.toNatClampNeg ≤ n0 ∧ dp.toNatClampNeg + n.toNatClampNeg ≤ n1 ∧ μ1 = va_up μ a1 (some (.inl (1, n1, .inr (.inl (va_cpy f g sp.toNatClampNeg dp.toNatClampNeg n.toNatClampNeg)))))
/-- a copy between two arrays of references -/
def jcpq (μ : jM) (r0 : Option Nat) (sp : Int32) (r1 : Option Nat) (dp n : Int32) (μ1 : jM) : Prop := ∃ (a0 a1 n0 n1 : Nat) (f g : Nat → Option Nat), r0 = some a0 ∧ r1 = some a1 ∧ μ a0 = some (.inl (3, n0, .inr (.inr (.inr (.inr f))))) ∧ μ a1 = some (.inl (3, n1, .inr (.inr (.inr (.inr g))))) ∧ 0 < n0 ∧ 0 < n1 ∧
  ¬ sp < 0 ∧ ¬ dp < 0 ∧ ¬ n < 0 ∧ sp.toNatClampNeg + n.toNatClampNeg ≤ n0 ∧ dp.toNatClampNeg + n.toNatClampNeg ≤ n1 ∧ (∀ i : Nat, i < n.toNatClampNeg → ∀ y : Nat, f (sp.toNatClampNeg + i) = some y → ∃ ci fs, μ y = some (.inr (ci, fs))) ∧
  μ1 = va_up μ a1 (some (.inl (3, n1, .inr (.inr (.inr (.inr (va_cpy f g sp.toNatClampNeg dp.toNatClampNeg n.toNatClampNeg)))))))
theorem j_copyj (hexec : p.tables.exec = Jvm.exec) (hb : c.code = cc) (hml : c.maxLocals = ls.size) {own : String} {index : Nat} (hown : s.vm.findClass own = some m.cls) (hlink : (Cond.methodLink own index arraycopyName).before args s = true) (hnat : (Cond.native arraycopyName).before args s = true) (hstat : (Cond.static arraycopyName).before args s = true) (hini : (Cond.initialized "java/lang/System").before args s = true)
    (hK : jK D s) (hI : jI D z A H0 μ H locs) {r0 r1 : Option Nat} {sp dp n : Int32} {μ1 : jM} (hv : jcpj μ r0 sp r1 dp n μ1) (hframes : 1 ≤ R.frames) (hlocals : (rest.map fun v => v.category).sum + (nativeFrameWords "java/lang/System" "arraycopy" 5 + 11) ≤ R.locals) (hdg : decode cc pc = .ok (.invokestatic index, 3))
    (kk : ∀ (H1 : Heap) (locs1 : List Loc), jI D z A H0 μ1 H1 locs1 → W p l e R s m args below meth c H1 locs1 cells slots Q (F0 m (pc + 3) ls rest)) : W p l e R s m args below meth c H locs cells slots Q (F0 m pc ls (.int n :: .int dp :: va_rf r1 :: .int sp :: va_rf r0 :: rest)) := by
  obtain ⟨a0, a1, n0, n1, f, g, rfl, rfl, hm0, hm1, h1, h2, h3, h4, h5, rfl⟩ := hv
  have hne0 := hI.ar hm0 (Or.inl (by decide))
  have hne1 := hI.ar hm1 (Or.inl (by decide))
  have hAa := hI.2.1 a1 _ hm1 hne1
  obtain ⟨q0, hq0⟩ := jW_of (D := D) hm0 (hI.1.lt hm0) hne0
  obtain ⟨q1, hq1⟩ := jW_of (D := D) hm1 (hI.1.lt hm1) hne1
  refine va_copyl (ty := .long) hexec hb hml hown hlink hnat hstat hini hK (jW_P (z := z) hI.1) (jW_D (z := z) (A := A) hI.2.1) hI.2.2.1 q0 q1 1 1 hq0 hq1 rfl rfl rfl h1 h2 h3 h4 h5 (fun _ _ => rfl) hframes hlocals hdg (fun H1 locs1 hP hD hS => ?_)
  exact kk H1 locs1 (hI.up hAa (jH_set hI.1 hq1 hP (hI.z hS)) hS)
theorem j_copyq (hexec : p.tables.exec = Jvm.exec) (hb : c.code = cc) (hml : c.maxLocals = ls.size) {own : String} {index : Nat} (hown : s.vm.findClass own = some m.cls) (hlink : (Cond.methodLink own index arraycopyName).before args s = true) (hnat : (Cond.native arraycopyName).before args s = true) (hstat : (Cond.static arraycopyName).before args s = true) (hini : (Cond.initialized "java/lang/System").before args s = true)
    (hobj : ∀ (i : Nat) (r : vw_C), vwCl[i]? = some r → va_Nw (.castable r.1 "java/lang/Object") s) (hK : jK D s) (hI : jI D z A H0 μ H locs) {r0 r1 : Option Nat} {sp dp n : Int32} {μ1 : jM} (hv : jcpq μ r0 sp r1 dp n μ1) (hframes : 1 ≤ R.frames) (hlocals : (rest.map fun v => v.category).sum + (nativeFrameWords "java/lang/System" "arraycopy" 5 + 11) ≤ R.locals) (hdg : decode cc pc = .ok (.invokestatic index, 3))
    (kk : ∀ (H1 : Heap) (locs1 : List Loc), jI D z A H0 μ1 H1 locs1 → W p l e R s m args below meth c H1 locs1 cells slots Q (F0 m (pc + 3) ls rest)) : W p l e R s m args below meth c H locs cells slots Q (F0 m pc ls (.int n :: .int dp :: va_rf r1 :: .int sp :: va_rf r0 :: rest)) := by
  obtain ⟨a0, a1, n0, n1, f, g, rfl, rfl, hm0, hm1, hp0, hp1, h1, h2, h3, h4, h5, h6, rfl⟩ := hv
  have hne0 := hI.ar hm0 (Or.inr hp0)
  have hne1 := hI.ar hm1 (Or.inr hp1)
  have hAa := hI.2.1 a1 _ hm1 hne1
  obtain ⟨q0, hq0⟩ := jW_of (D := D) hm0 (hI.1.lt hm0) hne0
  obtain ⟨q1, hq1⟩ := jW_of (D := D) hm1 (hI.1.lt hm1) hne1
  refine va_copyM hexec hb hml hown hlink hnat hstat hini hK (jW_P (z := z) hI.1) (jW_D (z := z) (A := A) hI.2.1) hI.2.2.1 q0 q1 3 3 (E0 := "java/lang/Object") (E1 := "java/lang/Object") hq0 hq1 rfl rfl h1 h2 h3 h4 h5 (fun i hi y hy => ?_) hframes hlocals hdg (fun H1 locs1 hP hD hS => ?_)
  · obtain ⟨ci, fs, hmy⟩ := h6 i hi y hy
    exact j_any hK hI hobj hmy
  · exact kk H1 locs1 (hI.up hAa (jH_set hI.1 hq1 hP (hI.z hS)) hS)
end JMO
def jfJx4a65c : List Value := [.int 0, .null, .int 0]
theorem jdJx4a65c : ∀ j, j < 3 → defaultValue (tyJx4a65c j) = vp_V jfJx4a65c j := by
  intro j hj
  match j, hj with
  | 0, _ => rfl
  | 1, _ => rfl
  | 2, _ => rfl
  | k + 3, h => omega
def jfX0 : List Value := [.int 0, .null, .null, .null, .null, .int 0, .int 0, .int 0, .long 0, .long 0, .long 0, .long 0]
theorem jdX0 : ∀ j, j < 12 → defaultValue (tyX0 j) = vp_V jfX0 j := by
  intro j hj
  match j, hj with
  | 0, _ => rfl
  | 1, _ => rfl
  | 2, _ => rfl
  | 3, _ => rfl
  | 4, _ => rfl
  | 5, _ => rfl
  | 6, _ => rfl
  | 7, _ => rfl
  | 8, _ => rfl
  | 9, _ => rfl
  | 10, _ => rfl
  | 11, _ => rfl
  | k + 12, h => omega
def jfX1 : List Value := [.int 0, .int 0, .long 0]
theorem jdX1 : ∀ j, j < 3 → defaultValue (tyX1 j) = vp_V jfX1 j := by
  intro j hj
  match j, hj with
  | 0, _ => rfl
  | 1, _ => rfl
  | 2, _ => rfl
  | k + 3, h => omega
def jfX2 : List Value := [.null]
theorem jdX2 : ∀ j, j < 1 → defaultValue (tyX2 j) = vp_V jfX2 j := by
  intro j hj
  match j, hj with
  | 0, _ => rfl
  | k + 1, h => omega
def jfX3 : List Value := [.null, .null, .null, .null, .null, .null, .int 0, .int 0]
theorem jdX3 : ∀ j, j < 8 → defaultValue (tyX3 j) = vp_V jfX3 j := by
  intro j hj
  match j, hj with
  | 0, _ => rfl
  | 1, _ => rfl
  | 2, _ => rfl
  | 3, _ => rfl
  | 4, _ => rfl
  | 5, _ => rfl
  | 6, _ => rfl
  | 7, _ => rfl
  | k + 8, h => omega
def jfX4 : List Value := [.null, .int 0, .int 0, .int 0, .int 0, .int 0, .int 0]
theorem jdX4 : ∀ j, j < 7 → defaultValue (tyX4 j) = vp_V jfX4 j := by
  intro j hj
  match j, hj with
  | 0, _ => rfl
  | 1, _ => rfl
  | 2, _ => rfl
  | 3, _ => rfl
  | 4, _ => rfl
  | 5, _ => rfl
  | 6, _ => rfl
  | k + 7, h => omega
def jfX5 : List Value := [.null, .int 0, .int 0, .long 0, .long 0, .long 0, .long 0, .long 0, .long 0]
theorem jdX5 : ∀ j, j < 9 → defaultValue (tyX5 j) = vp_V jfX5 j := by
  intro j hj
  match j, hj with
  | 0, _ => rfl
  | 1, _ => rfl
  | 2, _ => rfl
  | 3, _ => rfl
  | 4, _ => rfl
  | 5, _ => rfl
  | 6, _ => rfl
  | 7, _ => rfl
  | 8, _ => rfl
  | k + 9, h => omega
def jfX6 : List Value := [.int 0, .null, .null, .null, .null]
theorem jdX6 : ∀ j, j < 5 → defaultValue (tyX6 j) = vp_V jfX6 j := by
  intro j hj
  match j, hj with
  | 0, _ => rfl
  | 1, _ => rfl
  | 2, _ => rfl
  | 3, _ => rfl
  | 4, _ => rfl
  | k + 5, h => omega
def jfX7 : List Value := [.int 0, .int 0, .long 0, .long 0, .null, .null, .null, .long 0, .long 0, .null]
theorem jdX7 : ∀ j, j < 10 → defaultValue (tyX7 j) = vp_V jfX7 j := by
  intro j hj
  match j, hj with
  | 0, _ => rfl
  | 1, _ => rfl
  | 2, _ => rfl
  | 3, _ => rfl
  | 4, _ => rfl
  | 5, _ => rfl
  | 6, _ => rfl
  | 7, _ => rfl
  | 8, _ => rfl
  | 9, _ => rfl
  | k + 10, h => omega
def jfX9 : List Value := [.null]
theorem jdX9 : ∀ j, j < 1 → defaultValue (tyX9 j) = vp_V jfX9 j := by
  intro j hj
  match j, hj with
  | 0, _ => rfl
  | k + 1, h => omega
