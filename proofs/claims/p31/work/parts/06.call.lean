/-! ===== calls, answers, throws, over the memory as a function ===== -/
def jB (D : jD) (z : Nat × Nat) (A : Nat → Prop) (μ : jM) (t : State) : Prop := jH D μ t.heap ∧ (∀ (a : Nat) (e : jE), μ a = some e → a ≠ z.1 → A a) ∧ μ z.1 = some jZ0
/-- how a method ends: the answer and the memory satisfy Q -/
def jR {σ : Type} (f : σ → Option Value) (Q : σ → jM → Prop) (D : jD) (z : Nat × Nat) (A : Nat → Prop) : Array Value → State → Outcome → State → Prop := fun _ st oc t => (∃ (r : σ) (u : jM), oc = .returned (f r) ∧ Q r u ∧ jB D z A u t) ∧ va_F A st t
def jfI : Int32 → Option Value := fun r => some (.int r)
def jfJ : Int64 → Option Value := fun r => some (.long r)
def jfR : Option Nat → Option Value := fun r => some (va_rf r)
def jfV : Unit → Option Value := fun _ => none
/-- how a method throws -/
def jXC (X : String → jM → Prop) (D : jD) (z : Nat × Nat) (A : Nat → Prop) : String → State → State → Prop := fun E st t => ∃ u : jM, X E u ∧ jB D z A u t ∧ va_F A st t
def jStr : List (String × Nat × String) := [("CashPools", 111, "today would be too late"), ("CashPools", 126, "there is no flow left"), ("CashPools", 214, "an argument is out of range"), ("CashPools", 217, "the amount is 0"), ("CashPools", 219, "this is no top account"), ("CashPools", 221, "there is no account left"), ("CashPools", 225, "there is no such account"), ("CashPools", 232, "there is no such line"), ("CashPools", 234, "there is no such flow"), ("CashPools", 239, "there is no such bank"), ("CashPools", 49, "a top account has no rule"), ("CashPools", 79, "there is no line left")]
def jEx : List String := []
/-- what all methods take as given of statics, class objects, texts, kinship of classes -/
def jG (z : Nat × Nat) (A : Nat → Prop) (U : State) (H : Heap) : Prop :=
  va_Z "java/util/ArrayList" "DEFAULTCAPACITY_EMPTY_ELEMENTDATA" "[Ljava/lang/Object;" (.ref z.1) A U H ∧ vx_Zq Bundle.tN "UNASSIGNED_STACK" Bundle.steD A U H ∧ vx_Zq Bundle.tN "SUPPRESSED_SENTINEL" Bundle.listD A U H ∧
  va_Mi "[Ljava/lang/Object;" z.2 U ∧ va_AO "java/lang/Object" U ∧ va_Dc U ∧ (∀ (i : Nat) (r : vw_C), vwCl[i]? = some r → va_Nw (.castable r.1 "java/lang/Object") U) ∧ (∀ q ∈ jStr, ∃ a, vk_R q.1 q.2.1 q.2.2 a U) ∧
  (∀ E ∈ jEx, va_Nw (.castable E E) U) ∧ (∀ E ∈ jEx, ∀ N ∈ jEx, E ≠ N → va_Nc E N U) ∧ va_Nw (.methodLinkNest "CashPools$Desk" 32 ⟨"CashPools$Calendar", "<init>", "()V"⟩ "CashPools") U ∧ va_Nw (.methodLinkNest "CashPools" 160 ⟨"CashPools$Tree", "sumFrom", "(LCashPools$Account;I)J"⟩ "CashPools") U
theorem jG.go {z : Nat × Nat} {A : Nat → Prop} {s U : State} {H : Heap} (hW : s.WarmedH U.vm) (h : jG z A s H) : jG z A U H := by
  obtain ⟨h1, h2, h3, h4, h5, h6, h7, h8, h9, h10, h11, h12⟩ := h
  exact ⟨h1.moved hW.alike, h2.moved hW.alike, h3.moved hW.alike, h4.moved hW.alike, h5.moved hW.alike, h6.moved hW.alike, fun i r hr => (h7 i r hr).warmC hW, fun q hq => (h8 q hq).imp fun a ha => ha.warm hW, fun E hE => (h9 E hE).warmC hW, fun E hE N hN hne => (h10 E hE N hN hne).moved hW.alike, h11.warmM hW, h12.warmM hW⟩
theorem jG.kept {z : Nat × Nat} {A : Nat → Prop} {U : State} {H H1 : Heap} (h : jG z A U H) (hq : ∀ a : Nat, a < H.size → ¬ A a → H1[a]? = H[a]?) : jG z A U H1 := by
  obtain ⟨h1, h2, h3, h4⟩ := h
  exact ⟨h1.kept hq, h2.kept hq, h3.kept hq, h4⟩
theorem jG.narrow {z : Nat × Nat} {A B : Nat → Prop} {U : State} {H : Heap} (h : jG z A U H) (hAB : ∀ q, B q → A q) : jG z B U H := by
  obtain ⟨h1, h2, h3, h4⟩ := h
  exact ⟨h1.narrow hAB, h2.narrow hAB, h3.narrow hAB, h4⟩
theorem jG.same {z : Nat × Nat} {A : Nat → Prop} {u U : State} {H : Heap} (hv : u.vm = U.vm) (h : jG z A u H) : jG z A U H := by
  refine h.go ?_
  rw [← hv]
  exact State.WarmedH.refl u
def jPre (D : jD) (z : Nat × Nat) (μ : jM) (sz : Nat) (av : List Value) (P : Prop) : Array Value → State → Prop := va_Pc av (fun U => U.heap.size = sz ∧ jH D μ U.heap ∧ μ z.1 = some jZ0 ∧ jK D U ∧ jG z (jA z μ sz) U U.heap ∧ P)
theorem jPre_blind {D : jD} {z : Nat × Nat} {μ : jM} {sz : Nat} {av : List Value} {P : Prop} : FrameBlind (jPre D z μ sz av P) := by
  intro a U g mk h
  obtain ⟨h0, h1, h2, h2z, h3, h4, h5⟩ := h
  exact ⟨h0, h1, h2, h2z, va_K.moved (u := U) (U := U.calling g mk a) (Vm.Alike.refl U.vm) h3, jG.same (u := U) (U := U.calling g mk a) rfl h4, h5⟩
/-- what holds all along a method -/
def jX (D : jD) (z : Nat × Nat) (A : Nat → Prop) (p : Program) (l : Launch) (s : State) (m : MethodId) (args : Array Value) (meth : Method) (c : Code) (y : MethodName) (cc : ByteArray) (nL : Nat) (Ts : List Cond) (ret : Option FieldType) : Prop :=
  p.tables.exec = Jvm.exec ∧ c.code = cc ∧ c.maxLocals = nL ∧ s.vm.findClass y.cls = some m.cls ∧ (∀ w ∈ Ts, w.before args s = true) ∧ meth.sig.returnType = ret ∧ meth.locks = false ∧ meth.name = y.name ∧ jK D s ∧ jG z A s s.heap ∧ l.stackTraces = false
section JCA
variable {p : Program} {l : Launch} {e : Env} {R : Room} {s : State} {m : MethodId} {args : Array Value} {below : List Frame} {meth : Method} {c : Code} {H : Heap} {locs : List Loc} {cells slots : Nat} {Q : State → Prop}
variable {cc bytes : ByteArray} {pc : Nat} {ls : Array Slot} {rest : List Value} {D : jD} {A : Nat → Prop} {μ : jM} {z : Nat × Nat}
variable {y : MethodName} {maxL nL mc ms n index : Nat} {ret : Option FieldType} {ws Ts : List Cond} {rm : Room} {own C : String} {b : Nat} {As : List Value} {P : Prop} {Qc : Array Value → State → Outcome → State → Prop} {free : Addr → Prop} {XC : String → State → State → Prop}
theorem j_pre (hK : jK D s) (hG : jG z A s s.heap) (hI : jI D z A s.heap μ H locs) (hP : P) {av : List Value} (U : State) (hU : U.heap = H) (hW : s.WarmedH U.vm) : jPre D z μ H.size av P av.toArray U := by
  refine ⟨rfl, by rw [hU], by rw [hU]; exact hI.1, hI.2.2.2.2.1, va_K.moved hW.alike hK, ?_, hP⟩
  rw [hU]
  exact ((hG.kept (fun q h1 h2 => hI.2.2.1.2.1 q h1 h2)).narrow hI.dom).go hW
theorem j_prS (hK : jK D s) (hG : jG z A s s.heap) (hI : jI D z A s.heap μ H locs) (hP : P) : PreS s H (jPre D z μ H.size As P) As := ⟨jPre_blind, j_pre hK hG hI hP⟩
theorem j_prV (hK : jK D s) (hG : jG z A s s.heap) (hI : jI D z A s.heap μ H locs) (hP : P) {ci : Nat} {T : u_T} {N : Nat} (hc : vwCl[ci]? = some (C, T, N)) (hr : ∃ fs, μ b = some (.inr (ci, fs))) : PreV s H C b (jPre D z μ H.size (.ref b :: As) P) As := by
  obtain ⟨fs, hm⟩ := hr
  exact ⟨jPre_blind, va_recv hK (jW1 hI.1 hm) (q0 := 0) hc rfl, j_pre hK hG hI hP⟩
theorem j_next {A1 : Nat → Prop} {u : jM} {t : State} {H1 : Heap} {locs1 : List Loc} (hI : jI D z A s.heap μ H locs) (hB : jB D z (jA z μ H.size) u t) (ht : t.heap = H1) (hS : va_S A s.heap H1 locs1) : jI D z A s.heap u H1 locs1 :=
  ⟨by rw [← ht]; exact hB.1, fun a e he hn => hI.dom a (hB.2.1 a e he hn), hS, hI.2.2.2.1, hB.2.2, hI.2.2.2.2.2⟩
theorem j_go {σ : Type} {f : σ → Option Value} {Q1 : σ → jM → Prop} {st0 : List Value} {a : Array Value} (hI : jI D z A s.heap μ H locs) (hr : va_Run p l e R s m args below meth c H locs cells slots mc ms (F0 m pc ls st0) rest (jR f Q1 D z (jA z μ H.size) a) (jA z μ H.size))
    (kk : ∀ (r : σ) (u : jM) (H1 : Heap) (locs1 : List Loc), Q1 r u → jI D z A s.heap u H1 locs1 → W p l e R s m args below meth c H1 locs1 (cells + mc) (slots + ms) Q (F0 m (pc + 3) ls ((f r).toList ++ rest))) : W p l e R s m args below meth c H locs cells slots Q (F0 m pc ls st0) := by
  intro T hT X
  obtain ⟨v, st₀, t, T', L, h0, X', hL, e1, e2, ⟨⟨r, u, hv, hp, hb⟩, hF⟩, st⟩ := hr T hT X
  obtain ⟨k1, k2, k3⟩ := vx_keep h0 e1 hI.2.2.1 (fun q _ h => hI.dom q h) hI.dom hL hF
  cases hv
  obtain ⟨t2, a1, b1⟩ := kk r u T'.heap (locs ++ L) hp (j_next (A1 := A) hI hb e1.symm k3) T' rfl X'
  exact ⟨t2, st t2 a1, b1⟩
theorem j_goX {σ : Type} {f : σ → Option Value} {Q1 : σ → jM → Prop} {X1 : String → jM → Prop} {st0 : List Value} {a : Array Value} (hI : jI D z A s.heap μ H locs) (hr : vx_Run p l e R s m args below meth c H locs cells slots mc ms (F0 m pc ls st0) rest (jR f Q1 D z (jA z μ H.size) a) (jXC X1 D z (jA z μ H.size)) (jA z μ H.size))
    (kx : ∀ (E : String) (ce : Cell) (q9 : Addr) (u : jM) (H1 : Heap) (locs1 : List Loc), X1 E u → jI D z A s.heap u H1 locs1 → H1[q9]? = some ce → ce.vm = .none → s.vm.findClass E = some ce.cls → vx_W p l e R s m args below meth c H1 locs1 (cells + mc) (slots + ms) Q (F0 m pc ls rest) q9)
    (kk : ∀ (r : σ) (u : jM) (H1 : Heap) (locs1 : List Loc), Q1 r u → jI D z A s.heap u H1 locs1 → W p l e R s m args below meth c H1 locs1 (cells + mc) (slots + ms) Q (F0 m (pc + 3) ls ((f r).toList ++ rest))) : W p l e R s m args below meth c H locs cells slots Q (F0 m pc ls st0) := by
  intro T hT X
  rcases hr T hT X with ⟨v, st₀, t, T', L, h0, X', hL, e1, e2, ⟨⟨r, u, hv, hp, hb⟩, hF⟩, st⟩ | ⟨q, st₀, t, T', L, E, ce, h0, X', hL, e1, e2, ⟨u, hp, hb, hF⟩, hce, hcv, hcl, st⟩
  · obtain ⟨k1, k2, k3⟩ := vx_keep h0 e1 hI.2.2.1 (fun q _ h => hI.dom q h) hI.dom hL hF
    cases hv
    obtain ⟨t2, a1, b1⟩ := kk r u T'.heap (locs ++ L) hp (j_next (A1 := A) hI hb e1.symm k3) T' rfl X'
    exact ⟨t2, st t2 a1, b1⟩
  · obtain ⟨k1, k2, k3⟩ := vx_keep h0 e1 hI.2.2.1 (fun q _ h => hI.dom q h) hI.dom hL hF
    obtain ⟨t2, a1, b1⟩ := kx E ce q u T'.heap (locs ++ L) hp (j_next (A1 := A) hI hb e1.symm k3) (by rw [e1]; exact hce) hcv hcl T' rfl X'
    exact ⟨t2, st.trans a1, b1⟩
/-! ## the ends of a method -/
theorem j_end {σ : Type} {f : σ → Option Value} {Q1 : σ → jM → Prop} (hI : jI D z A s.heap μ H locs) (r : σ) (hq : Q1 r μ) (t : State) (ht : t.heap = H) : jR f Q1 D z A args s (.returned (f r)) t :=
  ⟨⟨r, μ, rfl, hq, by rw [ht]; exact hI.1, hI.2.1, hI.2.2.2.2.1⟩, hI.2.2.1.F ht⟩
theorem j_iret {Q1 : Int32 → jM → Prop} {v : Int32} (hexec : p.tables.exec = Jvm.exec) (hb : c.code = cc) (hr : meth.sig.returnType = some .int) (hlocks : meth.locks = false) (hI : jI D z A s.heap μ H locs) (hq : Q1 v μ) (hc : cells ≤ mc) (hs : slots ≤ ms) (hdg : decode cc pc = .ok (.ireturn, 1)) :
    W p l e R s m args below meth c H locs cells slots (MQ below (jR jfI Q1 D z A) args s mc ms A) (F0 m pc ls [.int v]) :=
  W.widen hc hs (W.iret hexec hb hr (fun t ht _ => j_end hI v hq t ht) hI.2.2.1.2.2 hdg hlocks)
theorem j_zret {Q1 : Int32 → jM → Prop} {v : Int32} (hexec : p.tables.exec = Jvm.exec) (hb : c.code = cc) (hr : meth.sig.returnType = some .boolean) (hn : narrow .boolean (.int v) = .int v) (hlocks : meth.locks = false) (hI : jI D z A s.heap μ H locs) (hq : Q1 v μ) (hc : cells ≤ mc) (hs : slots ≤ ms) (hdg : decode cc pc = .ok (.ireturn, 1)) :
    W p l e R s m args below meth c H locs cells slots (MQ below (jR jfI Q1 D z A) args s mc ms A) (F0 m pc ls [.int v]) :=
  W.widen hc hs (W.zret hexec hb hr hn (fun t ht _ => j_end hI v hq t ht) hI.2.2.1.2.2 hdg hlocks)
theorem j_lret {Q1 : Int64 → jM → Prop} {v : Int64} (hexec : p.tables.exec = Jvm.exec) (hb : c.code = cc) (hr : meth.sig.returnType = some .long) (hlocks : meth.locks = false) (hI : jI D z A s.heap μ H locs) (hq : Q1 v μ) (hc : cells ≤ mc) (hs : slots ≤ ms) (hdg : decode cc pc = .ok (.lreturn, 1)) :
    W p l e R s m args below meth c H locs cells slots (MQ below (jR jfJ Q1 D z A) args s mc ms A) (F0 m pc ls [.long v]) :=
  W.widen hc hs (W.lret hexec hb hr (fun t ht _ => j_end hI v hq t ht) hI.2.2.1.2.2 hdg hlocks)
theorem j_vret {Q1 : Unit → jM → Prop} (hexec : p.tables.exec = Jvm.exec) (hb : c.code = cc) (hr : meth.sig.returnType = none) (hlocks : meth.locks = false) (hI : jI D z A s.heap μ H locs) (hq : Q1 () μ) (hc : cells ≤ mc) (hs : slots ≤ ms) (hdg : decode cc pc = .ok (.return_, 1)) :
    W p l e R s m args below meth c H locs cells slots (MQ below (jR jfV Q1 D z A) args s mc ms A) (F0 m pc ls []) :=
  W.widen hc hs (W.vret hexec hb hr (fun t ht _ => j_end hI () hq t ht) hI.2.2.1.2.2 hdg hlocks)
theorem j_aret {Q1 : Option Nat → jM → Prop} {v : Option Nat} {rt : FieldType} (hexec : p.tables.exec = Jvm.exec) (hb : c.code = cc) (hr : meth.sig.returnType = some rt) (hrt : (∃ n, rt = .object n) ∨ ∃ t, rt = .array t) (hlocks : meth.locks = false) (hI : jI D z A s.heap μ H locs) (hq : Q1 v μ) (hc : cells ≤ mc) (hs : slots ≤ ms) (hdg : decode cc pc = .ok (.areturn, 1)) :
    W p l e R s m args below meth c H locs cells slots (MQ below (jR jfR Q1 D z A) args s mc ms A) (F0 m pc ls [va_rf v]) :=
  W.widen hc hs (W.aret hexec hb hr hrt (va_rf_or v) (fun t ht _ => j_end hI v hq t ht) hI.2.2.1.2.2 hdg hlocks)
/-! ## throws -/
theorem j_out {X : String → jM → Prop} {E : String} {ce : Cell} {q : Addr} (hno : ∀ x ∈ c.exceptionTable.toList, False) (hlocks : meth.locks = false) (hI : jI D z A s.heap μ H locs) (hcell : H[q]? = some ce) (hv : ce.vm = .none) (hcl : s.vm.findClass E = some ce.cls) (hx : X E μ) (hc : cells ≤ mc) (hs : slots ≤ ms) :
    vx_W p l e R s m args below meth c H locs cells slots (vx_MQ below Qc (jXC X D z A) args s mc ms A) (F0 m pc ls rest) q :=
  vx_out (fun x hx => (hno x hx).elim) hlocks hcell hv hcl (fun t ht _ => ⟨μ, hx, ⟨by rw [ht]; exact hI.1, hI.2.1, hI.2.2.2.2.1⟩, hI.2.2.1.F ht⟩) hI.2.2.1.2.2 hc hs
theorem j_throw {X : String → jM → Prop} {cls text : String} {names : List String} {ik is ic : Nat} (hexec : p.tables.exec = Jvm.exec) (hb : c.code = cc) (hno : ∀ x ∈ c.exceptionTable.toList, False) (hfl : l.stackTraces = false) (hml : c.maxLocals = nL) (hlsz : ls.size = nL)
    (hown : s.vm.findClass own = some m.cls) (hcls : Bundle.fit cls = true) (hnames : ∀ n ∈ names, Bundle.fit n = true) (hk : (Cond.classLink own ik cls).before args s = true) (hini : (Cond.initialized cls).before args s = true) (hG : jG z A s s.heap) (hstr : (own, is, text) ∈ jStr)
    (hg1 : ∀ w ∈ (vx_atS own ic cls names).filter goodWord, w.before args s = true) (hE : cls ∈ jEx) (hg2 : ∀ w ∈ (vx_atS own ic cls names).filter (fun w => !goodWord w), w ∈ [Cond.castable cls cls]) (hgood : ∀ w ∈ Cond.classLink own ik cls :: Cond.initialized cls :: vx_atS own ic cls names, vx_ot w = true)
    (d0 : decode cc pc = .ok (.new ik, 3)) (d3 : decode cc (pc + 3) = .ok (.dup, 1)) (d4 : decode cc (pc + 4) = .ok (.ldc is, 2)) (d6 : decode cc (pc + 6) = .ok (.invokespecial ic, 3)) (d9 : decode cc (pc + 9) = .ok (.athrow, 1))
    (hRframes : names.length + 3 < R.frames) (hRlocals : (rest.map fun v => v.category).sum + (13 * (names.length + 1) + 43) ≤ R.locals) (hRcells : cells + 1 ≤ R.cells) (hRslots : slots + 6 ≤ R.slots) (hlocks : meth.locks = false)
    (hI : jI D z A s.heap μ H locs) (hx : X cls μ) (hc : cells + 1 ≤ mc) (hs : slots + 6 ≤ ms) :
    W p l e R s m args below meth c H locs cells slots (vx_MQ below Qc (jXC X D z A) args s mc ms A) (F0 m pc ls rest) := by
  obtain ⟨h1, h2, h3, -, -, -, -, h8, h9, -⟩ := hG
  obtain ⟨sa, hsa⟩ := h8 _ hstr
  refine vx_throwS (A := A) hexec hb hfl hown hcls hnames hk hini hsa (vx_hat hg1 hg2 (vx_c (va_Nw.use rfl (h9 cls hE)) vx_n)) hgood h2 h3 hI.2.2.1 (hlsz.trans hml.symm) d0 d3 d4 d6 d9 (fun x hx => (hno x hx).elim) hRframes hRlocals hRcells hRslots hlocks (fun t hW hz hq => ?_) hI.2.2.1.2.2 hc hs
  refine ⟨μ, hx, ⟨fun a e he => ?_, hI.2.1, hI.2.2.2.2.1⟩, Nat.le_trans hI.2.2.1.1 hz, fun q h1 h2 => ?_⟩
  · exact (hI.1 a e he).kept (hq a (hI.1.lt he))
  · rw [hq q (Nat.lt_of_lt_of_le h1 hI.2.2.1.1)]
    exact hI.2.2.1.2.1 q h1 h2
end JCA
