/-! ===== the memory over the heap, the shared empty array told loosely: of its cell the class and the length alone are known ===== -/
def jZc (D : jD) (z : Nat × Nat) (H : Heap) : Prop := ∃ cell : Cell, H[z.1]? = some cell ∧ cell.cls = D.2 3 ∧ cell.slots.size = 0 ∧ cell.vm ≠ .unknown ∧ cell.vm.isStatics = false
theorem jZc.kept {D : jD} {z : Nat × Nat} {H H1 : Heap} (h : jZc D z H) (hz : H1[z.1]? = H[z.1]?) : jZc D z H1 := by
  obtain ⟨cell, h1, h2⟩ := h
  exact ⟨cell, hz.trans h1, h2⟩
theorem jZc.lt {D : jD} {z : Nat × Nat} {H : Heap} (h : jZc D z H) : z.1 < H.size := by
  obtain ⟨cell, h1, -⟩ := h
  exact (Array.getElem?_eq_some_iff.mp h1).1
def jHz (D : jD) (z : Nat × Nat) (μ : jM) (H : Heap) : Prop := (∀ (a : Nat) (e : jE), a ≠ z.1 → μ a = some e → va_at D.1 vwCl (a, jtr D e) H) ∧ jZc D z H
theorem jHz.lt {D : jD} {z : Nat × Nat} {μ : jM} {H : Heap} (h : jHz D z μ H) {a : Nat} {e : jE} (ha : μ a = some e) : a < H.size := by
  by_cases hz : a = z.1
  · rw [hz]; exact h.2.lt
  · exact (h.1 a e hz ha).lt
theorem jW_Pz {D : jD} {z : Nat × Nat} {μ : jM} {H : Heap} (h : jHz D z μ H) : va_P D.1 vwCl (jW D z μ H.size) H := by
  intro k q hk
  obtain ⟨e, h1, h2, -, h4⟩ := jW_at hk
  rw [h2]
  exact h.1 _ _ h4 h1
theorem jW1z {D : jD} {z : Nat × Nat} {μ : jM} {H : Heap} (h : jHz D z μ H) {a : Nat} {e : jE} (hz : a ≠ z.1) (ha : μ a = some e) : va_P D.1 vwCl [(a, jtr D e)] H := by
  intro k q hk
  cases k with
  | zero => cases hk; exact h.1 _ _ hz ha
  | succ k => simp at hk
theorem jH_setz {D : jD} {z : Nat × Nat} {μ : jM} {H H1 : Heap} {a k : Nat} {e0 e1 : jE} (h : jHz D z μ H) (hk : (jW D z μ H.size)[k]? = some (a, jtr D e0))
    (hP : va_P D.1 vwCl ((jW D z μ H.size).set k (a, jtr D e1)) H1) (hz : H1[z.1]? = H[z.1]?) : jHz D z (va_up μ a (some e1)) H1 := by
  have hl := (List.getElem?_eq_some_iff.mp hk).1
  refine ⟨fun b e hbz hb => ?_, h.2.kept hz⟩
  unfold va_up at hb
  by_cases hba : b = a
  · subst hba
    rw [if_pos rfl] at hb
    cases hb
    exact hP k _ (List.getElem?_set_self hl)
  · rw [if_neg hba] at hb
    obtain ⟨kb, hkb⟩ := jW_of (D := D) hb (h.lt hb) hbz
    refine hP kb _ ?_
    rw [List.getElem?_set_ne (fun c => hba ?_)]
    · exact hkb
    · subst c
      have h2 := hkb.symm.trans hk
      exact congrArg Prod.fst (Option.some.inj h2)
theorem jH_pushz {D : jD} {z : Nat × Nat} {μ : jM} {H H1 : Heap} {A : Nat → Prop} {q : Nat} {e1 : jE} (h : jHz D z μ H) (hzq : q ≠ z.1)
    (hP : va_P D.1 vwCl (jW D z μ H.size ++ [(q, jtr D e1)]) H1) (hD : va_D A (jW D z μ H.size ++ [(q, jtr D e1)])) (hz : H1[z.1]? = H[z.1]?) : μ q = none ∧ jHz D z (va_up μ q (some e1)) H1 := by
  have hq : (jW D z μ H.size ++ [(q, jtr D e1)])[(jW D z μ H.size).length]? = some (q, jtr D e1) := by simp
  have hn : μ q = none := by
    cases hc : μ q with
    | none => rfl
    | some e =>
      obtain ⟨k, hk⟩ := jW_of (D := D) hc (h.lt hc) hzq
      have hl := (List.getElem?_eq_some_iff.mp hk).1
      have := hD.1 k _ (q, jtr D e) (q, jtr D e1) (by rw [List.getElem?_append_left hl]; exact hk) hq rfl
      omega
  refine ⟨hn, fun b e hbz hb => ?_, h.2.kept hz⟩
  unfold va_up at hb
  by_cases hba : b = q
  · subst hba
    rw [if_pos rfl] at hb
    cases hb
    exact hP _ _ hq
  · rw [if_neg hba] at hb
    obtain ⟨kb, hkb⟩ := jW_of (D := D) hb (h.lt hb) hbz
    have hl := (List.getElem?_eq_some_iff.mp hkb).1
    exact hP kb _ (by rw [List.getElem?_append_left hl]; exact hkb)

def jIz (D : jD) (z : Nat × Nat) (A : Nat → Prop) (H0 : Heap) (μ : jM) (H : Heap) (locs : List Loc) : Prop :=
  jHz D z μ H ∧ (∀ (a : Nat) (e : jE), μ a = some e → a ≠ z.1 → A a) ∧ va_S A H0 H locs ∧ (∀ q, H0.size ≤ q → A q) ∧ μ z.1 = some jZ0 ∧ ¬ A z.1
theorem jIz.start {D : jD} {z : Nat × Nat} {μ : jM} {H : Heap} (h : jHz D z μ H) (hz : μ z.1 = some jZ0) : jIz D z (jA z μ H.size) H μ H [] :=
  ⟨h, fun _ e ha hn => Or.inl ⟨hn, e, ha⟩, va_S.rf, fun _ h => Or.inr h, hz, fun q => q.elim (fun q => q.1 rfl) (fun q => absurd (h.lt hz) (Nat.not_lt.mpr q))⟩
theorem jIz.dom {D : jD} {z : Nat × Nat} {A : Nat → Prop} {H0 H : Heap} {μ : jM} {locs : List Loc} (h : jIz D z A H0 μ H locs) : ∀ q, jA z μ H.size q → A q := by
  intro q hq
  rcases hq with ⟨hn, e, he⟩ | hq
  · exact h.2.1 q e he hn
  · exact h.2.2.2.1 q (Nat.le_trans h.2.2.1.1 hq)
theorem jIz.up {D : jD} {z : Nat × Nat} {A : Nat → Prop} {H0 H H1 : Heap} {μ : jM} {locs locs1 : List Loc} (h : jIz D z A H0 μ H locs) {a : Nat} {e1 : jE} (ha : A a) (hH : jHz D z (va_up μ a (some e1)) H1) (hS : va_S A H0 H1 locs1) : jIz D z A H0 (va_up μ a (some e1)) H1 locs1 := by
  refine ⟨hH, fun b e hb hn => ?_, hS, h.2.2.2.1, ?_, h.2.2.2.2.2⟩
  · unfold va_up at hb
    by_cases hba : b = a
    · rw [hba]; exact ha
    · rw [if_neg hba] at hb
      exact h.2.1 b e hb hn
  · unfold va_up
    rw [if_neg (fun q => h.2.2.2.2.2 (by rw [q]; exact ha))]
    exact h.2.2.2.2.1
theorem jIz.z {D : jD} {z : Nat × Nat} {A : Nat → Prop} {H0 H H1 : Heap} {μ : jM} {locs locs1 : List Loc} (h : jIz D z A H0 μ H locs) (hS : va_S A H0 H1 locs1) : H1[z.1]? = H[z.1]? := by
  have hl : z.1 < H0.size := Nat.lt_of_not_le (fun q => h.2.2.2.2.2 (h.2.2.2.1 _ q))
  rw [hS.2.1 _ hl h.2.2.2.2.2, h.2.2.1.2.1 _ hl h.2.2.2.2.2]
theorem jIz.ob {D : jD} {z : Nat × Nat} {A : Nat → Prop} {H0 H : Heap} {μ : jM} {locs : List Loc} (h : jIz D z A H0 μ H locs) {a : Nat} {o : Nat × List Value} (hm : μ a = some (.inr o)) : a ≠ z.1 := by
  intro q
  rw [q, h.2.2.2.2.1] at hm
  cases hm
theorem jIz.ar {D : jD} {z : Nat × Nat} {A : Nat → Prop} {H0 H : Heap} {μ : jM} {locs : List Loc} (h : jIz D z A H0 μ H locs) {a t : Nat} {o : vp_A} (hm : μ a = some (.inl (t, o))) (hn : t ≠ 3 ∨ 0 < o.1) : a ≠ z.1 := by
  intro q
  rw [q, h.2.2.2.2.1] at hm
  cases hm
  rcases hn with hn | hn
  · exact hn rfl
  · exact Nat.lt_irrefl _ hn
section JST2
variable {p : Program} {l : Launch} {e : Env} {R : Room} {s : State} {m : MethodId} {args : Array Value} {below : List Frame} {meth : Method} {c : Code} {H : Heap} {locs : List Loc} {cells slots : Nat} {Q : State → Prop}
variable {cc : ByteArray} {pc : Nat} {ls : Array Slot} {rest : List Value} {D : jD} {A : Nat → Prop} {H0 : Heap} {μ : jM} {z : Nat × Nat}
theorem j_getz (hexec : p.tables.exec = Jvm.exec) (hb : c.code = cc) {own ref C : String} {T : u_T} {N ci index : Nat} (hts : ∀ w ∈ u_ws C T N, w.before args s = true) (hown : s.vm.findClass own = some m.cls) (hK : jK D s) (hI : jIz D z A H0 μ H locs) (hc : vwCl[ci]? = some (C, T, N)) (k : Nat) (hk : k < N)
    (hlink : (Cond.fieldLink own index ref (T k).2.1 (T k).2.2.1).before args s = true) (hsame : ∀ x, s.fieldFound? (T k).1 (T k).2.1 (T k).2.2.1 = some x → s.fieldFound? ref (T k).2.1 (T k).2.2.1 = some x) {r : Option Nat} {v : Value} (hv : jg μ r ci k = some v) (hdg : decode cc pc = .ok (.getfield index, 3))
    (kk : W p l e R s m args below meth c H locs cells slots Q (F0 m (pc + 3) ls (v :: rest))) : W p l e R s m args below meth c H locs cells slots Q (F0 m pc ls (va_rf r :: rest)) := by
  obtain ⟨a, fs, rfl, hm, hf⟩ := jg_of hv
  exact va_get hexec hb hts (fun _ h => h) hown hK (jW1z hI.1 (hI.ob hm) hm) 0 rfl hc k hk hlink hsame hf hdg kk
theorem j_putz (hexec : p.tables.exec = Jvm.exec) (hb : c.code = cc) {own ref C : String} {T : u_T} {N ci index : Nat} (hts : ∀ w ∈ u_ws C T N, w.before args s = true) (ty0 : Nat → FieldType) (hty : ∀ k, k < N → parseFieldDescriptor (T k).2.2.1 = some (ty0 k)) (hnm : ∀ a, a < N → ∀ b, b < N → a ≠ b → (T a).2.1 ≠ (T b).2.1) (hown : s.vm.findClass own = some m.cls) (hK : jK D s) (hI : jIz D z A H0 μ H locs) (hc : vwCl[ci]? = some (C, T, N)) (k : Nat) (hk : k < N)
    (hlink : (Cond.fieldLink own index ref (T k).2.1 (T k).2.2.1).before args s = true) (hsame : ∀ x, s.fieldFound? (T k).1 (T k).2.1 (T k).2.2.1 = some x → s.fieldFound? ref (T k).2.1 (T k).2.2.1 = some x) (hfin : (T k).2.2.2 = false) {ty : FieldType} {v : Value} (hd : parseFieldDescriptor (T k).2.2.1 = some ty) (hn : narrow ty v = v) (hfit : fits ty v = true) {r : Option Nat} {μ1 : jM} (hv : jp μ r ci k v = some μ1) (hdg : decode cc pc = .ok (.putfield index, 3))
    (kk : ∀ (H1 : Heap) (locs1 : List Loc), jIz D z A H0 μ1 H1 locs1 → W p l e R s m args below meth c H1 locs1 cells slots Q (F0 m (pc + 3) ls rest)) : W p l e R s m args below meth c H locs cells slots Q (F0 m pc ls (v :: va_rf r :: rest)) := by
  obtain ⟨a, fs, rfl, hm, hkl, rfl⟩ := jp_of hv
  have hne := hI.ob hm
  have hAa := hI.2.1 a _ hm hne
  obtain ⟨q0, hq⟩ := jW_of (D := D) hm (hI.1.lt hm) hne
  refine va_put hexec hb hts (fun _ h => h) ty0 hty hnm hown hK (jW_Pz (z := z) hI.1) (jW_D (z := z) (A := A) hI.2.1) hI.2.2.1 q0 hq hc k hk hlink hsame hfin hd hn hfit hkl hdg (fun H1 locs1 hP hD hS => ?_)
  exact kk H1 locs1 (hI.up hAa (jH_setz hI.1 hq hP (hI.z hS)) hS)
theorem j_putFz (hexec : p.tables.exec = Jvm.exec) (hb : c.code = cc) {own ref C : String} {T : u_T} {N ci index : Nat} (hts : ∀ w ∈ u_ws C T N, w.before args s = true) (ty0 : Nat → FieldType) (hty : ∀ k, k < N → parseFieldDescriptor (T k).2.2.1 = some (ty0 k)) (hnm : ∀ a, a < N → ∀ b, b < N → a ≠ b → (T a).2.1 ≠ (T b).2.1) (hown : s.vm.findClass own = some m.cls) (hK : jK D s) (hI : jIz D z A H0 μ H locs) (hc : vwCl[ci]? = some (C, T, N)) (k : Nat) (hk : k < N)
    (hlink : (Cond.fieldLink own index ref (T k).2.1 (T k).2.2.1).before args s = true) (hsame : ∀ x, s.fieldFound? (T k).1 (T k).2.1 (T k).2.2.1 = some x → s.fieldFound? ref (T k).2.1 (T k).2.2.1 = some x) (hfin : (T k).2.2.2 = true) (hin2 : meth.name = "<init>") (hdecl : (T k).1 = own) {ty : FieldType} {v : Value} (hd : parseFieldDescriptor (T k).2.2.1 = some ty) (hn : narrow ty v = v) (hfit : fits ty v = true) {r : Option Nat} {μ1 : jM} (hv : jp μ r ci k v = some μ1) (hdg : decode cc pc = .ok (.putfield index, 3))
    (kk : ∀ (H1 : Heap) (locs1 : List Loc), jIz D z A H0 μ1 H1 locs1 → W p l e R s m args below meth c H1 locs1 cells slots Q (F0 m (pc + 3) ls rest)) : W p l e R s m args below meth c H locs cells slots Q (F0 m pc ls (v :: va_rf r :: rest)) := by
  obtain ⟨a, fs, rfl, hm, hkl, rfl⟩ := jp_of hv
  have hne := hI.ob hm
  have hAa := hI.2.1 a _ hm hne
  obtain ⟨q0, hq⟩ := jW_of (D := D) hm (hI.1.lt hm) hne
  refine va_putF hexec hb hts (fun _ h => h) ty0 hty hnm hown hK (jW_Pz (z := z) hI.1) (jW_D (z := z) (A := A) hI.2.1) hI.2.2.1 q0 hq hc k hk hlink hsame hfin hin2 hdecl hd hn hfit hkl hdg (fun H1 locs1 hP hD hS => ?_)
  exact kk H1 locs1 (hI.up hAa (jH_setz hI.1 hq hP (hI.z hS)) hS)
theorem j_alenz (hexec : p.tables.exec = Jvm.exec) (hb : c.code = cc) (hK : jK D s) (hI : jIz D z A H0 μ H locs) {r : Option Nat} {n : Nat} (hv : jal μ r = some n) (hdg : decode cc pc = .ok (.arraylength, 1))
    (kk : W p l e R s m args below meth c H locs cells slots Q (F0 m (pc + 1) ls (.int (Int32.ofNat n) :: rest))) : W p l e R s m args below meth c H locs cells slots Q (F0 m pc ls (va_rf r :: rest)) := by
  obtain ⟨a, t, f, rfl, hm, h4⟩ := jal_of hv
  have hex : ∃ ty, (jty D)[t]? = some (D.2 t, ty) := by
    rcases (show t = 0 ∨ t = 1 ∨ t = 2 ∨ t = 3 by omega) with rfl | rfl | rfl | rfl <;> exact ⟨_, rfl⟩
  obtain ⟨ty, hty⟩ := hex
  by_cases hz : a = z.1
  · subst hz
    have e0 := hm.symm.trans hI.2.2.2.2.1
    have e1 := Sum.inl.inj (Option.some.inj e0)
    have en : n = 0 := (Prod.mk.inj (Prod.mk.inj e1).2).1
    subst en
    obtain ⟨cell, c1, c2, c3, c4, c5⟩ := hI.1.2
    have h0 := (hK.2 3 (D.2 3, .object "java/lang/Object") rfl).1 0 (fun _ => .null)
    exact W.alen (n := Int32.ofNat 0) hexec hb c1 (ty := .object "java/lang/Object") ⟨fun k hk => (by rw [hk] at c5; cases c5), by rw [c2]; exact h0.2⟩ (by rw [c3]) rfl rfl hdg kk
  · exact va_alen hexec hb hK (jW1z hI.1 hz hm) 0 t (x := (n, f)) rfl hty rfl hdg kk
theorem j_ialdz (hexec : p.tables.exec = Jvm.exec) (hb : c.code = cc) (hK : jK D s) (hI : jIz D z A H0 μ H locs) {r : Option Nat} {i v : Int32} (hv : jai 0 μ r i = some v) (hdg : decode cc pc = .ok (.iaload, 1))
    (kk : W p l e R s m args below meth c H locs cells slots Q (F0 m (pc + 1) ls (.int v :: rest))) : W p l e R s m args below meth c H locs cells slots Q (F0 m pc ls (.int i :: va_rf r :: rest)) := by
  obtain ⟨a, n, f, rfl, hm, hin, rfl⟩ := jai_of hv
  exact va_iald hexec hb hK (jW1z hI.1 (hI.ar hm (Or.inl (by decide))) hm) 0 0 rfl rfl hin hdg kk
theorem j_zaldz (hexec : p.tables.exec = Jvm.exec) (hb : c.code = cc) (hK : jK D s) (hI : jIz D z A H0 μ H locs) {r : Option Nat} {i v : Int32} (hv : jai 2 μ r i = some v) (hdg : decode cc pc = .ok (.baload, 1))
    (kk : W p l e R s m args below meth c H locs cells slots Q (F0 m (pc + 1) ls (.int v :: rest))) : W p l e R s m args below meth c H locs cells slots Q (F0 m pc ls (.int i :: va_rf r :: rest)) := by
  obtain ⟨a, n, f, rfl, hm, hin, rfl⟩ := jai_of hv
  exact va_zald hexec hb hK (jW1z hI.1 (hI.ar hm (Or.inl (by decide))) hm) 0 2 rfl rfl hin hdg kk
theorem j_laldz (hexec : p.tables.exec = Jvm.exec) (hb : c.code = cc) (hK : jK D s) (hI : jIz D z A H0 μ H locs) {r : Option Nat} {i : Int32} {v : Int64} (hv : jaj μ r i = some v) (hdg : decode cc pc = .ok (.laload, 1))
    (kk : W p l e R s m args below meth c H locs cells slots Q (F0 m (pc + 1) ls (.long v :: rest))) : W p l e R s m args below meth c H locs cells slots Q (F0 m pc ls (.int i :: va_rf r :: rest)) := by
  obtain ⟨a, n, f, rfl, hm, hin, rfl⟩ := jaj_of hv
  exact va_lald hexec hb hK (jW1z hI.1 (hI.ar hm (Or.inl (by decide))) hm) 0 1 rfl rfl hin hdg kk
theorem j_aaldz (hexec : p.tables.exec = Jvm.exec) (hb : c.code = cc) (hK : jK D s) (hI : jIz D z A H0 μ H locs) {r : Option Nat} {i : Int32} {v : Option Nat} (hv : jaq μ r i = some v) (hdg : decode cc pc = .ok (.aaload, 1))
    (kk : W p l e R s m args below meth c H locs cells slots Q (F0 m (pc + 1) ls (va_rf v :: rest))) : W p l e R s m args below meth c H locs cells slots Q (F0 m pc ls (.int i :: va_rf r :: rest)) := by
  obtain ⟨a, n, f, rfl, hm, hin, rfl⟩ := jaq_of hv
  exact va_aldq hexec hb hK (jW1z hI.1 (hI.ar hm (Or.inr (Nat.pos_of_ne_zero (fun q => hin (Or.inr (by have q : n = 0 := q; rw [q]; exact Nat.zero_le _)))))) hm) 0 3 rfl rfl hin hdg kk
theorem j_iastz (hexec : p.tables.exec = Jvm.exec) (hb : c.code = cc) (hK : jK D s) (hI : jIz D z A H0 μ H locs) {r : Option Nat} {i x : Int32} {μ1 : jM} (hv : jsi 0 μ r i x = some μ1) (hdg : decode cc pc = .ok (.iastore, 1))
    (kk : ∀ (H1 : Heap) (locs1 : List Loc), jIz D z A H0 μ1 H1 locs1 → W p l e R s m args below meth c H1 locs1 cells slots Q (F0 m (pc + 1) ls rest)) : W p l e R s m args below meth c H locs cells slots Q (F0 m pc ls (.int x :: .int i :: va_rf r :: rest)) := by
  obtain ⟨a, n, f, rfl, hm, hin, rfl⟩ := jsi_of hv
  have hne := hI.ar hm (Or.inl (by decide))
  have hAa := hI.2.1 a _ hm hne
  obtain ⟨q0, hq⟩ := jW_of (D := D) hm (hI.1.lt hm) hne
  refine va_iast hexec hb hK (jW_Pz (z := z) hI.1) (jW_D (z := z) (A := A) hI.2.1) hI.2.2.1 q0 0 hq rfl hin hdg (fun H1 locs1 hP hD hS => ?_)
  exact kk H1 locs1 (hI.up hAa (jH_setz hI.1 hq hP (hI.z hS)) hS)
theorem j_zastz (hexec : p.tables.exec = Jvm.exec) (hb : c.code = cc) (hK : jK D s) (hI : jIz D z A H0 μ H locs) {r : Option Nat} {i x : Int32} {μ1 : jM} (hv : jsi 2 μ r i (vp_nar .boolean x) = some μ1) (hdg : decode cc pc = .ok (.bastore, 1))
    (kk : ∀ (H1 : Heap) (locs1 : List Loc), jIz D z A H0 μ1 H1 locs1 → W p l e R s m args below meth c H1 locs1 cells slots Q (F0 m (pc + 1) ls rest)) : W p l e R s m args below meth c H locs cells slots Q (F0 m pc ls (.int x :: .int i :: va_rf r :: rest)) := by
  obtain ⟨a, n, f, rfl, hm, hin, rfl⟩ := jsi_of hv
  have hne := hI.ar hm (Or.inl (by decide))
  have hAa := hI.2.1 a _ hm hne
  obtain ⟨q0, hq⟩ := jW_of (D := D) hm (hI.1.lt hm) hne
  refine va_zast hexec hb hK (jW_Pz (z := z) hI.1) (jW_D (z := z) (A := A) hI.2.1) hI.2.2.1 q0 2 hq rfl hin hdg (fun H1 locs1 hP hD hS => ?_)
  exact kk H1 locs1 (hI.up hAa (jH_setz hI.1 hq hP (hI.z hS)) hS)
theorem j_lastz (hexec : p.tables.exec = Jvm.exec) (hb : c.code = cc) (hK : jK D s) (hI : jIz D z A H0 μ H locs) {r : Option Nat} {i : Int32} {x : Int64} {μ1 : jM} (hv : jsj μ r i x = some μ1) (hdg : decode cc pc = .ok (.lastore, 1))
    (kk : ∀ (H1 : Heap) (locs1 : List Loc), jIz D z A H0 μ1 H1 locs1 → W p l e R s m args below meth c H1 locs1 cells slots Q (F0 m (pc + 1) ls rest)) : W p l e R s m args below meth c H locs cells slots Q (F0 m pc ls (.long x :: .int i :: va_rf r :: rest)) := by
  obtain ⟨a, n, f, rfl, hm, hin, rfl⟩ := jsj_of hv
  have hne := hI.ar hm (Or.inl (by decide))
  have hAa := hI.2.1 a _ hm hne
  obtain ⟨q0, hq⟩ := jW_of (D := D) hm (hI.1.lt hm) hne
  refine va_last hexec hb hK (jW_Pz (z := z) hI.1) (jW_D (z := z) (A := A) hI.2.1) hI.2.2.1 q0 1 hq rfl hin hdg (fun H1 locs1 hP hD hS => ?_)
  exact kk H1 locs1 (hI.up hAa (jH_setz hI.1 hq hP (hI.z hS)) hS)
theorem j_anyz (hK : jK D s) (hI : jIz D z A H0 μ H locs) (hobj : ∀ (i : Nat) (r : vw_C), vwCl[i]? = some r → va_Nw (.castable r.1 "java/lang/Object") s) {v ci : Nat} {fs : List Value} (hm : μ v = some (.inr (ci, fs))) : va_Any "java/lang/Object" s H v := by
  obtain ⟨r, hr, -⟩ := hI.1.1 v _ (hI.ob hm) hm
  refine va_rAny hK (jW1z hI.1 (hI.ob hm) hm) (q0 := 0) rfl hr (fun comp c0 h1 h2 => ?_)
  obtain ⟨d0, t0, f1, f2, f3⟩ := Cond.castable_spec (va_Nw.use (A := #[]) rfl (hobj _ _ hr))
  cases h1.symm.trans f2
  cases h2.symm.trans f1
  exact f3
theorem j_aastz (hexec : p.tables.exec = Jvm.exec) (hb : c.code = cc) (hK : jK D s) (hI : jIz D z A H0 μ H locs) (hobj : ∀ (i : Nat) (r : vw_C), vwCl[i]? = some r → va_Nw (.castable r.1 "java/lang/Object") s) {r x : Option Nat} {i : Int32} {μ1 : jM} (hv : jsq μ r i x = some μ1) (hx : ∃ v ci fs, x = some v ∧ μ v = some (.inr (ci, fs))) (hdg : decode cc pc = .ok (.aastore, 1))
    (kk : ∀ (H1 : Heap) (locs1 : List Loc), jIz D z A H0 μ1 H1 locs1 → W p l e R s m args below meth c H1 locs1 cells slots Q (F0 m (pc + 1) ls rest)) : W p l e R s m args below meth c H locs cells slots Q (F0 m pc ls (va_rf x :: .int i :: va_rf r :: rest)) := by
  obtain ⟨v, ci, fs, rfl, hmv⟩ := hx
  obtain ⟨a, n, f, rfl, hm, hin, rfl⟩ := jsq_of hv
  have hne := hI.ar hm (Or.inr (Nat.pos_of_ne_zero (fun q => hin (Or.inr (by have q : n = 0 := q; rw [q]; exact Nat.zero_le _)))))
  have hAa := hI.2.1 a _ hm hne
  obtain ⟨q0, hq⟩ := jW_of (D := D) hm (hI.1.lt hm) hne
  refine va_astqM hexec hb hK (jW_Pz (z := z) hI.1) (jW_D (z := z) (A := A) hI.2.1) hI.2.2.1 q0 3 (E := "java/lang/Object") hq rfl (j_anyz hK hI hobj hmv) hin hdg (fun H1 locs1 hP hD hS => ?_)
  exact kk H1 locs1 (hI.up hAa (jH_setz hI.1 hq hP (hI.z hS)) hS)
theorem j_newz (hexec : p.tables.exec = Jvm.exec) (hb : c.code = cc) {own C : String} {T : u_T} {N ci index : Nat} (hts : ∀ w ∈ u_ws C T N, w.before args s = true) (ty : Nat → FieldType) (hty : ∀ k, k < N → parseFieldDescriptor (T k).2.2.1 = some (ty k)) (hown : s.vm.findClass own = some m.cls) (hcl : (Cond.classLink own index C).before args s = true) (hinst : (Cond.instantiable C N).before args s = true) (hini : (Cond.initialized C).before args s = true)
    (hK : jK D s) (hI : jIz D z A H0 μ H locs) (hc : vwCl[ci]? = some (C, T, N)) {fs : List Value} (hfs : ∀ j, j < N → defaultValue (ty j) = vp_V fs j) (hcells : cells + 1 ≤ R.cells) (hslots : slots + N ≤ R.slots) (hdg : decode cc pc = .ok (.new index, 3))
    (kk : ∀ (q : Nat) (H1 : Heap), μ q = none → jIz D z A H0 (va_up μ q (some (.inr (ci, fs)))) H1 locs → W p l e R s m args below meth c H1 locs (cells + 1) (slots + N) Q (F0 m (pc + 3) ls (va_rf (some q) :: rest))) : W p l e R s m args below meth c H locs cells slots Q (F0 m pc ls rest) := by
  refine va_new (ci := ci) (fs := fs) hexec hb hts (fun _ h => h) ty hty hown hcl hinst hini hK (jW_Pz (z := z) hI.1) (jW_D (z := z) (A := A) hI.2.1) hI.2.2.1 hI.2.2.2.1 hc hfs hcells hslots hdg (fun q H1 hP hD hS => ?_)
  have hAq := hD.2 (jW D z μ H.size).length (q, _) (j_lst _ _)
  obtain ⟨hn, hH⟩ := jH_pushz (e1 := .inr (ci, fs)) hI.1 (fun y => hI.2.2.2.2.2 (by rw [← y]; exact hAq)) hP hD (hI.z hS)
  exact kk q H1 hn (hI.up hAq hH hS)
theorem j_newaz (hexec : p.tables.exec = Jvm.exec) (hb : c.code = cc) {atype : ArrayType} (harr : (Cond.arrayClass (newarray.typeOf atype)).before args s = true) {ty : FieldType} (hty : newarray.typeOf atype = ty) (hK : jK D s) (hI : jIz D z A H0 μ H locs) {t : Nat}
    (hcA : ∀ cA : ClassId, s.vm.findClass ("[" ++ ty.toString) = some cA → cA = D.2 t) {n : Int32} {N' : Nat} {a0 : vp_A} (ha : ∀ cA : ClassId, vp_cell cA a0 = arrV cA N' (fun _ => defaultValue ty)) (hn : ¬ n < 0) (hN : n.toNatClampNeg = N') (hbytes : N' * componentBytes ty ≤ 536870912) (hcells : cells + 1 ≤ R.cells) (hslots : slots + N' ≤ R.slots) (hdg : decode cc pc = .ok (.newarray atype, 2))
    (kk : ∀ (q : Nat) (H1 : Heap), μ q = none → jIz D z A H0 (va_up μ q (some (.inl (t, a0)))) H1 locs → W p l e R s m args below meth c H1 locs (cells + 1) (slots + N') Q (F0 m (pc + 2) ls (va_rf (some q) :: rest))) : W p l e R s m args below meth c H locs cells slots Q (F0 m pc ls (.int n :: rest)) := by
  subst hty
  refine va_newaK hexec hb harr rfl hdg rfl hn hN hbytes hcells hslots rfl fun H1 cA e1 z1 o1 hAr hNm => ?_
  have hcA' := hcA cA hNm
  subst hcA'
  have hnone : μ H.size = none := by
    cases hc : μ H.size with
    | none => rfl
    | some e => exact absurd (hI.1.lt hc) (Nat.lt_irrefl _)
  refine kk H.size H1 hnone (hI.up (hI.2.2.2.1 _ hI.2.2.1.1) ⟨fun b e hbz hbe => ?_, hI.1.2.kept (o1 z.1 hI.1.2.lt)⟩ ⟨Nat.le_trans hI.2.2.1.1 (by omega), fun x h1 h2 => (o1 x (Nat.lt_of_lt_of_le h1 hI.2.2.1.1)).trans (hI.2.2.1.2.1 x h1 h2), hI.2.2.1.2.2⟩)
  unfold va_up at hbe
  by_cases hba : b = H.size
  · subst hba
    rw [if_pos rfl] at hbe
    cases hbe
    show H1[H.size]? = some (vp_cell _ _)
    rw [ha]
    exact e1
  · rw [if_neg hba] at hbe
    exact (hI.1.1 b e hbz hbe).kept (o1 b (hI.1.lt hbe))
theorem j_newqz (hexec : p.tables.exec = Jvm.exec) (hb : c.code = cc) {own C : String} {index : Nat} (hown : s.vm.findClass own = some m.cls) (hclink : (Cond.classLink own index C).before args s = true) (hover : va_AO C s) (hK : jK D s) (hI : jIz D z A H0 μ H locs)
    (hC : C = "java/lang/Object") {n : Int32} {N' : Nat} (hn : ¬ n < 0) (hN : n.toNatClampNeg = N') (hbytes : N' * 4 ≤ 536870912) (hcells : cells + 1 ≤ R.cells) (hslots : slots + N' ≤ R.slots) (hdg : decode cc pc = .ok (.anewarray index, 3))
    (kk : ∀ (q : Nat) (H1 : Heap), μ q = none → jIz D z A H0 (va_up μ q (some (.inl (3, N', .inr (.inr (.inr (.inr (fun _ => none)))))))) H1 locs → W p l e R s m args below meth c H1 locs (cells + 1) (slots + N') Q (F0 m (pc + 3) ls (va_rf (some q) :: rest))) : W p l e R s m args below meth c H locs cells slots Q (F0 m pc ls (.int n :: rest)) := by
  subst hC
  refine va_newq hexec hb hown hclink hover hK (jW_Pz (z := z) hI.1) (jW_D (z := z) (A := A) hI.2.1) hI.2.2.1 hI.2.2.2.1 hn hN hbytes hcells hslots hdg (fun q cA H1 hK1 hP hD hS => ?_)
  have h1 := (hK1.2 4 (cA, .object "java/lang/Object") rfl).2
  have h2 := (hK.2 3 (D.2 3, .object "java/lang/Object") rfl).2
  obtain ⟨_, _, _, _, _, h1⟩ := h1
  obtain ⟨_, _, _, _, _, h2⟩ := h2
  have hcA : cA = D.2 3 := Option.some.inj (h1.symm.trans h2)
  subst hcA
  have hAq := hD.2 (jW D z μ H.size).length (q, _) (j_lst _ _)
  obtain ⟨hn1, hH⟩ := jH_pushz (e1 := .inl (3, N', .inr (.inr (.inr (.inr (fun _ => none)))))) hI.1 (fun y => hI.2.2.2.2.2 (by rw [← y]; exact hAq)) hP hD (hI.z hS)
  exact kk q H1 hn1 (hI.up hAq hH hS)
theorem j_castz (hexec : p.tables.exec = Jvm.exec) (hb : c.code = cc) {own C : String} {T : u_T} {N ci index : Nat} (hown : s.vm.findClass own = some m.cls) (hlink : (Cond.classLink own index C).before args s = true) (hK : jK D s) (hI : jIz D z A H0 μ H locs) (hc : vwCl[ci]? = some (C, T, N)) {r : Option Nat} (hv : jc μ r ci) (hdg : decode cc pc = .ok (.checkcast index, 3))
    (kk : W p l e R s m args below meth c H locs cells slots Q (F0 m (pc + 3) ls (va_rf r :: rest))) : W p l e R s m args below meth c H locs cells slots Q (F0 m pc ls (va_rf r :: rest)) := by
  rcases hv with rfl | ⟨a, fs, rfl, hm⟩
  · exact lv_castN hexec hb hdg kk
  · obtain ⟨cell, h1, h2, h3⟩ := va_recv hK (jW1z hI.1 (hI.ob hm) hm) (q0 := 0) hc rfl
    have hat := (hK.1 ci _ hc).2
    have hasg := va_assign hat
    intro T hT X
    obtain ⟨vm', X', st⟩ := X.checkcastYes hexec hown hlink (by rw [hT]; exact h1) h2 h3 (by rw [Option.some.inj (h3.symm.trans hat.1)]; exact hasg) (g := F0 m pc ls (va_rf (some a) :: rest)) rfl rfl (by rw [hb]; exact hdg)
    obtain ⟨t, a1, b1⟩ := kk (T.setVm vm') hT X'
    exact ⟨t, st t a1, b1⟩
end JST2
def jBz (D : jD) (z : Nat × Nat) (A : Nat → Prop) (μ : jM) (t : State) : Prop := jHz D z μ t.heap ∧ (∀ (a : Nat) (e : jE), μ a = some e → a ≠ z.1 → A a) ∧ μ z.1 = some jZ0
def jRz {σ : Type} (f : σ → Option Value) (Q : σ → jM → Prop) (D : jD) (z : Nat × Nat) (A : Nat → Prop) : Array Value → State → Outcome → State → Prop := fun _ st oc t => (∃ (r : σ) (u : jM), oc = .returned (f r) ∧ Q r u ∧ jBz D z A u t) ∧ va_F A st t
def jXCz (X : String → jM → Prop) (D : jD) (z : Nat × Nat) (A : Nat → Prop) : String → State → State → Prop := fun E st t => ∃ u : jM, X E u ∧ jBz D z A u t ∧ va_F A st t
def jPre2z (D : jD) (z : Nat × Nat) (μ : jM) (sz : Nat) (av : List Value) (P : Prop) : Array Value → State → Prop := va_Pc av (fun U => U.heap.size = sz ∧ jHz D z μ U.heap ∧ μ z.1 = some jZ0 ∧ jK D U ∧ jG2 z (jA z μ sz) U U.heap ∧ P)
theorem jPre2_blindz {D : jD} {z : Nat × Nat} {μ : jM} {sz : Nat} {av : List Value} {P : Prop} : FrameBlind (jPre2z D z μ sz av P) := by
  intro a U g mk h
  obtain ⟨h0, h1, h2, h2z, h3, h4, h5⟩ := h
  exact ⟨h0, h1, h2, h2z, va_K.moved (u := U) (U := U.calling g mk a) (Vm.Alike.refl U.vm) h3, jG2.same (u := U) (U := U.calling g mk a) rfl h4, h5⟩
section JCA3
variable {p : Program} {l : Launch} {e : Env} {R : Room} {s : State} {m : MethodId} {args : Array Value} {below : List Frame} {meth : Method} {c : Code} {H : Heap} {locs : List Loc} {cells slots : Nat} {Q : State → Prop}
variable {cc bytes : ByteArray} {pc : Nat} {ls : Array Slot} {rest : List Value} {D : jD} {A : Nat → Prop} {μ : jM} {z : Nat × Nat}
variable {y : MethodName} {maxL nL mc ms n index : Nat} {ret : Option FieldType} {ws Ts : List Cond} {rm : Room} {own C : String} {b : Nat} {As : List Value} {P : Prop} {Qc : Array Value → State → Outcome → State → Prop} {free : Addr → Prop} {XC : String → State → State → Prop}
theorem j_pre2z (hK : jK D s) (hG : jG2 z A s s.heap) (hI : jIz D z A s.heap μ H locs) (hP : P) {av : List Value} (U : State) (hU : U.heap = H) (hW : s.WarmedH U.vm) : jPre2z D z μ H.size av P av.toArray U := by
  refine ⟨rfl, by rw [hU], by rw [hU]; exact hI.1, hI.2.2.2.2.1, va_K.moved hW.alike hK, ?_, hP⟩
  rw [hU]
  exact ((hG.kept (fun q h1 h2 => hI.2.2.1.2.1 q h1 h2)).narrow hI.dom).go hW
theorem j_prS2z (hK : jK D s) (hG : jG2 z A s s.heap) (hI : jIz D z A s.heap μ H locs) (hP : P) : PreS s H (jPre2z D z μ H.size As P) As := ⟨jPre2_blindz, j_pre2z hK hG hI hP⟩
theorem j_prV2z (hK : jK D s) (hG : jG2 z A s s.heap) (hI : jIz D z A s.heap μ H locs) (hP : P) {ci : Nat} {T : u_T} {N : Nat} (hc : vwCl[ci]? = some (C, T, N)) (hr : ∃ fs, μ b = some (.inr (ci, fs))) : PreV s H C b (jPre2z D z μ H.size (.ref b :: As) P) As := by
  obtain ⟨fs, hm⟩ := hr
  exact ⟨jPre2_blindz, va_recv hK (jW1z hI.1 (hI.ob hm) hm) (q0 := 0) hc rfl, j_pre2z hK hG hI hP⟩
theorem j_nextz {A1 : Nat → Prop} {u : jM} {t : State} {H1 : Heap} {locs1 : List Loc} (hI : jIz D z A s.heap μ H locs) (hB : jBz D z (jA z μ H.size) u t) (ht : t.heap = H1) (hS : va_S A s.heap H1 locs1) : jIz D z A s.heap u H1 locs1 :=
  ⟨by rw [← ht]; exact hB.1, fun a e he hn => hI.dom a (hB.2.1 a e he hn), hS, hI.2.2.2.1, hB.2.2, hI.2.2.2.2.2⟩
theorem j_goz {σ : Type} {f : σ → Option Value} {Q1 : σ → jM → Prop} {st0 : List Value} {a : Array Value} (hI : jIz D z A s.heap μ H locs) (hr : va_Run p l e R s m args below meth c H locs cells slots mc ms (F0 m pc ls st0) rest (jRz f Q1 D z (jA z μ H.size) a) (jA z μ H.size))
    (kk : ∀ (r : σ) (u : jM) (H1 : Heap) (locs1 : List Loc), Q1 r u → jIz D z A s.heap u H1 locs1 → W p l e R s m args below meth c H1 locs1 (cells + mc) (slots + ms) Q (F0 m (pc + 3) ls ((f r).toList ++ rest))) : W p l e R s m args below meth c H locs cells slots Q (F0 m pc ls st0) := by
  intro T hT X
  obtain ⟨v, st₀, t, T', L, h0, X', hL, e1, e2, ⟨⟨r, u, hv, hp, hb⟩, hF⟩, st⟩ := hr T hT X
  obtain ⟨k1, k2, k3⟩ := vx_keep h0 e1 hI.2.2.1 (fun q _ h => hI.dom q h) hI.dom hL hF
  cases hv
  obtain ⟨t2, a1, b1⟩ := kk r u T'.heap (locs ++ L) hp (j_nextz (A1 := A) hI hb e1.symm k3) T' rfl X'
  exact ⟨t2, st t2 a1, b1⟩
theorem j_goXz {σ : Type} {f : σ → Option Value} {Q1 : σ → jM → Prop} {X1 : String → jM → Prop} {st0 : List Value} {a : Array Value} (hI : jIz D z A s.heap μ H locs) (hr : vx_Run p l e R s m args below meth c H locs cells slots mc ms (F0 m pc ls st0) rest (jRz f Q1 D z (jA z μ H.size) a) (jXCz X1 D z (jA z μ H.size)) (jA z μ H.size))
    (kx : ∀ (E : String) (ce : Cell) (q9 : Addr) (u : jM) (H1 : Heap) (locs1 : List Loc), X1 E u → jIz D z A s.heap u H1 locs1 → H1[q9]? = some ce → ce.vm = .none → s.vm.findClass E = some ce.cls → vx_W p l e R s m args below meth c H1 locs1 (cells + mc) (slots + ms) Q (F0 m pc ls rest) q9)
    (kk : ∀ (r : σ) (u : jM) (H1 : Heap) (locs1 : List Loc), Q1 r u → jIz D z A s.heap u H1 locs1 → W p l e R s m args below meth c H1 locs1 (cells + mc) (slots + ms) Q (F0 m (pc + 3) ls ((f r).toList ++ rest))) : W p l e R s m args below meth c H locs cells slots Q (F0 m pc ls st0) := by
  intro T hT X
  rcases hr T hT X with ⟨v, st₀, t, T', L, h0, X', hL, e1, e2, ⟨⟨r, u, hv, hp, hb⟩, hF⟩, st⟩ | ⟨q, st₀, t, T', L, E, ce, h0, X', hL, e1, e2, ⟨u, hp, hb, hF⟩, hce, hcv, hcl, st⟩
  · obtain ⟨k1, k2, k3⟩ := vx_keep h0 e1 hI.2.2.1 (fun q _ h => hI.dom q h) hI.dom hL hF
    cases hv
    obtain ⟨t2, a1, b1⟩ := kk r u T'.heap (locs ++ L) hp (j_nextz (A1 := A) hI hb e1.symm k3) T' rfl X'
    exact ⟨t2, st t2 a1, b1⟩
  · obtain ⟨k1, k2, k3⟩ := vx_keep h0 e1 hI.2.2.1 (fun q _ h => hI.dom q h) hI.dom hL hF
    obtain ⟨t2, a1, b1⟩ := kx E ce q u T'.heap (locs ++ L) hp (j_nextz (A1 := A) hI hb e1.symm k3) (by rw [e1]; exact hce) hcv hcl T' rfl X'
    exact ⟨t2, st.trans a1, b1⟩
theorem j_endz {σ : Type} {f : σ → Option Value} {Q1 : σ → jM → Prop} (hI : jIz D z A s.heap μ H locs) (r : σ) (hq : Q1 r μ) (t : State) (ht : t.heap = H) : jRz f Q1 D z A args s (.returned (f r)) t :=
  ⟨⟨r, μ, rfl, hq, by rw [ht]; exact hI.1, hI.2.1, hI.2.2.2.2.1⟩, hI.2.2.1.F ht⟩
theorem j_iretz {Q1 : Int32 → jM → Prop} {v : Int32} (hexec : p.tables.exec = Jvm.exec) (hb : c.code = cc) (hr : meth.sig.returnType = some .int) (hlocks : meth.locks = false) (hI : jIz D z A s.heap μ H locs) (hq : Q1 v μ) (hc : cells ≤ mc) (hs : slots ≤ ms) (hdg : decode cc pc = .ok (.ireturn, 1)) :
    W p l e R s m args below meth c H locs cells slots (MQ below (jRz jfI Q1 D z A) args s mc ms A) (F0 m pc ls [.int v]) :=
  W.widen hc hs (W.iret hexec hb hr (fun t ht _ => j_endz hI v hq t ht) hI.2.2.1.2.2 hdg hlocks)
theorem j_zretz {Q1 : Int32 → jM → Prop} {v : Int32} (hexec : p.tables.exec = Jvm.exec) (hb : c.code = cc) (hr : meth.sig.returnType = some .boolean) (hn : narrow .boolean (.int v) = .int v) (hlocks : meth.locks = false) (hI : jIz D z A s.heap μ H locs) (hq : Q1 v μ) (hc : cells ≤ mc) (hs : slots ≤ ms) (hdg : decode cc pc = .ok (.ireturn, 1)) :
    W p l e R s m args below meth c H locs cells slots (MQ below (jRz jfI Q1 D z A) args s mc ms A) (F0 m pc ls [.int v]) :=
  W.widen hc hs (W.zret hexec hb hr hn (fun t ht _ => j_endz hI v hq t ht) hI.2.2.1.2.2 hdg hlocks)
theorem j_lretz {Q1 : Int64 → jM → Prop} {v : Int64} (hexec : p.tables.exec = Jvm.exec) (hb : c.code = cc) (hr : meth.sig.returnType = some .long) (hlocks : meth.locks = false) (hI : jIz D z A s.heap μ H locs) (hq : Q1 v μ) (hc : cells ≤ mc) (hs : slots ≤ ms) (hdg : decode cc pc = .ok (.lreturn, 1)) :
    W p l e R s m args below meth c H locs cells slots (MQ below (jRz jfJ Q1 D z A) args s mc ms A) (F0 m pc ls [.long v]) :=
  W.widen hc hs (W.lret hexec hb hr (fun t ht _ => j_endz hI v hq t ht) hI.2.2.1.2.2 hdg hlocks)
theorem j_vretz {Q1 : Unit → jM → Prop} (hexec : p.tables.exec = Jvm.exec) (hb : c.code = cc) (hr : meth.sig.returnType = none) (hlocks : meth.locks = false) (hI : jIz D z A s.heap μ H locs) (hq : Q1 () μ) (hc : cells ≤ mc) (hs : slots ≤ ms) (hdg : decode cc pc = .ok (.return_, 1)) :
    W p l e R s m args below meth c H locs cells slots (MQ below (jRz jfV Q1 D z A) args s mc ms A) (F0 m pc ls []) :=
  W.widen hc hs (W.vret hexec hb hr (fun t ht _ => j_endz hI () hq t ht) hI.2.2.1.2.2 hdg hlocks)
theorem j_aretz {Q1 : Option Nat → jM → Prop} {v : Option Nat} {rt : FieldType} (hexec : p.tables.exec = Jvm.exec) (hb : c.code = cc) (hr : meth.sig.returnType = some rt) (hrt : (∃ n, rt = .object n) ∨ ∃ t, rt = .array t) (hlocks : meth.locks = false) (hI : jIz D z A s.heap μ H locs) (hq : Q1 v μ) (hc : cells ≤ mc) (hs : slots ≤ ms) (hdg : decode cc pc = .ok (.areturn, 1)) :
    W p l e R s m args below meth c H locs cells slots (MQ below (jRz jfR Q1 D z A) args s mc ms A) (F0 m pc ls [va_rf v]) :=
  W.widen hc hs (W.aret hexec hb hr hrt (va_rf_or v) (fun t ht _ => j_endz hI v hq t ht) hI.2.2.1.2.2 hdg hlocks)
theorem j_outz {X : String → jM → Prop} {E : String} {ce : Cell} {q : Addr} (hno : ∀ x ∈ c.exceptionTable.toList, False) (hlocks : meth.locks = false) (hI : jIz D z A s.heap μ H locs) (hcell : H[q]? = some ce) (hv : ce.vm = .none) (hcl : s.vm.findClass E = some ce.cls) (hx : X E μ) (hc : cells ≤ mc) (hs : slots ≤ ms) :
    vx_W p l e R s m args below meth c H locs cells slots (vx_MQ below Qc (jXCz X D z A) args s mc ms A) (F0 m pc ls rest) q :=
  vx_out (fun x hx => (hno x hx).elim) hlocks hcell hv hcl (fun t ht _ => ⟨μ, hx, ⟨by rw [ht]; exact hI.1, hI.2.1, hI.2.2.2.2.1⟩, hI.2.2.1.F ht⟩) hI.2.2.1.2.2 hc hs
theorem j_throw2z {X : String → jM → Prop} {cls text : String} {names : List String} {ik is ic : Nat} (hexec : p.tables.exec = Jvm.exec) (hb : c.code = cc) (hno : ∀ x ∈ c.exceptionTable.toList, False) (hfl : l.stackTraces = false) (hml : c.maxLocals = nL) (hlsz : ls.size = nL)
    (hown : s.vm.findClass own = some m.cls) (hcls : Bundle.fit cls = true) (hnames : ∀ n ∈ names, Bundle.fit n = true) (hk : (Cond.classLink own ik cls).before args s = true) (hini : (Cond.initialized cls).before args s = true) (hG : jG2 z A s s.heap) (hstr : (own, is, text) ∈ jStr)
    (hg1 : ∀ w ∈ (vx_atS own ic cls names).filter goodWord, w.before args s = true) (hE : cls ∈ jEx) (hg2 : ∀ w ∈ (vx_atS own ic cls names).filter (fun w => !goodWord w), w ∈ [Cond.declares (Bundle.initS "java/lang/RuntimeException"), Cond.declares (Bundle.initS "java/lang/Exception"), Cond.declares (Bundle.initS Bundle.tN), Cond.castable cls cls]) (hgood : ∀ w ∈ Cond.classLink own ik cls :: Cond.initialized cls :: vx_atS own ic cls names, vx_ot w = true)
    (d0 : decode cc pc = .ok (.new ik, 3)) (d3 : decode cc (pc + 3) = .ok (.dup, 1)) (d4 : decode cc (pc + 4) = .ok (.ldc is, 2)) (d6 : decode cc (pc + 6) = .ok (.invokespecial ic, 3)) (d9 : decode cc (pc + 9) = .ok (.athrow, 1))
    (hRframes : names.length + 3 < R.frames) (hRlocals : (rest.map fun v => v.category).sum + (13 * (names.length + 1) + 43) ≤ R.locals) (hRcells : cells + 1 ≤ R.cells) (hRslots : slots + 6 ≤ R.slots) (hlocks : meth.locks = false)
    (hI : jIz D z A s.heap μ H locs) (hx : X cls μ) (hc : cells + 1 ≤ mc) (hs : slots + 6 ≤ ms) :
    W p l e R s m args below meth c H locs cells slots (vx_MQ below Qc (jXCz X D z A) args s mc ms A) (F0 m pc ls rest) := by
  obtain ⟨h1, h2, h3, -, -, -, -, h8, h9, -, -, -, h13⟩ := hG
  obtain ⟨sa, hsa⟩ := h8 _ hstr
  refine vx_throwS (A := A) hexec hb hfl hown hcls hnames hk hini hsa (vx_hat hg1 hg2 (vx_c (va_Nw.use rfl (h13 _ (by simp))) (vx_c (va_Nw.use rfl (h13 _ (by simp))) (vx_c (va_Nw.use rfl (h13 _ (by simp))) (vx_c (va_Nw.use rfl (h9 cls hE)) vx_n))))) hgood h2 h3 hI.2.2.1 (hlsz.trans hml.symm) d0 d3 d4 d6 d9 (fun x hx => (hno x hx).elim) hRframes hRlocals hRcells hRslots hlocks (fun t hW hz hq => ?_) hI.2.2.1.2.2 hc hs
  refine ⟨μ, hx, ⟨⟨fun a e haz he => ?_, hI.1.2.kept (hq z.1 hI.1.2.lt)⟩, hI.2.1, hI.2.2.2.2.1⟩, Nat.le_trans hI.2.2.1.1 hz, fun q h1 h2 => ?_⟩
  · exact (hI.1.1 a e haz he).kept (hq a (hI.1.lt he))
  · rw [hq q (Nat.lt_of_lt_of_le h1 hI.2.2.1.1)]
    exact hI.2.2.1.2.1 q h1 h2
end JCA3
section JMO2
variable {p : Program} {l : Launch} {e : Env} {R : Room} {s : State} {m : MethodId} {args : Array Value} {below : List Frame} {meth : Method} {c : Code} {H : Heap} {locs : List Loc} {cells slots : Nat} {Q : State → Prop}
variable {cc : ByteArray} {pc : Nat} {ls : Array Slot} {rest : List Value} {D : jD} {A : Nat → Prop} {H0 : Heap} {μ : jM} {z : Nat × Nat}
theorem j_getCz (hexec : p.tables.exec = Jvm.exec) (hb : c.code = cc) (hml : c.maxLocals = ls.size) {own : String} {index : Nat} (hown : s.vm.findClass own = some m.cls) (hlink : (Cond.methodLink own index ⟨"java/lang/Object", "getClass", "()Ljava/lang/Class;"⟩).before args s = true)
    (hsel : (Cond.selects "[Ljava/lang/Object;" ⟨"java/lang/Object", "getClass", "()Ljava/lang/Class;"⟩ ⟨"java/lang/Object", "getClass", "()Ljava/lang/Class;"⟩).before args s = true) (hinst : (Cond.instanceMethod ⟨"java/lang/Object", "getClass", "()Ljava/lang/Class;"⟩).before args s = true) (hnat : (Cond.native ⟨"java/lang/Object", "getClass", "()Ljava/lang/Class;"⟩).before args s = true)
    (hG : jG2 z A s s.heap) (hK : jK D s) (hI : jIz D z A H0 μ H locs) {r : Option Nat} (hr : ∃ a n f, r = some a ∧ μ a = some (.inl (3, n, f))) (hframes : 1 ≤ R.frames) (hlocals : (rest.map fun v => v.category).sum + 14 ≤ R.locals) (hdg : decode cc pc = .ok (.invokevirtual index, 3))
    (kk : W p l e R s m args below meth c H locs cells slots Q (F0 m (pc + 3) ls (va_rf (some z.2) :: rest))) : W p l e R s m args below meth c H locs cells slots Q (F0 m pc ls (va_rf r :: rest)) := by
  obtain ⟨a, n, f, rfl, hm⟩ := hr
  obtain ⟨_, _, _, _, _, hf⟩ := (hK.2 3 (D.2 3, .object "java/lang/Object") rfl).2
  have key : ∃ cell : Cell, H[a]? = some cell ∧ cell.vm.isStatics = false ∧ s.vm.findClass "[Ljava/lang/Object;" = some cell.cls := by
    by_cases hz : a = z.1
    · obtain ⟨cell, c1, c2, c3, c4, c5⟩ := hI.1.2
      exact ⟨cell, by rw [hz]; exact c1, c5, by rw [c2]; exact hf⟩
    · have hc : H[a]? = some (vp_cell (D.2 3) (n, f)) := hI.1.1 a _ hz hm
      refine ⟨_, hc, ?_, ?_⟩
      · rcases f with f | f | f | f | f <;> rfl
      · rcases f with f | f | f | f | f <;> exact hf
  exact va_getC hexec hb hml hown hlink (hG.2.2.2.2.2.1.use (A := args)) hsel hinst hnat hG.2.2.2.1 key hframes hlocals hdg kk
theorem j_copyjz (hexec : p.tables.exec = Jvm.exec) (hb : c.code = cc) (hml : c.maxLocals = ls.size) {own : String} {index : Nat} (hown : s.vm.findClass own = some m.cls) (hlink : (Cond.methodLink own index arraycopyName).before args s = true) (hnat : (Cond.native arraycopyName).before args s = true) (hstat : (Cond.static arraycopyName).before args s = true) (hini : (Cond.initialized "java/lang/System").before args s = true)
    (hK : jK D s) (hI : jIz D z A H0 μ H locs) {r0 r1 : Option Nat} {sp dp n : Int32} {μ1 : jM} (hv : jcpj μ r0 sp r1 dp n μ1) (hframes : 1 ≤ R.frames) (hlocals : (rest.map fun v => v.category).sum + (nativeFrameWords "java/lang/System" "arraycopy" 5 + 11) ≤ R.locals) (hdg : decode cc pc = .ok (.invokestatic index, 3))
    (kk : ∀ (H1 : Heap) (locs1 : List Loc), jIz D z A H0 μ1 H1 locs1 → W p l e R s m args below meth c H1 locs1 cells slots Q (F0 m (pc + 3) ls rest)) : W p l e R s m args below meth c H locs cells slots Q (F0 m pc ls (.int n :: .int dp :: va_rf r1 :: .int sp :: va_rf r0 :: rest)) := by
  obtain ⟨a0, a1, n0, n1, f, g, rfl, rfl, hm0, hm1, h1, h2, h3, h4, h5, rfl⟩ := hv
  have hne0 := hI.ar hm0 (Or.inl (by decide))
  have hne1 := hI.ar hm1 (Or.inl (by decide))
  have hAa := hI.2.1 a1 _ hm1 hne1
  obtain ⟨q0, hq0⟩ := jW_of (D := D) hm0 (hI.1.lt hm0) hne0
  obtain ⟨q1, hq1⟩ := jW_of (D := D) hm1 (hI.1.lt hm1) hne1
  refine va_copyl (ty := .long) hexec hb hml hown hlink hnat hstat hini hK (jW_Pz (z := z) hI.1) (jW_D (z := z) (A := A) hI.2.1) hI.2.2.1 q0 q1 1 1 hq0 hq1 rfl rfl rfl h1 h2 h3 h4 h5 (fun _ _ => rfl) hframes hlocals hdg (fun H1 locs1 hP hD hS => ?_)
  exact kk H1 locs1 (hI.up hAa (jH_setz hI.1 hq1 hP (hI.z hS)) hS)
theorem j_copyqz (hexec : p.tables.exec = Jvm.exec) (hb : c.code = cc) (hml : c.maxLocals = ls.size) {own : String} {index : Nat} (hown : s.vm.findClass own = some m.cls) (hlink : (Cond.methodLink own index arraycopyName).before args s = true) (hnat : (Cond.native arraycopyName).before args s = true) (hstat : (Cond.static arraycopyName).before args s = true) (hini : (Cond.initialized "java/lang/System").before args s = true)
    (hobj : ∀ (i : Nat) (r : vw_C), vwCl[i]? = some r → va_Nw (.castable r.1 "java/lang/Object") s) (hK : jK D s) (hI : jIz D z A H0 μ H locs) {r0 r1 : Option Nat} {sp dp n : Int32} {μ1 : jM} (hv : jcpq μ r0 sp r1 dp n μ1) (hframes : 1 ≤ R.frames) (hlocals : (rest.map fun v => v.category).sum + (nativeFrameWords "java/lang/System" "arraycopy" 5 + 11) ≤ R.locals) (hdg : decode cc pc = .ok (.invokestatic index, 3))
    (kk : ∀ (H1 : Heap) (locs1 : List Loc), jIz D z A H0 μ1 H1 locs1 → W p l e R s m args below meth c H1 locs1 cells slots Q (F0 m (pc + 3) ls rest)) : W p l e R s m args below meth c H locs cells slots Q (F0 m pc ls (.int n :: .int dp :: va_rf r1 :: .int sp :: va_rf r0 :: rest)) := by
  obtain ⟨a0, a1, n0, n1, f, g, rfl, rfl, hm0, hm1, hp0, hp1, h1, h2, h3, h4, h5, h6, rfl⟩ := hv
  have hne0 := hI.ar hm0 (Or.inr hp0)
  have hne1 := hI.ar hm1 (Or.inr hp1)
  have hAa := hI.2.1 a1 _ hm1 hne1
  obtain ⟨q0, hq0⟩ := jW_of (D := D) hm0 (hI.1.lt hm0) hne0
  obtain ⟨q1, hq1⟩ := jW_of (D := D) hm1 (hI.1.lt hm1) hne1
  refine va_copyM hexec hb hml hown hlink hnat hstat hini hK (jW_Pz (z := z) hI.1) (jW_D (z := z) (A := A) hI.2.1) hI.2.2.1 q0 q1 3 3 (E0 := "java/lang/Object") (E1 := "java/lang/Object") hq0 hq1 rfl rfl h1 h2 h3 h4 h5 (fun i hi y hy => ?_) hframes hlocals hdg (fun H1 locs1 hP hD hS => ?_)
  · obtain ⟨ci, fs, hmy⟩ := h6 i hi y hy
    exact j_anyz hK hI hobj hmy
  · exact kk H1 locs1 (hI.up hAa (jH_setz hI.1 hq1 hP (hI.z hS)) hS)
end JMO2
