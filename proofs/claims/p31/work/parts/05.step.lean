/-! ===== one instruction each, over the memory as a function ===== -/
section JST
variable {p : Program} {l : Launch} {e : Env} {R : Room} {s : State} {m : MethodId} {args : Array Value} {below : List Frame} {meth : Method} {c : Code} {H : Heap} {locs : List Loc} {cells slots : Nat} {Q : State → Prop}
variable {cc : ByteArray} {pc : Nat} {ls : Array Slot} {rest : List Value} {D : jD} {A : Nat → Prop} {H0 : Heap} {μ : jM} {z : Nat × Nat}
theorem j_get (hexec : p.tables.exec = Jvm.exec) (hb : c.code = cc) {own ref C : String} {T : u_T} {N ci index : Nat} (hts : ∀ w ∈ u_ws C T N, w.before args s = true) (hown : s.vm.findClass own = some m.cls) (hK : jK D s) (hI : jI D z A H0 μ H locs) (hc : vwCl[ci]? = some (C, T, N)) (k : Nat) (hk : k < N)
    (hlink : (Cond.fieldLink own index ref (T k).2.1 (T k).2.2.1).before args s = true) (hsame : ∀ x, s.fieldFound? (T k).1 (T k).2.1 (T k).2.2.1 = some x → s.fieldFound? ref (T k).2.1 (T k).2.2.1 = some x) {r : Option Nat} {v : Value} (hv : jg μ r ci k = some v) (hdg : decode cc pc = .ok (.getfield index, 3))
    (kk : W p l e R s m args below meth c H locs cells slots Q (F0 m (pc + 3) ls (v :: rest))) : W p l e R s m args below meth c H locs cells slots Q (F0 m pc ls (va_rf r :: rest)) := by
  obtain ⟨a, fs, rfl, hm, hf⟩ := jg_of hv
  exact va_get hexec hb hts (fun _ h => h) hown hK (jW1 hI.1 hm) 0 rfl hc k hk hlink hsame hf hdg kk
theorem j_put (hexec : p.tables.exec = Jvm.exec) (hb : c.code = cc) {own ref C : String} {T : u_T} {N ci index : Nat} (hts : ∀ w ∈ u_ws C T N, w.before args s = true) (ty0 : Nat → FieldType) (hty : ∀ k, k < N → parseFieldDescriptor (T k).2.2.1 = some (ty0 k)) (hnm : ∀ a, a < N → ∀ b, b < N → a ≠ b → (T a).2.1 ≠ (T b).2.1) (hown : s.vm.findClass own = some m.cls) (hK : jK D s) (hI : jI D z A H0 μ H locs) (hc : vwCl[ci]? = some (C, T, N)) (k : Nat) (hk : k < N)
    (hlink : (Cond.fieldLink own index ref (T k).2.1 (T k).2.2.1).before args s = true) (hsame : ∀ x, s.fieldFound? (T k).1 (T k).2.1 (T k).2.2.1 = some x → s.fieldFound? ref (T k).2.1 (T k).2.2.1 = some x) (hfin : (T k).2.2.2 = false) {ty : FieldType} {v : Value} (hd : parseFieldDescriptor (T k).2.2.1 = some ty) (hn : narrow ty v = v) (hfit : fits ty v = true) {r : Option Nat} {μ1 : jM} (hv : jp μ r ci k v = some μ1) (hdg : decode cc pc = .ok (.putfield index, 3))
    (kk : ∀ (H1 : Heap) (locs1 : List Loc), jI D z A H0 μ1 H1 locs1 → W p l e R s m args below meth c H1 locs1 cells slots Q (F0 m (pc + 3) ls rest)) : W p l e R s m args below meth c H locs cells slots Q (F0 m pc ls (v :: va_rf r :: rest)) := by
  obtain ⟨a, fs, rfl, hm, hkl, rfl⟩ := jp_of hv
  have hne := hI.ob hm
  have hAa := hI.2.1 a _ hm hne
  obtain ⟨q0, hq⟩ := jW_of (D := D) hm (hI.1.lt hm) hne
  refine va_put hexec hb hts (fun _ h => h) ty0 hty hnm hown hK (jW_P (z := z) hI.1) (jW_D (z := z) (A := A) hI.2.1) hI.2.2.1 q0 hq hc k hk hlink hsame hfin hd hn hfit hkl hdg (fun H1 locs1 hP hD hS => ?_)
  exact kk H1 locs1 (hI.up hAa (jH_set hI.1 hq hP (hI.z hS)) hS)
theorem j_putF (hexec : p.tables.exec = Jvm.exec) (hb : c.code = cc) {own ref C : String} {T : u_T} {N ci index : Nat} (hts : ∀ w ∈ u_ws C T N, w.before args s = true) (ty0 : Nat → FieldType) (hty : ∀ k, k < N → parseFieldDescriptor (T k).2.2.1 = some (ty0 k)) (hnm : ∀ a, a < N → ∀ b, b < N → a ≠ b → (T a).2.1 ≠ (T b).2.1) (hown : s.vm.findClass own = some m.cls) (hK : jK D s) (hI : jI D z A H0 μ H locs) (hc : vwCl[ci]? = some (C, T, N)) (k : Nat) (hk : k < N)
    (hlink : (Cond.fieldLink own index ref (T k).2.1 (T k).2.2.1).before args s = true) (hsame : ∀ x, s.fieldFound? (T k).1 (T k).2.1 (T k).2.2.1 = some x → s.fieldFound? ref (T k).2.1 (T k).2.2.1 = some x) (hfin : (T k).2.2.2 = true) (hin2 : meth.name = "<init>") (hdecl : (T k).1 = own) {ty : FieldType} {v : Value} (hd : parseFieldDescriptor (T k).2.2.1 = some ty) (hn : narrow ty v = v) (hfit : fits ty v = true) {r : Option Nat} {μ1 : jM} (hv : jp μ r ci k v = some μ1) (hdg : decode cc pc = .ok (.putfield index, 3))
    (kk : ∀ (H1 : Heap) (locs1 : List Loc), jI D z A H0 μ1 H1 locs1 → W p l e R s m args below meth c H1 locs1 cells slots Q (F0 m (pc + 3) ls rest)) : W p l e R s m args below meth c H locs cells slots Q (F0 m pc ls (v :: va_rf r :: rest)) := by
  obtain ⟨a, fs, rfl, hm, hkl, rfl⟩ := jp_of hv
  have hne := hI.ob hm
  have hAa := hI.2.1 a _ hm hne
  obtain ⟨q0, hq⟩ := jW_of (D := D) hm (hI.1.lt hm) hne
  refine va_putF hexec hb hts (fun _ h => h) ty0 hty hnm hown hK (jW_P (z := z) hI.1) (jW_D (z := z) (A := A) hI.2.1) hI.2.2.1 q0 hq hc k hk hlink hsame hfin hin2 hdecl hd hn hfit hkl hdg (fun H1 locs1 hP hD hS => ?_)
  exact kk H1 locs1 (hI.up hAa (jH_set hI.1 hq hP (hI.z hS)) hS)
theorem j_alen (hexec : p.tables.exec = Jvm.exec) (hb : c.code = cc) (hK : jK D s) (hI : jI D z A H0 μ H locs) {r : Option Nat} {n : Nat} (hv : jal μ r = some n) (hdg : decode cc pc = .ok (.arraylength, 1))
    (kk : W p l e R s m args below meth c H locs cells slots Q (F0 m (pc + 1) ls (.int (Int32.ofNat n) :: rest))) : W p l e R s m args below meth c H locs cells slots Q (F0 m pc ls (va_rf r :: rest)) := by
  obtain ⟨a, t, f, rfl, hm, h4⟩ := jal_of hv
  have hex : ∃ ty, (jty D)[t]? = some (D.2 t, ty) := by
    rcases (show t = 0 ∨ t = 1 ∨ t = 2 ∨ t = 3 by omega) with rfl | rfl | rfl | rfl <;> exact ⟨_, rfl⟩
  obtain ⟨ty, hty⟩ := hex
  exact va_alen hexec hb hK (jW1 hI.1 hm) 0 t (x := (n, f)) rfl hty rfl hdg kk
theorem j_iald (hexec : p.tables.exec = Jvm.exec) (hb : c.code = cc) (hK : jK D s) (hI : jI D z A H0 μ H locs) {r : Option Nat} {i v : Int32} (hv : jai 0 μ r i = some v) (hdg : decode cc pc = .ok (.iaload, 1))
    (kk : W p l e R s m args below meth c H locs cells slots Q (F0 m (pc + 1) ls (.int v :: rest))) : W p l e R s m args below meth c H locs cells slots Q (F0 m pc ls (.int i :: va_rf r :: rest)) := by
  obtain ⟨a, n, f, rfl, hm, hin, rfl⟩ := jai_of hv
  exact va_iald hexec hb hK (jW1 hI.1 hm) 0 0 rfl rfl hin hdg kk
theorem j_zald (hexec : p.tables.exec = Jvm.exec) (hb : c.code = cc) (hK : jK D s) (hI : jI D z A H0 μ H locs) {r : Option Nat} {i v : Int32} (hv : jai 2 μ r i = some v) (hdg : decode cc pc = .ok (.baload, 1))
    (kk : W p l e R s m args below meth c H locs cells slots Q (F0 m (pc + 1) ls (.int v :: rest))) : W p l e R s m args below meth c H locs cells slots Q (F0 m pc ls (.int i :: va_rf r :: rest)) := by
  obtain ⟨a, n, f, rfl, hm, hin, rfl⟩ := jai_of hv
  exact va_zald hexec hb hK (jW1 hI.1 hm) 0 2 rfl rfl hin hdg kk
theorem j_lald (hexec : p.tables.exec = Jvm.exec) (hb : c.code = cc) (hK : jK D s) (hI : jI D z A H0 μ H locs) {r : Option Nat} {i : Int32} {v : Int64} (hv : jaj μ r i = some v) (hdg : decode cc pc = .ok (.laload, 1))
    (kk : W p l e R s m args below meth c H locs cells slots Q (F0 m (pc + 1) ls (.long v :: rest))) : W p l e R s m args below meth c H locs cells slots Q (F0 m pc ls (.int i :: va_rf r :: rest)) := by
  obtain ⟨a, n, f, rfl, hm, hin, rfl⟩ := jaj_of hv
  exact va_lald hexec hb hK (jW1 hI.1 hm) 0 1 rfl rfl hin hdg kk
theorem j_aald (hexec : p.tables.exec = Jvm.exec) (hb : c.code = cc) (hK : jK D s) (hI : jI D z A H0 μ H locs) {r : Option Nat} {i : Int32} {v : Option Nat} (hv : jaq μ r i = some v) (hdg : decode cc pc = .ok (.aaload, 1))
    (kk : W p l e R s m args below meth c H locs cells slots Q (F0 m (pc + 1) ls (va_rf v :: rest))) : W p l e R s m args below meth c H locs cells slots Q (F0 m pc ls (.int i :: va_rf r :: rest)) := by
  obtain ⟨a, n, f, rfl, hm, hin, rfl⟩ := jaq_of hv
  exact va_aldq hexec hb hK (jW1 hI.1 hm) 0 3 rfl rfl hin hdg kk
theorem j_iast (hexec : p.tables.exec = Jvm.exec) (hb : c.code = cc) (hK : jK D s) (hI : jI D z A H0 μ H locs) {r : Option Nat} {i x : Int32} {μ1 : jM} (hv : jsi 0 μ r i x = some μ1) (hdg : decode cc pc = .ok (.iastore, 1))
    (kk : ∀ (H1 : Heap) (locs1 : List Loc), jI D z A H0 μ1 H1 locs1 → W p l e R s m args below meth c H1 locs1 cells slots Q (F0 m (pc + 1) ls rest)) : W p l e R s m args below meth c H locs cells slots Q (F0 m pc ls (.int x :: .int i :: va_rf r :: rest)) := by
  obtain ⟨a, n, f, rfl, hm, hin, rfl⟩ := jsi_of hv
  have hne := hI.ar hm (Or.inl (by decide))
  have hAa := hI.2.1 a _ hm hne
  obtain ⟨q0, hq⟩ := jW_of (D := D) hm (hI.1.lt hm) hne
  refine va_iast hexec hb hK (jW_P (z := z) hI.1) (jW_D (z := z) (A := A) hI.2.1) hI.2.2.1 q0 0 hq rfl hin hdg (fun H1 locs1 hP hD hS => ?_)
  exact kk H1 locs1 (hI.up hAa (jH_set hI.1 hq hP (hI.z hS)) hS)
theorem j_zast (hexec : p.tables.exec = Jvm.exec) (hb : c.code = cc) (hK : jK D s) (hI : jI D z A H0 μ H locs) {r : Option Nat} {i x : Int32} {μ1 : jM} (hv : jsi 2 μ r i (vp_nar .boolean x) = some μ1) (hdg : decode cc pc = .ok (.bastore, 1))
    (kk : ∀ (H1 : Heap) (locs1 : List Loc), jI D z A H0 μ1 H1 locs1 → W p l e R s m args below meth c H1 locs1 cells slots Q (F0 m (pc + 1) ls rest)) : W p l e R s m args below meth c H locs cells slots Q (F0 m pc ls (.int x :: .int i :: va_rf r :: rest)) := by
  obtain ⟨a, n, f, rfl, hm, hin, rfl⟩ := jsi_of hv
  have hne := hI.ar hm (Or.inl (by decide))
  have hAa := hI.2.1 a _ hm hne
  obtain ⟨q0, hq⟩ := jW_of (D := D) hm (hI.1.lt hm) hne
  refine va_zast hexec hb hK (jW_P (z := z) hI.1) (jW_D (z := z) (A := A) hI.2.1) hI.2.2.1 q0 2 hq rfl hin hdg (fun H1 locs1 hP hD hS => ?_)
  exact kk H1 locs1 (hI.up hAa (jH_set hI.1 hq hP (hI.z hS)) hS)
theorem j_last (hexec : p.tables.exec = Jvm.exec) (hb : c.code = cc) (hK : jK D s) (hI : jI D z A H0 μ H locs) {r : Option Nat} {i : Int32} {x : Int64} {μ1 : jM} (hv : jsj μ r i x = some μ1) (hdg : decode cc pc = .ok (.lastore, 1))
    (kk : ∀ (H1 : Heap) (locs1 : List Loc), jI D z A H0 μ1 H1 locs1 → W p l e R s m args below meth c H1 locs1 cells slots Q (F0 m (pc + 1) ls rest)) : W p l e R s m args below meth c H locs cells slots Q (F0 m pc ls (.long x :: .int i :: va_rf r :: rest)) := by
  obtain ⟨a, n, f, rfl, hm, hin, rfl⟩ := jsj_of hv
  have hne := hI.ar hm (Or.inl (by decide))
  have hAa := hI.2.1 a _ hm hne
  obtain ⟨q0, hq⟩ := jW_of (D := D) hm (hI.1.lt hm) hne
  refine va_last hexec hb hK (jW_P (z := z) hI.1) (jW_D (z := z) (A := A) hI.2.1) hI.2.2.1 q0 1 hq rfl hin hdg (fun H1 locs1 hP hD hS => ?_)
  exact kk H1 locs1 (hI.up hAa (jH_set hI.1 hq hP (hI.z hS)) hS)
/-- a reference that is there -/
theorem j_any (hK : jK D s) (hI : jI D z A H0 μ H locs) (hobj : ∀ (i : Nat) (r : vw_C), vwCl[i]? = some r → va_Nw (.castable r.1 "java/lang/Object") s) {v ci : Nat} {fs : List Value} (hm : μ v = some (.inr (ci, fs))) : va_Any "java/lang/Object" s H v := by
  obtain ⟨r, hr, -⟩ := hI.1 v _ hm
  refine va_rAny hK (jW1 hI.1 hm) (q0 := 0) rfl hr (fun comp c0 h1 h2 => ?_)
  obtain ⟨d0, t0, f1, f2, f3⟩ := Cond.castable_spec (va_Nw.use (A := #[]) rfl (hobj _ _ hr))
  cases h1.symm.trans f2
  cases h2.symm.trans f1
  exact f3
theorem j_aast (hexec : p.tables.exec = Jvm.exec) (hb : c.code = cc) (hK : jK D s) (hI : jI D z A H0 μ H locs) (hobj : ∀ (i : Nat) (r : vw_C), vwCl[i]? = some r → va_Nw (.castable r.1 "java/lang/Object") s) {r x : Option Nat} {i : Int32} {μ1 : jM} (hv : jsq μ r i x = some μ1) (hx : ∃ v ci fs, x = some v ∧ μ v = some (.inr (ci, fs))) (hdg : decode cc pc = .ok (.aastore, 1))
    (kk : ∀ (H1 : Heap) (locs1 : List Loc), jI D z A H0 μ1 H1 locs1 → W p l e R s m args below meth c H1 locs1 cells slots Q (F0 m (pc + 1) ls rest)) : W p l e R s m args below meth c H locs cells slots Q (F0 m pc ls (va_rf x :: .int i :: va_rf r :: rest)) := by
  obtain ⟨v, ci, fs, rfl, hmv⟩ := hx
  obtain ⟨a, n, f, rfl, hm, hin, rfl⟩ := jsq_of hv
  have hne := hI.ar hm (Or.inr (Nat.pos_of_ne_zero (fun q => hin (Or.inr (by have q : n = 0 := q; rw [q]; exact Nat.zero_le _)))))
  have hAa := hI.2.1 a _ hm hne
  obtain ⟨q0, hq⟩ := jW_of (D := D) hm (hI.1.lt hm) hne
  refine va_astqM hexec hb hK (jW_P (z := z) hI.1) (jW_D (z := z) (A := A) hI.2.1) hI.2.2.1 q0 3 (E := "java/lang/Object") hq rfl (j_any hK hI hobj hmv) hin hdg (fun H1 locs1 hP hD hS => ?_)
  exact kk H1 locs1 (hI.up hAa (jH_set hI.1 hq hP (hI.z hS)) hS)
theorem j_new (hexec : p.tables.exec = Jvm.exec) (hb : c.code = cc) {own C : String} {T : u_T} {N ci index : Nat} (hts : ∀ w ∈ u_ws C T N, w.before args s = true) (ty : Nat → FieldType) (hty : ∀ k, k < N → parseFieldDescriptor (T k).2.2.1 = some (ty k)) (hown : s.vm.findClass own = some m.cls) (hcl : (Cond.classLink own index C).before args s = true) (hinst : (Cond.instantiable C N).before args s = true) (hini : (Cond.initialized C).before args s = true)
    (hK : jK D s) (hI : jI D z A H0 μ H locs) (hc : vwCl[ci]? = some (C, T, N)) {fs : List Value} (hfs : ∀ j, j < N → defaultValue (ty j) = vp_V fs j) (hcells : cells + 1 ≤ R.cells) (hslots : slots + N ≤ R.slots) (hdg : decode cc pc = .ok (.new index, 3))
    (kk : ∀ (q : Nat) (H1 : Heap), μ q = none → jI D z A H0 (va_up μ q (some (.inr (ci, fs)))) H1 locs → W p l e R s m args below meth c H1 locs (cells + 1) (slots + N) Q (F0 m (pc + 3) ls (va_rf (some q) :: rest))) : W p l e R s m args below meth c H locs cells slots Q (F0 m pc ls rest) := by
  refine va_new (ci := ci) (fs := fs) hexec hb hts (fun _ h => h) ty hty hown hcl hinst hini hK (jW_P (z := z) hI.1) (jW_D (z := z) (A := A) hI.2.1) hI.2.2.1 hI.2.2.2.1 hc hfs hcells hslots hdg (fun q H1 hP hD hS => ?_)
  have hAq := hD.2 (jW D z μ H.size).length (q, _) (j_lst _ _)
  obtain ⟨hn, hH⟩ := jH_push (e1 := .inr (ci, fs)) hI.1 (fun y => hI.2.2.2.2.2 (by rw [← y]; exact hAq)) hP hD (hI.z hS)
  exact kk q H1 hn (hI.up hAq hH hS)
theorem j_newa (hexec : p.tables.exec = Jvm.exec) (hb : c.code = cc) {atype : ArrayType} (harr : (Cond.arrayClass (newarray.typeOf atype)).before args s = true) {ty : FieldType} (hty : newarray.typeOf atype = ty) (hK : jK D s) (hI : jI D z A H0 μ H locs) {t : Nat}
    (hcA : ∀ cA : ClassId, s.vm.findClass ("[" ++ ty.toString) = some cA → cA = D.2 t) {n : Int32} {N' : Nat} {a0 : vp_A} (ha : ∀ cA : ClassId, vp_cell cA a0 = arrV cA N' (fun _ => defaultValue ty)) (hn : ¬ n < 0) (hN : n.toNatClampNeg = N') (hbytes : N' * componentBytes ty ≤ 536870912) (hcells : cells + 1 ≤ R.cells) (hslots : slots + N' ≤ R.slots) (hdg : decode cc pc = .ok (.newarray atype, 2))
    (kk : ∀ (q : Nat) (H1 : Heap), μ q = none → jI D z A H0 (va_up μ q (some (.inl (t, a0)))) H1 locs → W p l e R s m args below meth c H1 locs (cells + 1) (slots + N') Q (F0 m (pc + 2) ls (va_rf (some q) :: rest))) : W p l e R s m args below meth c H locs cells slots Q (F0 m pc ls (.int n :: rest)) := by
  subst hty
  refine va_newaK hexec hb harr rfl hdg rfl hn hN hbytes hcells hslots rfl fun H1 cA e1 z1 o1 hAr hNm => ?_
  have hcA' := hcA cA hNm
  subst hcA'
  have hnone : μ H.size = none := by
    cases hc : μ H.size with
    | none => rfl
    | some e => exact absurd (hI.1.lt hc) (Nat.lt_irrefl _)
  refine kk H.size H1 hnone (hI.up (hI.2.2.2.1 _ hI.2.2.1.1) (fun b e hbe => ?_) ⟨Nat.le_trans hI.2.2.1.1 (by omega), fun x h1 h2 => (o1 x (Nat.lt_of_lt_of_le h1 hI.2.2.1.1)).trans (hI.2.2.1.2.1 x h1 h2), hI.2.2.1.2.2⟩)
  unfold va_up at hbe
  by_cases hba : b = H.size
  · subst hba
    rw [if_pos rfl] at hbe
    cases hbe
    show H1[H.size]? = some (vp_cell _ _)
    rw [ha]
    exact e1
  · rw [if_neg hba] at hbe
    exact (hI.1 b e hbe).kept (o1 b (hI.1.lt hbe))
theorem j_newq (hexec : p.tables.exec = Jvm.exec) (hb : c.code = cc) {own C : String} {index : Nat} (hown : s.vm.findClass own = some m.cls) (hclink : (Cond.classLink own index C).before args s = true) (hover : va_AO C s) (hK : jK D s) (hI : jI D z A H0 μ H locs)
    (hC : C = "java/lang/Object") {n : Int32} {N' : Nat} (hn : ¬ n < 0) (hN : n.toNatClampNeg = N') (hbytes : N' * 4 ≤ 536870912) (hcells : cells + 1 ≤ R.cells) (hslots : slots + N' ≤ R.slots) (hdg : decode cc pc = .ok (.anewarray index, 3))
    (kk : ∀ (q : Nat) (H1 : Heap), μ q = none → jI D z A H0 (va_up μ q (some (.inl (3, N', .inr (.inr (.inr (.inr (fun _ => none)))))))) H1 locs → W p l e R s m args below meth c H1 locs (cells + 1) (slots + N') Q (F0 m (pc + 3) ls (va_rf (some q) :: rest))) : W p l e R s m args below meth c H locs cells slots Q (F0 m pc ls (.int n :: rest)) := by
  subst hC
  refine va_newq hexec hb hown hclink hover hK (jW_P (z := z) hI.1) (jW_D (z := z) (A := A) hI.2.1) hI.2.2.1 hI.2.2.2.1 hn hN hbytes hcells hslots hdg (fun q cA H1 hK1 hP hD hS => ?_)
  have h1 := (hK1.2 4 (cA, .object "java/lang/Object") rfl).2
  have h2 := (hK.2 3 (D.2 3, .object "java/lang/Object") rfl).2
  obtain ⟨_, _, _, _, _, h1⟩ := h1
  obtain ⟨_, _, _, _, _, h2⟩ := h2
  have hcA : cA = D.2 3 := Option.some.inj (h1.symm.trans h2)
  subst hcA
  have hAq := hD.2 (jW D z μ H.size).length (q, _) (j_lst _ _)
  obtain ⟨hn1, hH⟩ := jH_push (e1 := .inl (3, N', .inr (.inr (.inr (.inr (fun _ => none)))))) hI.1 (fun y => hI.2.2.2.2.2 (by rw [← y]; exact hAq)) hP hD (hI.z hS)
  exact kk q H1 hn1 (hI.up hAq hH hS)
theorem j_cast (hexec : p.tables.exec = Jvm.exec) (hb : c.code = cc) {own C : String} {T : u_T} {N ci index : Nat} (hown : s.vm.findClass own = some m.cls) (hlink : (Cond.classLink own index C).before args s = true) (hK : jK D s) (hI : jI D z A H0 μ H locs) (hc : vwCl[ci]? = some (C, T, N)) {r : Option Nat} (hv : jc μ r ci) (hdg : decode cc pc = .ok (.checkcast index, 3))
    (kk : W p l e R s m args below meth c H locs cells slots Q (F0 m (pc + 3) ls (va_rf r :: rest))) : W p l e R s m args below meth c H locs cells slots Q (F0 m pc ls (va_rf r :: rest)) := by
  rcases hv with rfl | ⟨a, fs, rfl, hm⟩
  · exact lv_castN hexec hb hdg kk
  · obtain ⟨cell, h1, h2, h3⟩ := va_recv hK (jW1 hI.1 hm) (q0 := 0) hc rfl
    have hat := (hK.1 ci _ hc).2
    have hasg := va_assign hat
    intro T hT X
    obtain ⟨vm', X', st⟩ := X.checkcastYes hexec hown hlink (by rw [hT]; exact h1) h2 h3 (by rw [Option.some.inj (h3.symm.trans hat.1)]; exact hasg) (g := F0 m pc ls (va_rf (some a) :: rest)) rfl rfl (by rw [hb]; exact hdg)
    obtain ⟨t, a1, b1⟩ := kk (T.setVm vm') hT X'
    exact ⟨t, st t a1, b1⟩
theorem j_aload_n (hexec : p.tables.exec = Jvm.exec) (hb : c.code = cc) {k : Fin 4} {i : Nat} {r : Option Nat} (hdg : decode cc pc = .ok (.aload_n k, 1)) (hi : (k : Nat) = i) (hl : ls[i]? = some (.val (va_rf r)))
    (kk : W p l e R s m args below meth c H locs cells slots Q (F0 m (pc + 1) ls (va_rf r :: rest))) : W p l e R s m args below meth c H locs cells slots Q (F0 m pc ls rest) := by
  cases r with
  | none => exact lv_aload_nN hexec hb hdg hi hl kk
  | some a => exact lv_aload_n hexec hb hdg hi hl kk
theorem j_aload (hexec : p.tables.exec = Jvm.exec) (hb : c.code = cc) {i : Nat} {r : Option Nat} (hdg : decode cc pc = .ok (.aload i, 2)) (hl : ls[i]? = some (.val (va_rf r)))
    (kk : W p l e R s m args below meth c H locs cells slots Q (F0 m (pc + 2) ls (va_rf r :: rest))) : W p l e R s m args below meth c H locs cells slots Q (F0 m pc ls rest) := by
  cases r with
  | none => exact lv_aloadN hexec hb hdg hl kk
  | some a => exact lv_aload hexec hb hdg hl kk
theorem j_astore_n (hexec : p.tables.exec = Jvm.exec) (hb : c.code = cc) {k : Fin 4} {i nL : Nat} {r : Option Nat} {lv lv' : List (Nat × Value)} (hdg : decode cc pc = .ok (.astore_n k, 1)) (hi : (k : Nat) = i) (h : lv_has ls nL lv) (hn : i < nL) (hl : (i, va_rf r) :: lv.filter (fun q => !(q.1 == i) && !(q.1 + 1 == i && q.2.category == 2)) = lv')
    (kk : ∀ ls' : Array Slot, lv_has ls' nL lv' → W p l e R s m args below meth c H locs cells slots Q (F0 m (pc + 1) ls' rest)) : W p l e R s m args below meth c H locs cells slots Q (F0 m pc ls (va_rf r :: rest)) := by
  cases r with
  | none => exact lv_astore_nN hexec hb hdg hi h hn hl kk
  | some a => exact lv_astore_n hexec hb hdg hi h hn hl kk
theorem j_astore (hexec : p.tables.exec = Jvm.exec) (hb : c.code = cc) {i nL : Nat} {r : Option Nat} {lv lv' : List (Nat × Value)} (hdg : decode cc pc = .ok (.astore i, 2)) (h : lv_has ls nL lv) (hn : i < nL) (hl : (i, va_rf r) :: lv.filter (fun q => !(q.1 == i) && !(q.1 + 1 == i && q.2.category == 2)) = lv')
    (kk : ∀ ls' : Array Slot, lv_has ls' nL lv' → W p l e R s m args below meth c H locs cells slots Q (F0 m (pc + 2) ls' rest)) : W p l e R s m args below meth c H locs cells slots Q (F0 m pc ls (va_rf r :: rest)) := by
  cases r with
  | none => exact lv_astoreN hexec hb hdg h hn hl kk
  | some a => exact lv_astore hexec hb hdg h hn hl kk
theorem j_ifnull (hexec : p.tables.exec = Jvm.exec) (hb : c.code = cc) {r : Option Nat} {off : Int} {tgt : Nat} (hdg : decode cc pc = .ok (.ifnull off, 3)) (ht : (pc : Int) + off = (tgt : Int))
    (kt : r = none → W p l e R s m args below meth c H locs cells slots Q (F0 m tgt ls rest)) (kf : ¬ r = none → W p l e R s m args below meth c H locs cells slots Q (F0 m (pc + 3) ls rest)) : W p l e R s m args below meth c H locs cells slots Q (F0 m pc ls (va_rf r :: rest)) := by
  cases r with
  | none => exact lv_ifnullN hexec hb hdg ht (kt rfl)
  | some a => exact lv_ifnull hexec hb hdg (kf (fun z => by cases z))
theorem j_ifnonnull (hexec : p.tables.exec = Jvm.exec) (hb : c.code = cc) {r : Option Nat} {off : Int} {tgt : Nat} (hdg : decode cc pc = .ok (.ifnonnull off, 3)) (ht : (pc : Int) + off = (tgt : Int))
    (kt : ¬ r = none → W p l e R s m args below meth c H locs cells slots Q (F0 m tgt ls rest)) (kf : r = none → W p l e R s m args below meth c H locs cells slots Q (F0 m (pc + 3) ls rest)) : W p l e R s m args below meth c H locs cells slots Q (F0 m pc ls (va_rf r :: rest)) := by
  cases r with
  | none => exact lv_ifnonnullN hexec hb hdg (kf rfl)
  | some a => exact lv_ifnonnull hexec hb hdg ht (kt (fun z => by cases z))
theorem j_null (hexec : p.tables.exec = Jvm.exec) (hb : c.code = cc) (hdg : decode cc pc = .ok (.aconst_null, 1)) (kk : W p l e R s m args below meth c H locs cells slots Q (F0 m (pc + 1) ls (va_rf none :: rest))) : W p l e R s m args below meth c H locs cells slots Q (F0 m pc ls rest) := lv_null hexec hb hdg kk
theorem j_lcmp_lt (hexec : p.tables.exec = Jvm.exec) (hb : c.code = cc) {x y : Int64} {off : Int} {tgt : Nat} (hd1 : decode cc pc = .ok (.lcmp, 1)) (hd2 : decode cc (pc + 1) = .ok (.ifCond .lt off, 3)) (ht : ((pc + 1 : Nat) : Int) + off = (tgt : Int))
    (kt : x < y → W p l e R s m args below meth c H locs cells slots Q (F0 m tgt ls rest)) (kf : ¬ x < y → W p l e R s m args below meth c H locs cells slots Q (F0 m (pc + 1 + 3) ls rest)) : W p l e R s m args below meth c H locs cells slots Q (F0 m pc ls (.long y :: .long x :: rest)) :=
  W.lcmp hexec hb hd1 (lv_if_lt hexec hb hd2 ht (fun h => kt ((lg_cmp_lt x y).mp h)) (fun h => kf (fun z => h ((lg_cmp_lt x y).mpr z))))
theorem j_lcmp_ge (hexec : p.tables.exec = Jvm.exec) (hb : c.code = cc) {x y : Int64} {off : Int} {tgt : Nat} (hd1 : decode cc pc = .ok (.lcmp, 1)) (hd2 : decode cc (pc + 1) = .ok (.ifCond .ge off, 3)) (ht : ((pc + 1 : Nat) : Int) + off = (tgt : Int))
    (kt : y ≤ x → W p l e R s m args below meth c H locs cells slots Q (F0 m tgt ls rest)) (kf : ¬ y ≤ x → W p l e R s m args below meth c H locs cells slots Q (F0 m (pc + 1 + 3) ls rest)) : W p l e R s m args below meth c H locs cells slots Q (F0 m pc ls (.long y :: .long x :: rest)) :=
  W.lcmp hexec hb hd1 (lv_if_ge hexec hb hd2 ht (fun h => kt ((lg_cmp_ge x y).mp h)) (fun h => kf (fun z => h ((lg_cmp_ge x y).mpr z))))
theorem j_lcmp_gt (hexec : p.tables.exec = Jvm.exec) (hb : c.code = cc) {x y : Int64} {off : Int} {tgt : Nat} (hd1 : decode cc pc = .ok (.lcmp, 1)) (hd2 : decode cc (pc + 1) = .ok (.ifCond .gt off, 3)) (ht : ((pc + 1 : Nat) : Int) + off = (tgt : Int))
    (kt : y < x → W p l e R s m args below meth c H locs cells slots Q (F0 m tgt ls rest)) (kf : ¬ y < x → W p l e R s m args below meth c H locs cells slots Q (F0 m (pc + 1 + 3) ls rest)) : W p l e R s m args below meth c H locs cells slots Q (F0 m pc ls (.long y :: .long x :: rest)) :=
  W.lcmp hexec hb hd1 (lv_if_gt hexec hb hd2 ht (fun h => kt ((lg_cmp_gt x y).mp h)) (fun h => kf (fun z => h ((lg_cmp_gt x y).mpr z))))
theorem j_lcmp_le (hexec : p.tables.exec = Jvm.exec) (hb : c.code = cc) {x y : Int64} {off : Int} {tgt : Nat} (hd1 : decode cc pc = .ok (.lcmp, 1)) (hd2 : decode cc (pc + 1) = .ok (.ifCond .le off, 3)) (ht : ((pc + 1 : Nat) : Int) + off = (tgt : Int))
    (kt : x ≤ y → W p l e R s m args below meth c H locs cells slots Q (F0 m tgt ls rest)) (kf : ¬ x ≤ y → W p l e R s m args below meth c H locs cells slots Q (F0 m (pc + 1 + 3) ls rest)) : W p l e R s m args below meth c H locs cells slots Q (F0 m pc ls (.long y :: .long x :: rest)) :=
  W.lcmp hexec hb hd1 (lv_if_le hexec hb hd2 ht (fun h => kt ((lg_cmp_le x y).mp h)) (fun h => kf (fun z => h ((lg_cmp_le x y).mpr z))))
theorem j_lcmp_eq (hexec : p.tables.exec = Jvm.exec) (hb : c.code = cc) {x y : Int64} {off : Int} {tgt : Nat} (hd1 : decode cc pc = .ok (.lcmp, 1)) (hd2 : decode cc (pc + 1) = .ok (.ifCond .eq off, 3)) (ht : ((pc + 1 : Nat) : Int) + off = (tgt : Int))
    (kt : x = y → W p l e R s m args below meth c H locs cells slots Q (F0 m tgt ls rest)) (kf : ¬ x = y → W p l e R s m args below meth c H locs cells slots Q (F0 m (pc + 1 + 3) ls rest)) : W p l e R s m args below meth c H locs cells slots Q (F0 m pc ls (.long y :: .long x :: rest)) :=
  W.lcmp hexec hb hd1 (lv_if_eq hexec hb hd2 ht (fun h => kt ((lg_cmp_eq x y).mp h)) (fun h => kf (fun z => h ((lg_cmp_eq x y).mpr z))))
theorem j_lcmp_ne (hexec : p.tables.exec = Jvm.exec) (hb : c.code = cc) {x y : Int64} {off : Int} {tgt : Nat} (hd1 : decode cc pc = .ok (.lcmp, 1)) (hd2 : decode cc (pc + 1) = .ok (.ifCond .ne off, 3)) (ht : ((pc + 1 : Nat) : Int) + off = (tgt : Int))
    (kt : ¬ x = y → W p l e R s m args below meth c H locs cells slots Q (F0 m tgt ls rest)) (kf : x = y → W p l e R s m args below meth c H locs cells slots Q (F0 m (pc + 1 + 3) ls rest)) : W p l e R s m args below meth c H locs cells slots Q (F0 m pc ls (.long y :: .long x :: rest)) :=
  W.lcmp hexec hb hd1 (lv_if_ne hexec hb hd2 ht (fun h => kt (fun z => h ((lg_cmp_eq x y).mpr z))) (fun h => kf ((lg_cmp_eq x y).mp h)))
end JST
