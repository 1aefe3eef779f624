/-! ===== the class's memory: the same state as the reference's (A accounts, L lines, F flows; rows I; the row zz of numbers), scratch K and k; its cells by names (kind, index) ===== -/
def cpar (A : Nat) (I : Nat → Nat → Int32) (i : Nat) : Option Nat := if i < A ∧ ¬ I 3 i = -1 then some (pI I i) else none
def ckids (A : Nat) (I : Nat → Nat → Int32) (i : Nat) : List Nat := (List.range A).filter (fun c => decide (cpar A I c = some i))
def cmem (A : Nat) (I : Nat → Nat → Int32) (p : Nat) : List Nat := (List.range A).filter (fun c => decide (tI I c = p))
def ctops (A : Nat) (I : Nat → Nat → Int32) : List Nat := (List.range A).filter (fun c => decide (I 3 c = -1))
/-- a line behind all lines that are no dearer -/
def cins (I : Nat → Nat → Int32) (x : Nat) : List Nat → List Nat
  | [] => [x]
  | y :: l => if I 13 y ≤ I 13 x then y :: cins I x l else x :: y :: l
def crk (I : Nat → Nat → Int32) (p : Nat) : Nat → List Nat
  | 0 => []
  | l + 1 => if pL I l = p then cins I l (crk I p l) else crk I p l
def ccap (n : Nat) : Nat := if n ≤ 10 then 10 else if n ≤ 15 then 15 else 22
/-- what the lists hold: kind 4 the desk's (0 accounts, 1 tops, 2 lines, 3 flows, 4 banks), 8 the children, 11 the members, 13 the ranked lines -/
def clist (A L F : Nat) (I : Nat → Nat → Int32) (q j : Nat) : List Nat :=
  if q = 8 then ckids A I j else if q = 11 then cmem A I j else if q = 13 then crk I j L
  else if j = 0 then List.range A else if j = 1 then ctops A I else if j = 2 then List.range L else if j = 3 then List.range F else List.range 4
/-- of which kind the elements are -/
def cel (q j : Nat) : Nat := if q = 8 then 7 else if q = 11 then 7 else if q = 13 then 20 else if j ≤ 1 then 7 else if j = 2 then 20 else if j = 3 then 21 else 6
def clob (z : Nat × Nat) (ad : Nat × Nat → Nat) (A L F : Nat) (I k : Nat → Nat → Int32) (q j : Nat) : List Value :=
  [.int (k (10 + q) j), .ref (if clist A L F I q j = [] then z.1 else ad (q + 1, j)), .int (nI (clist A L F I q j).length)]
def clar (ad : Nat × Nat → Nat) (A L F : Nat) (I : Nat → Nat → Int32) (q j : Nat) : Nat → Option Nat := fun i => ((clist A L F I q j)[i]?).map (fun x => ad (cel q j, x))
def sgS (s : Nat) : Int32 := if s % 2 = 0 then 1 else -1
def sz1 (s : Nat) : Nat := (if s % 2 = 0 then 10 else 20) + s / 2
def sw1 (s i : Nat) : Nat := (if s % 2 = 0 then 30 else 40) + i
def srt (I : Nat → Nat → Int32) (s : Nat) : Int32 := if s % 2 = 0 then I 9 (s / 2) else I 10 (s / 2)
def cwt (A : Nat) (I : Nat → Nat → Int32) (zz : Nat → Int64) (s : Nat) : Nat → Int64 := fun j => match (cmem A I (s / 2))[j]? with
  | some i => zz (sw1 s i)
  | none => 0
abbrev cisp (A : Nat) (I : Nat → Nat → Int32) (p : Nat) : Prop := p < A ∧ I 3 p = -1
def cf0 (ad : Nat × Nat → Nat) : List Value := [.ref (ad (1, 0))]
def cf1 (ad : Nat × Nat → Nat) (zz : Nat → Int64) (k : Nat → Nat → Int32) : List Value := [.ref (ad (4, 0)), .ref (ad (4, 1)), .ref (ad (4, 2)), .ref (ad (4, 3)), .ref (ad (4, 4)), .ref (ad (2, 0)), .int (zz 108).toInt32, .int (k 0 1)]
def cf2 (ad : Nat × Nat → Nat) : List Value := [.ref (ad (3, 0))]
def cf6 (I : Nat → Nat → Int32) (K : Nat → Nat → Int64) (b : Nat) : List Value := [.int (nI b), .int (I 14 b), .long (K 5 b)]
def cf7 (ad : Nat × Nat → Nat) (A : Nat) (I : Nat → Nat → Int32) (zz : Nat → Int64) (K : Nat → Nat → Int64) (i : Nat) : List Value := [.int (nI i), va_rf ((cpar A I i).map (fun p => ad (7, p))), .ref (ad (10, tI I i)), .ref (ad (6, bI I i)), .ref (ad (8, i)), .int (I 6 i), .int (I 7 i), .int (I 8 i), .long (zz i), .long (zz (50 + i)), .long (K 0 i), .long (K 1 i)]
def cf10 (ad : Nat × Nat → Nat) (p : Nat) : List Value := [.int (nI p), .ref (ad (15, 2 * p)), .ref (ad (15, 2 * p + 1)), .ref (ad (11, p)), .ref (ad (13, p))]
def cf15 (ad : Nat × Nat → Nat) (I : Nat → Nat → Int32) (zz : Nat → Int64) (K : Nat → Nat → Int64) (s : Nat) : List Value := [.int (srt I s), .int (sgS s), .long (zz (sz1 s)), .long (K 4 s), .ref (ad (16, s)), .ref (ad (17, s)), .ref (ad (18, s)), .long (K 2 s), .long (K 3 s), .ref (ad (19, s))]
def cf20 (ad : Nat × Nat → Nat) (I : Nat → Nat → Int32) (zz : Nat → Int64) (K : Nat → Nat → Int64) (l : Nat) : List Value := [.ref (ad (7, pL I l)), .int (I 12 l), .int (I 13 l), .long (zz (70 + l)), .long (zz (82 + l)), .long (zz (76 + l)), .long (K 6 l), .long (K 7 l), .long (K 8 l)]
def cf21 (ad : Nat × Nat → Nat) (I : Nat → Nat → Int32) (zz : Nat → Int64) (k : Nat → Nat → Int32) (f : Nat) : List Value := [.ref (ad (7, fA I f)), .int (I 16 f), .int (I 18 f), .int (I 17 f + (zz (88 + f)).toInt32 * I 18 f), .int (I 19 f - (zz (88 + f)).toInt32), .int (k 1 f), .int (k 2 f)]
def cK (z : Nat × Nat) (ad : Nat × Nat → Nat) (A L F : Nat) (I : Nat → Nat → Int32) (zz : Nat → Int64) (K : Nat → Nat → Int64) (k : Nat → Nat → Int32) : Nat → Nat → Option jE
  | 0, j => if j = 0 then some (.inr (11, cf0 ad)) else none
  | 1, j => if j = 0 then some (.inr (6, cf1 ad zz k)) else none
  | 2, j => if j = 0 then some (.inr (5, cf2 ad)) else none
  | 3, j => if j = 0 then some (.inl (2, 451, .inl (I 20))) else none
  | 4, j => if j < 5 then some (.inr (2, clob z ad A L F I k 4 j)) else none
  | 5, j => if j < 5 ∧ clist A L F I 4 j ≠ [] then some (.inl (3, ccap (clist A L F I 4 j).length, .inr (.inr (.inr (.inr (clar ad A L F I 4 j)))))) else none
  | 6, b => if b < 4 then some (.inr (4, cf6 I K b)) else none
  | 7, i => if i < A then some (.inr (3, cf7 ad A I zz K i)) else none
  | 8, i => if i < A then some (.inr (2, clob z ad A L F I k 8 i)) else none
  | 9, i => if i < A ∧ clist A L F I 8 i ≠ [] then some (.inl (3, ccap (clist A L F I 8 i).length, .inr (.inr (.inr (.inr (clar ad A L F I 8 i)))))) else none
  | 10, p => if cisp A I p then some (.inr (9, cf10 ad p)) else none
  | 11, p => if cisp A I p then some (.inr (2, clob z ad A L F I k 11 p)) else none
  | 12, p => if cisp A I p ∧ clist A L F I 11 p ≠ [] then some (.inl (3, ccap (clist A L F I 11 p).length, .inr (.inr (.inr (.inr (clar ad A L F I 11 p)))))) else none
  | 13, p => if cisp A I p then some (.inr (2, clob z ad A L F I k 13 p)) else none
  | 14, p => if cisp A I p ∧ clist A L F I 13 p ≠ [] then some (.inl (3, ccap (clist A L F I 13 p).length, .inr (.inr (.inr (.inr (clar ad A L F I 13 p)))))) else none
  | 15, s => if cisp A I (s / 2) then some (.inr (10, cf15 ad I zz K s)) else none
  | 16, s => if cisp A I (s / 2) then some (.inl (1, 10, .inr (.inl (cwt A I zz s)))) else none
  | 17, s => if cisp A I (s / 2) then some (.inl (1, 10, .inr (.inl (K (100 + s))))) else none
  | 18, s => if cisp A I (s / 2) then some (.inl (1, 10, .inr (.inl (K (200 + s))))) else none
  | 19, s => if cisp A I (s / 2) then some (.inl (1, 10, .inr (.inl (K (300 + s))))) else none
  | 20, l => if l < L then some (.inr (8, cf20 ad I zz K l)) else none
  | 21, f => if f < F then some (.inr (7, cf21 ad I zz k f)) else none
  | _, _ => none
def cC (z : Nat × Nat) (ad : Nat × Nat → Nat) (A L F : Nat) (I : Nat → Nat → Int32) (zz : Nat → Int64) (K : Nat → Nat → Int64) (k : Nat → Nat → Int32) (x : Nat × Nat) : Option jE := cK z ad A L F I zz K k x.1 x.2
/-- the memory: nm names the class's cells, (100, 0) what is none of them -/
def cM (z : Nat × Nat) (ad : Nat × Nat → Nat) (nm : Nat → Nat × Nat) (A L F : Nat) (I : Nat → Nat → Int32) (zz : Nat → Int64) (K : Nat → Nat → Int64) (k : Nat → Nat → Int32) (μ0 : jM) : jM := fun a => match cC z ad A L F I zz K k (nm a) with
  | some e => some e
  | none => μ0 a
def cLv (A L F : Nat) (I : Nat → Nat → Int32) (x : Nat × Nat) : Prop := (cC (0, 0) (fun _ => 0) A L F I (fun _ => 0) (fun _ _ => 0) (fun _ _ => 0) x).isSome = true
def cOk (ad : Nat × Nat → Nat) (nm : Nat → Nat × Nat) (A L F : Nat) (I : Nat → Nat → Int32) : Prop :=
  (∀ x, cLv A L F I x → nm (ad x) = x) ∧ ∀ a, nm a = (100, 0) ∨ (cLv A L F I (nm a) ∧ a = ad (nm a))
theorem q22 {q : Nat} (h : ¬ 22 ≤ q) : q = 0 ∨ q = 1 ∨ q = 2 ∨ q = 3 ∨ q = 4 ∨ q = 5 ∨ q = 6 ∨ q = 7 ∨ q = 8 ∨ q = 9 ∨ q = 10 ∨ q = 11 ∨ q = 12 ∨ q = 13 ∨ q = 14 ∨ q = 15 ∨ q = 16 ∨ q = 17 ∨ q = 18 ∨ q = 19 ∨ q = 20 ∨ q = 21 := by omega
section CK
variable {z z' : Nat × Nat} {ad ad' : Nat × Nat → Nat} {A L F : Nat} {I : Nat → Nat → Int32} {zz zz' : Nat → Int64} {K K' : Nat → Nat → Int64} {k k' : Nat → Nat → Int32}
theorem cC_big {q j : Nat} (hq : 22 ≤ q) : cC z ad A L F I zz K k (q, j) = none := by
  show cK z ad A L F I zz K k q j = none
  obtain ⟨m, rfl⟩ := Nat.exists_eq_add_of_le' hq
  rfl
theorem isS_if {α : Type} {c : Prop} [Decidable c] {a b : α} : (if c then some a else none).isSome = (if c then some b else none).isSome := by split <;> rfl
theorem cLv_iff {x : Nat × Nat} : cLv A L F I x ↔ ∃ e, cC z ad A L F I zz K k x = some e := by
  have h : (cC (0, 0) (fun _ => 0) A L F I (fun _ => 0) (fun _ _ => 0) (fun _ _ => 0) x).isSome = (cC z ad A L F I zz K k x).isSome := by
    obtain ⟨q, j⟩ := x
    by_cases hq : 22 ≤ q
    · rw [cC_big hq, cC_big hq]
    · rcases q22 hq with rfl | rfl | rfl | rfl | rfl | rfl | rfl | rfl | rfl | rfl | rfl | rfl | rfl | rfl | rfl | rfl | rfl | rfl | rfl | rfl | rfl | rfl <;> exact isS_if
  unfold cLv
  rw [h, Option.isSome_iff_exists]
theorem cLv_100 : ¬ cLv A L F I (100, 0) := by
  intro h
  obtain ⟨e, he⟩ := (cLv_iff (z := (0, 0)) (ad := fun _ => 0) (zz := fun _ => 0) (K := fun _ _ => 0) (k := fun _ _ => 0)).mp h
  rw [cC_big (by omega)] at he
  cases he
/-- which numbers a cell shows -/
def rdz (A L F : Nat) (I : Nat → Nat → Int32) (x : Nat × Nat) (m : Nat) : Prop :=
  (x.1 = 1 ∧ x.2 = 0 ∧ m = 108) ∨ (x.1 = 7 ∧ x.2 < A ∧ (m = x.2 ∨ m = 50 + x.2)) ∨ (x.1 = 15 ∧ cisp A I (x.2 / 2) ∧ ((x.2 % 2 = 0 ∧ m = 10 + x.2 / 2) ∨ (x.2 % 2 = 1 ∧ m = 20 + x.2 / 2))) ∨
  (x.1 = 16 ∧ ∃ i, i < A ∧ tI I i = x.2 / 2 ∧ ((x.2 % 2 = 0 ∧ m = 30 + i) ∨ (x.2 % 2 = 1 ∧ m = 40 + i))) ∨ (x.1 = 20 ∧ x.2 < L ∧ (m = 70 + x.2 ∨ m = 76 + x.2 ∨ m = 82 + x.2)) ∨ (x.1 = 21 ∧ x.2 < F ∧ m = 88 + x.2)
def rdK (A : Nat) (x : Nat × Nat) (a b : Nat) : Prop :=
  (x.1 = 6 ∧ b = x.2 ∧ a = 5) ∨ (x.1 = 7 ∧ b = x.2 ∧ (a = 0 ∨ a = 1)) ∨ (x.1 = 15 ∧ b = x.2 ∧ (a = 2 ∨ a = 3 ∨ a = 4)) ∨ (x.1 = 20 ∧ b = x.2 ∧ (a = 6 ∨ a = 7 ∨ a = 8)) ∨ (x.1 = 17 ∧ x.2 / 2 < A ∧ a = 100 + x.2) ∨ (x.1 = 18 ∧ x.2 / 2 < A ∧ a = 200 + x.2) ∨ (x.1 = 19 ∧ x.2 / 2 < A ∧ a = 300 + x.2)
def rdk (x : Nat × Nat) (a b : Nat) : Prop :=
  (x.1 = 1 ∧ x.2 = 0 ∧ a = 0 ∧ b = 1) ∨ (x.1 = 21 ∧ b = x.2 ∧ (a = 1 ∨ a = 2)) ∨ ((x.1 = 4 ∨ x.1 = 8 ∨ x.1 = 11 ∨ x.1 = 13) ∧ a = 10 + x.1 ∧ b = x.2)
theorem mem_cmem {p i : Nat} : i ∈ cmem A I p ↔ i < A ∧ tI I i = p := by simp [cmem]
theorem if_c {α : Type} {c : Prop} [Decidable c] {a b : α} (h : c → a = b) : (if c then some a else none) = (if c then some b else none) := by
  split
  · rename_i hc; rw [h hc]
  · rfl
theorem sz1_0 {s : Nat} (h : s % 2 = 0) : sz1 s = 10 + s / 2 := by unfold sz1; rw [if_pos h]
theorem sz1_1 {s : Nat} (h : s % 2 = 1) : sz1 s = 20 + s / 2 := by unfold sz1; rw [if_neg (by omega)]
theorem sw1_0 {s i : Nat} (h : s % 2 = 0) : sw1 s i = 30 + i := by unfold sw1; rw [if_pos h]
theorem sw1_1 {s i : Nat} (h : s % 2 = 1) : sw1 s i = 40 + i := by unfold sw1; rw [if_neg (by omega)]
theorem cC_cong {x : Nat × Nat} (hz : ∀ m, rdz A L F I x m → zz' m = zz m) (hK : ∀ a b, rdK A x a b → K' a b = K a b) (hk : ∀ a b, rdk x a b → k' a b = k a b) : cC z ad A L F I zz' K' k' x = cC z ad A L F I zz K k x := by
  obtain ⟨q, j⟩ := x
  by_cases hq : 22 ≤ q
  · rw [cC_big hq, cC_big hq]
  have lo : ∀ {q : Nat}, q = 4 ∨ q = 8 ∨ q = 11 ∨ q = 13 → (∀ a b, rdk (q, j) a b → k' a b = k a b) → clob z ad A L F I k' q j = clob z ad A L F I k q j := by
    intro q h hk
    unfold clob
    rw [hk (10 + q) j (Or.inr (Or.inr ⟨h, rfl, rfl⟩))]
  rcases q22 hq with rfl | rfl | rfl | rfl | rfl | rfl | rfl | rfl | rfl | rfl | rfl | rfl | rfl | rfl | rfl | rfl | rfl | rfl | rfl | rfl | rfl | rfl
  · exact if_c (fun _ => rfl)
  · refine if_c (fun c => ?_)
    unfold cf1
    rw [hz 108 (Or.inl ⟨rfl, c, rfl⟩), hk 0 1 (Or.inl ⟨rfl, c, rfl, rfl⟩)]
  · exact if_c (fun _ => rfl)
  · exact if_c (fun _ => rfl)
  · exact if_c (fun _ => by rw [lo (Or.inl rfl) hk])
  · exact if_c (fun _ => rfl)
  · exact if_c (fun _ => by unfold cf6; rw [hK 5 j (Or.inl ⟨rfl, rfl, rfl⟩)])
  · refine if_c (fun c => ?_)
    unfold cf7
    rw [hz j (Or.inr (Or.inl ⟨rfl, c, Or.inl rfl⟩)), hz (50 + j) (Or.inr (Or.inl ⟨rfl, c, Or.inr rfl⟩)), hK 0 j (Or.inr (Or.inl ⟨rfl, rfl, Or.inl rfl⟩)), hK 1 j (Or.inr (Or.inl ⟨rfl, rfl, Or.inr rfl⟩))]
  · exact if_c (fun _ => by rw [lo (Or.inr (Or.inl rfl)) hk])
  · exact if_c (fun _ => rfl)
  · exact if_c (fun _ => rfl)
  · exact if_c (fun _ => by rw [lo (Or.inr (Or.inr (Or.inl rfl))) hk])
  · exact if_c (fun _ => rfl)
  · exact if_c (fun _ => by rw [lo (Or.inr (Or.inr (Or.inr rfl))) hk])
  · exact if_c (fun _ => rfl)
  · refine if_c (fun c => ?_)
    have e : zz' (sz1 j) = zz (sz1 j) := by
      rcases Nat.mod_two_eq_zero_or_one j with h | h
      · rw [sz1_0 h]; exact hz _ (Or.inr (Or.inr (Or.inl ⟨rfl, c, Or.inl ⟨h, rfl⟩⟩)))
      · rw [sz1_1 h]; exact hz _ (Or.inr (Or.inr (Or.inl ⟨rfl, c, Or.inr ⟨h, rfl⟩⟩)))
    unfold cf15
    rw [e, hK 4 j (Or.inr (Or.inr (Or.inl ⟨rfl, rfl, Or.inr (Or.inr rfl)⟩))), hK 2 j (Or.inr (Or.inr (Or.inl ⟨rfl, rfl, Or.inl rfl⟩))), hK 3 j (Or.inr (Or.inr (Or.inl ⟨rfl, rfl, Or.inr (Or.inl rfl)⟩)))]
  · refine if_c (fun c => ?_)
    have e : cwt A I zz' j = cwt A I zz j := by
      funext y
      unfold cwt
      cases hy : (cmem A I (j / 2))[y]? with
      | none => rfl
      | some i =>
        have hi := mem_cmem.mp (List.mem_of_getElem? hy)
        show zz' (sw1 j i) = zz (sw1 j i)
        rcases Nat.mod_two_eq_zero_or_one j with h | h
        · rw [sw1_0 h]; exact hz _ (Or.inr (Or.inr (Or.inr (Or.inl ⟨rfl, i, hi.1, hi.2, Or.inl ⟨h, rfl⟩⟩))))
        · rw [sw1_1 h]; exact hz _ (Or.inr (Or.inr (Or.inr (Or.inl ⟨rfl, i, hi.1, hi.2, Or.inr ⟨h, rfl⟩⟩))))
    rw [e]
  · exact if_c (fun c => by rw [show K' (100 + j) = K (100 + j) from funext (fun b => hK _ b (Or.inr (Or.inr (Or.inr (Or.inr (Or.inl ⟨rfl, c.1, rfl⟩))))))])
  · exact if_c (fun c => by rw [show K' (200 + j) = K (200 + j) from funext (fun b => hK _ b (Or.inr (Or.inr (Or.inr (Or.inr (Or.inr (Or.inl ⟨rfl, c.1, rfl⟩)))))))])
  · exact if_c (fun c => by rw [show K' (300 + j) = K (300 + j) from funext (fun b => hK _ b (Or.inr (Or.inr (Or.inr (Or.inr (Or.inr (Or.inr ⟨rfl, c.1, rfl⟩)))))))])
  · refine if_c (fun c => ?_)
    unfold cf20
    rw [hz (70 + j) (Or.inr (Or.inr (Or.inr (Or.inr (Or.inl ⟨rfl, c, Or.inl rfl⟩))))), hz (82 + j) (Or.inr (Or.inr (Or.inr (Or.inr (Or.inl ⟨rfl, c, Or.inr (Or.inr rfl)⟩))))), hz (76 + j) (Or.inr (Or.inr (Or.inr (Or.inr (Or.inl ⟨rfl, c, Or.inr (Or.inl rfl)⟩))))), hK 6 j (Or.inr (Or.inr (Or.inr (Or.inl ⟨rfl, rfl, Or.inl rfl⟩)))), hK 7 j (Or.inr (Or.inr (Or.inr (Or.inl ⟨rfl, rfl, Or.inr (Or.inl rfl)⟩)))), hK 8 j (Or.inr (Or.inr (Or.inr (Or.inl ⟨rfl, rfl, Or.inr (Or.inr rfl)⟩))))]
  · refine if_c (fun c => ?_)
    unfold cf21
    rw [hz (88 + j) (Or.inr (Or.inr (Or.inr (Or.inr (Or.inr ⟨rfl, c, rfl⟩))))), hk 1 j (Or.inr (Or.inl ⟨rfl, rfl, Or.inl rfl⟩)), hk 2 j (Or.inr (Or.inl ⟨rfl, rfl, Or.inr rfl⟩))]
end CK
section CM
variable {z : Nat × Nat} {ad : Nat × Nat → Nat} {nm : Nat → Nat × Nat} {A L F : Nat} {I I' : Nat → Nat → Int32} {zz zz' : Nat → Int64} {K K' : Nat → Nat → Int64} {k k' : Nat → Nat → Int32} {μ0 : jM}
theorem cM_at (h : cOk ad nm A L F I) {x : Nat × Nat} {e : jE} (hx : cC z ad A L F I zz K k x = some e) : cM z ad nm A L F I zz K k μ0 (ad x) = some e := by
  unfold cM
  rw [h.1 x (cLv_iff.mpr ⟨e, hx⟩), hx]
theorem cM_up (h : cOk ad nm A L F I) {x : Nat × Nat} {e0 e1 : jE} (hx : cC z ad A L F I zz K k x = some e0) (hx1 : cC z ad A L F I' zz' K' k' x = some e1) (ho : ∀ y, y ≠ x → cC z ad A L F I' zz' K' k' y = cC z ad A L F I zz K k y) :
    va_up (cM z ad nm A L F I zz K k μ0) (ad x) (some e1) = cM z ad nm A L F I' zz' K' k' μ0 := by
  funext a
  unfold va_up cM
  by_cases ha : a = ad x
  · rw [if_pos ha, ha, h.1 x (cLv_iff.mpr ⟨e0, hx⟩), hx1]
  · rw [if_neg ha]
    rcases h.2 a with h0 | ⟨h1, h2⟩
    · rw [h0, cC_big (by omega), cC_big (by omega)]
    · rw [ho (nm a) (fun e => ha (by rw [h2, e]))]
theorem cM_cong (hz : ∀ x m, rdz A L F I x m → zz' m = zz m) (hK : ∀ x a b, rdK A x a b → K' a b = K a b) (hk : ∀ x a b, rdk x a b → k' a b = k a b) : cM z ad nm A L F I zz' K' k' μ0 = cM z ad nm A L F I zz K k μ0 := by
  funext a
  unfold cM
  rw [cC_cong (hz _) (hK _) (hk _)]
theorem cM_upz (h : cOk ad nm A L F I) {x : Nat × Nat} {e0 e1 : jE} {m : Nat} {v : Int64} (hx : cC z ad A L F I zz K k x = some e0) (hx1 : cC z ad A L F I (vp_updL zz m v) K k x = some e1) (hr : ∀ y, rdz A L F I y m → y = x) :
    va_up (cM z ad nm A L F I zz K k μ0) (ad x) (some e1) = cM z ad nm A L F I (vp_updL zz m v) K k μ0 :=
  cM_up h hx hx1 (fun y hy => cC_cong (fun m' hm => pk_uLn (fun e => hy (hr y (e ▸ hm)))) (fun _ _ _ => rfl) (fun _ _ _ => rfl))
/-- a row of rows, changed at a place -/
def upK (K : Nat → Nat → Int64) (a b : Nat) (v : Int64) : Nat → Nat → Int64 := fun a' b' => if a' = a ∧ b' = b then v else K a' b'
theorem upK_at {a b : Nat} {v : Int64} : upK K a b v a b = v := by simp [upK]
theorem upK_ne {a b a' b' : Nat} {v : Int64} (h : ¬ (a' = a ∧ b' = b)) : upK K a b v a' b' = K a' b' := if_neg h
def upk (k : Nat → Nat → Int32) (a b : Nat) (v : Int32) : Nat → Nat → Int32 := fun a' b' => if a' = a ∧ b' = b then v else k a' b'
theorem upk_at {a b : Nat} {v : Int32} : upk k a b v a b = v := by simp [upk]
theorem upk_ne {a b a' b' : Nat} {v : Int32} (h : ¬ (a' = a ∧ b' = b)) : upk k a b v a' b' = k a' b' := if_neg h
theorem cM_upK (h : cOk ad nm A L F I) {x : Nat × Nat} {e0 e1 : jE} {a b : Nat} {v : Int64} (hx : cC z ad A L F I zz K k x = some e0) (hx1 : cC z ad A L F I zz (upK K a b v) k x = some e1) (hr : ∀ y, rdK A y a b → y = x) :
    va_up (cM z ad nm A L F I zz K k μ0) (ad x) (some e1) = cM z ad nm A L F I zz (upK K a b v) k μ0 :=
  cM_up h hx hx1 (fun y hy => cC_cong (fun _ _ => rfl) (fun a' b' hm => upK_ne (fun e => hy (hr y (e.1 ▸ e.2 ▸ hm)))) (fun _ _ _ => rfl))
theorem cM_upk (h : cOk ad nm A L F I) {x : Nat × Nat} {e0 e1 : jE} {a b : Nat} {v : Int32} (hx : cC z ad A L F I zz K k x = some e0) (hx1 : cC z ad A L F I zz K (upk k a b v) x = some e1) (hr : ∀ y, rdk y a b → y = x) :
    va_up (cM z ad nm A L F I zz K k μ0) (ad x) (some e1) = cM z ad nm A L F I zz K (upk k a b v) μ0 :=
  cM_up h hx hx1 (fun y hy => cC_cong (fun _ _ => rfl) (fun _ _ _ => rfl) (fun a' b' hm => upk_ne (fun e => hy (hr y (e.1 ▸ e.2 ▸ hm)))))
end CM
/-- an account belongs to the pool of its parent, a top account to its own -/
def tpOk (A : Nat) (I : Nat → Nat → Int32) : Prop := ∀ i, i < A → (I 3 i = -1 ∧ tI I i = i) ∨ (¬ I 3 i = -1 ∧ tI I i = tI I (pI I i))
def cEn (A L F : Nat) (I : Nat → Nat → Int32) : Prop := A ≤ 10 ∧ L ≤ 6 ∧ F ≤ 20 ∧ parOk A I ∧ acOk A I ∧ tpOk A I ∧ (∀ l, l < L → I 11 l = nI (pL I l) ∧ pL I l < A ∧ I 3 (pL I l) = -1) ∧ (∀ f, f < F → I 15 f = nI (fA I f) ∧ fA I f < A) ∧ (∀ i, i < A → (I 6 i = 0 ∨ I 6 i = 1 ∨ I 6 i = 2 ∨ I 6 i = 3) ∧ (I 3 i = -1 → I 6 i = 0))
def cE (ad : Nat × Nat → Nat) (nm : Nat → Nat × Nat) (A L F : Nat) (I : Nat → Nat → Int32) : Prop := cOk ad nm A L F I ∧ cEn A L F I
theorem cEn.top {A L F : Nat} {I : Nat → Nat → Int32} (h : cEn A L F I) : ∀ i, i < A → cisp A I (tI I i) := by
  obtain ⟨hA, -, -, hp, -, ht, -⟩ := h
  intro i
  induction i using Nat.strongRecOn with
  | ind i ih =>
    intro hi
    rcases ht i hi with ⟨h1, h2⟩ | ⟨h1, h2⟩
    · rw [h2]; exact ⟨hi, h1⟩
    · rw [h2]
      have := (pI_lt hp hA hi h1).2
      exact ih _ this (by omega)
theorem pr_eq {q j a b : Nat} (h1 : q = a) (h2 : j = b) : (q, j) = (a, b) := by rw [h1, h2]
