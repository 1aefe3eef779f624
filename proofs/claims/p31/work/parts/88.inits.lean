/-! ===== the reference made new ===== -/
/-- the rows at the beginning: no bank has a limit -/
def I00 : Nat → Nat → Int32 := fun r j => if r = 14 then (if j < 4 then -1 else 0) else 0
theorem set_mapr {α : Type} {g g' : Nat → α} {n i : Nat} {v : α} (hv : g' i = v) (hg : ∀ f, f ≠ i → g' f = g f) : ((List.range n).map g).set i v = (List.range n).map g' := by
  apply List.ext_getElem?
  intro j
  rw [List.getElem?_set, List.getElem?_map, List.getElem?_map]
  by_cases h : i = j
  · rw [if_pos h, ← h, List.length_map, List.length_range]
    by_cases hn : i < n
    · rw [if_pos hn, List.getElem?_range hn]
      show some v = some (g' i)
      rw [hv]
    · rw [if_neg hn, List.getElem?_eq_none (by rw [List.length_range]; omega)]
      rfl
  · rw [if_neg h]
    by_cases hn : j < n
    · rw [List.getElem?_range hn]
      show some (g j) = some (g' j)
      rw [hg j (fun e => h e.symm)]
    · rw [List.getElem?_eq_none (by rw [List.length_range]; omega)]
      rfl
/-- the fields of the reference with t arrays made -/
def rf (ad : Nat × Nat → Nat) (t f : Nat) : Value := if f < 3 ∨ f = 24 then .int 0 else if f < t + 3 then .ref (ad (0, f - 2)) else .null
def rfs (ad : Nat × Nat → Nat) (t : Nat) : List Value := (List.range 25).map (rf ad t)
section RI
variable {z : Nat × Nat} {ad : Nat × Nat → Nat} {nm : Nat → Nat × Nat} {μ0 : jM} {t a : Nat}
end RI
section RJ
variable {ad nm : Nat → Nat} {n : Nat → Int32} {I : Nat → Nat → Int32} {J : Nat → Nat → Int64} {μ0 : jM} {z : Nat × Nat}
theorem I00_up : upR (upR (upR (upR (fun _ _ => (0 : Int32)) 14 (upd (fun _ => 0) 0 (-1))) 14 (upd (upd (fun _ => 0) 0 (-1)) 1 (-1))) 14 (upd (upd (upd (fun _ => 0) 0 (-1)) 1 (-1)) 2 (-1))) 14 (upd (upd (upd (upd (fun _ => 0) 0 (-1)) 1 (-1)) 2 (-1)) 3 (-1)) = I00 := by
  funext r j
  unfold I00
  by_cases hr : r = 14
  · subst hr
    rw [upR_at, if_pos rfl]
    unfold upd
    by_cases h4 : j < 4
    · rw [if_pos h4]
      have : j = 0 ∨ j = 1 ∨ j = 2 ∨ j = 3 := by omega
      rcases this with rfl | rfl | rfl | rfl <;> rfl
    · rw [if_neg h4, if_neg (by omega), if_neg (by omega), if_neg (by omega), if_neg (by omega)]
  · rw [upR_o hr, upR_o hr, upR_o hr, upR_o hr, if_neg hr]
end RJ
