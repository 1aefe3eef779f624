/-! ===== the reference's memory: n 0 accounts, n 1 lines, n 2 flows, n 3 thrown; I k and J k what its arrays hold, by their places among the fields ===== -/
def mlen (k : Nat) : Nat := if k ≤ 2 then 109 else if k ≤ 10 then 10 else if k ≤ 13 then 6 else if k = 14 then 4 else if k ≤ 19 then 20 else if k = 20 then 451 else 10
def mob (ad : Nat → Nat) (n : Nat → Int32) : List Value := [.int (n 0), .int (n 1), .int (n 2), .ref (ad 1), .ref (ad 2), .ref (ad 3), .ref (ad 4), .ref (ad 5), .ref (ad 6), .ref (ad 7), .ref (ad 8), .ref (ad 9), .ref (ad 10), .ref (ad 11), .ref (ad 12), .ref (ad 13), .ref (ad 14), .ref (ad 15), .ref (ad 16), .ref (ad 17), .ref (ad 18), .ref (ad 19), .ref (ad 20), .ref (ad 21), .int (n 3)]
def mce (ad : Nat → Nat) (n : Nat → Int32) (I : Nat → Nat → Int32) (J : Nat → Nat → Int64) (k : Nat) : jE :=
  if k = 0 then .inr (12, mob ad n) else if k = 1 ∨ k = 2 ∨ k = 21 then .inl (1, mlen k, .inr (.inl (J k))) else .inl (if k = 20 then 2 else 0, mlen k, .inl (I k))
/-- the memory: nm names the reference's cells (0 to 21), ad has their addresses, μ0 is what else lies there -/
def mM (ad nm : Nat → Nat) (n : Nat → Int32) (I : Nat → Nat → Int32) (J : Nat → Nat → Int64) (μ0 : jM) : jM := fun a => if nm a ≤ 21 then some (mce ad n I J (nm a)) else μ0 a
def mOk (ad nm : Nat → Nat) : Prop := (∀ k, k ≤ 21 → nm (ad k) = k) ∧ ∀ a, nm a ≤ 21 → a = ad (nm a)
section MM
variable {ad nm : Nat → Nat} {n : Nat → Int32} {I : Nat → Nat → Int32} {J : Nat → Nat → Int64} {μ0 : jM}
theorem mM_at (h : mOk ad nm) {k : Nat} (hk : k ≤ 21) : mM ad nm n I J μ0 (ad k) = some (mce ad n I J k) := by
  unfold mM
  rw [h.1 k hk, if_pos hk]
theorem mM_ob (h : mOk ad nm) : mM ad nm n I J μ0 (ad 0) = some (.inr (12, mob ad n)) := mM_at h (Nat.zero_le _)
theorem mM_J (h : mOk ad nm) {k : Nat} (hk : k = 1 ∨ k = 2 ∨ k = 21) : mM ad nm n I J μ0 (ad k) = some (.inl (1, mlen k, .inr (.inl (J k)))) := by
  rw [mM_at h (by omega)]
  unfold mce
  rw [if_neg (by omega), if_pos hk]
theorem mM_I (h : mOk ad nm) {k : Nat} (h3 : 3 ≤ k) (hk : k ≤ 19) : mM ad nm n I J μ0 (ad k) = some (.inl (0, mlen k, .inl (I k))) := by
  rw [mM_at h (by omega)]
  unfold mce
  rw [if_neg (by omega), if_neg (by omega), if_neg (by omega)]
theorem mM_Z (h : mOk ad nm) : mM ad nm n I J μ0 (ad 20) = some (.inl (2, mlen 20, .inl (I 20))) := mM_at h (by omega)
theorem mM_up (h : mOk ad nm) {k : Nat} (hk : k ≤ 21) {n' : Nat → Int32} {I' : Nat → Nat → Int32} {J' : Nat → Nat → Int64} (ho : ∀ j, j ≤ 21 → j ≠ k → mce ad n' I' J' j = mce ad n I J j) :
    va_up (mM ad nm n I J μ0) (ad k) (some (mce ad n' I' J' k)) = mM ad nm n' I' J' μ0 := by
  funext a
  unfold va_up mM
  by_cases ha : a = ad k
  · rw [if_pos ha, ha, h.1 k hk, if_pos hk]
  · rw [if_neg ha]
    by_cases h21 : nm a ≤ 21
    · rw [if_pos h21, if_pos h21, ho _ h21 (fun e => ha (by rw [h.2 a h21, e]))]
    · rw [if_neg h21, if_neg h21]
/-- one row of arrays changed -/
def upR {α : Type} (f : Nat → Nat → α) (k : Nat) (g : Nat → α) : Nat → Nat → α := fun j => if j = k then g else f j
theorem mM_upJ (h : mOk ad nm) {k : Nat} (hk : k = 1 ∨ k = 2 ∨ k = 21) {g : Nat → Int64} : va_up (mM ad nm n I J μ0) (ad k) (some (.inl (1, mlen k, .inr (.inl g)))) = mM ad nm n I (upR J k g) μ0 := by
  have e : (.inl (1, mlen k, .inr (.inl g)) : jE) = mce ad n I (upR J k g) k := by
    unfold mce
    rw [if_neg (by omega), if_pos hk]
    simp [upR]
  rw [e]
  refine mM_up h (by omega) (fun j hj hne => ?_)
  unfold mce upR
  simp only [if_neg hne]
theorem mM_upI (h : mOk ad nm) {k : Nat} (h3 : 3 ≤ k) (hk : k ≤ 19) {g : Nat → Int32} : va_up (mM ad nm n I J μ0) (ad k) (some (.inl (0, mlen k, .inl g))) = mM ad nm n (upR I k g) J μ0 := by
  have e : (.inl (0, mlen k, .inl g) : jE) = mce ad n (upR I k g) J k := by
    unfold mce
    rw [if_neg (by omega), if_neg (by omega), if_neg (by omega)]
    simp [upR]
  rw [e]
  refine mM_up h (by omega) (fun j hj hne => ?_)
  unfold mce upR
  simp only [if_neg hne]
theorem mM_upZ (h : mOk ad nm) {g : Nat → Int32} : va_up (mM ad nm n I J μ0) (ad 20) (some (.inl (2, mlen 20, .inl g))) = mM ad nm n (upR I 20 g) J μ0 := by
  have e : (.inl (2, mlen 20, .inl g) : jE) = mce ad n (upR I 20 g) J 20 := by simp [mce, upR]
  rw [e]
  refine mM_up h (by omega) (fun j hj hne => ?_)
  unfold mce upR
  simp only [if_neg hne]
theorem mM_upO (h : mOk ad nm) {n' : Nat → Int32} : va_up (mM ad nm n I J μ0) (ad 0) (some (.inr (12, mob ad n'))) = mM ad nm n' I J μ0 := by
  refine mM_up (n' := n') (I' := I) (J' := J) h (by omega) (fun j hj hne => ?_)
  unfold mce
  simp only [if_neg hne]
/-! the reference's reads -/
theorem mg (h : mOk ad nm) (k : Nat) : jg (mM ad nm n I J μ0) (some (ad 0)) 12 k = (mob ad n)[k]? := jg_at (mM_ob h)
theorem mJ (h : mOk ad nm) {k i : Nat} {x : Int32} (hk : k = 1 ∨ k = 2 ∨ k = 21) (hi : i < mlen k) (hx : x = nI i) : jaj (mM ad nm n I J μ0) (some (ad k)) x = some (J k i) := jaj_at (mM_J h hk) hi (by unfold mlen; rcases hk with rfl | rfl | rfl <;> decide) hx
theorem mlen_lt (k : Nat) : mlen k < 2 ^ 31 := by
  unfold mlen
  repeat' split
  all_goals decide
theorem mI (h : mOk ad nm) {k i : Nat} {x : Int32} (h3 : 3 ≤ k) (hk : k ≤ 19) (hi : i < mlen k) (hx : x = nI i) : jai 0 (mM ad nm n I J μ0) (some (ad k)) x = some (I k i) := jai_at (mM_I h h3 hk) hi (mlen_lt k) hx
theorem mZ (h : mOk ad nm) {i : Nat} {x : Int32} (hi : i < 451) (hx : x = nI i) : jai 2 (mM ad nm n I J μ0) (some (ad 20)) x = some (I 20 i) := jai_at (mM_Z h) hi (mlen_lt 20) hx
/-! its writes -/
theorem msJ (h : mOk ad nm) {k i : Nat} {x : Int32} {v : Int64} (hk : k = 1 ∨ k = 2 ∨ k = 21) (hi : i < mlen k) (hx : x = nI i) : jsj (mM ad nm n I J μ0) (some (ad k)) x v = some (mM ad nm n I (upR J k (vp_updL (J k) i v)) μ0) := by
  rw [jsj_at (mM_J h hk) hi (mlen_lt k) hx, mM_upJ h hk]
theorem msI (h : mOk ad nm) {k i : Nat} {x v : Int32} (h3 : 3 ≤ k) (hk : k ≤ 19) (hi : i < mlen k) (hx : x = nI i) : jsi 0 (mM ad nm n I J μ0) (some (ad k)) x v = some (mM ad nm n (upR I k (upd (I k) i v)) J μ0) := by
  rw [jsi_at (mM_I h h3 hk) hi (mlen_lt k) hx, mM_upI h h3 hk]
theorem msZ (h : mOk ad nm) {i : Nat} {x v : Int32} (hi : i < 451) (hx : x = nI i) : jsi 2 (mM ad nm n I J μ0) (some (ad 20)) x v = some (mM ad nm n (upR I 20 (upd (I 20) i v)) J μ0) := by
  rw [jsi_at (mM_Z h) hi (mlen_lt 20) hx, mM_upZ h]
theorem mp (h : mOk ad nm) {k : Nat} {v : Value} (hk : k < 25) : jp (mM ad nm n I J μ0) (some (ad 0)) 12 k v = some (va_up (mM ad nm n I J μ0) (ad 0) (some (.inr (12, (mob ad n).set k v)))) := jp_at (mM_ob h) hk
theorem mp0 (h : mOk ad nm) {v : Int32} : jp (mM ad nm n I J μ0) (some (ad 0)) 12 0 (.int v) = some (mM ad nm (upd n 0 v) I J μ0) := (mp h (by omega)).trans (congrArg some ((congrArg (fun l => va_up (mM ad nm n I J μ0) (ad 0) (some (.inr (12, l)))) (by simp [mob, upd] : (mob ad n).set 0 (.int v) = mob ad (upd n 0 v))).trans (mM_upO h)))
theorem mp1 (h : mOk ad nm) {v : Int32} : jp (mM ad nm n I J μ0) (some (ad 0)) 12 1 (.int v) = some (mM ad nm (upd n 1 v) I J μ0) := (mp h (by omega)).trans (congrArg some ((congrArg (fun l => va_up (mM ad nm n I J μ0) (ad 0) (some (.inr (12, l)))) (by simp [mob, upd] : (mob ad n).set 1 (.int v) = mob ad (upd n 1 v))).trans (mM_upO h)))
theorem mp2 (h : mOk ad nm) {v : Int32} : jp (mM ad nm n I J μ0) (some (ad 0)) 12 2 (.int v) = some (mM ad nm (upd n 2 v) I J μ0) := (mp h (by omega)).trans (congrArg some ((congrArg (fun l => va_up (mM ad nm n I J μ0) (ad 0) (some (.inr (12, l)))) (by simp [mob, upd] : (mob ad n).set 2 (.int v) = mob ad (upd n 2 v))).trans (mM_upO h)))
theorem mp24 (h : mOk ad nm) {v : Int32} : jp (mM ad nm n I J μ0) (some (ad 0)) 12 24 (.int v) = some (mM ad nm (upd n 3 v) I J μ0) := (mp h (by omega)).trans (congrArg some ((congrArg (fun l => va_up (mM ad nm n I J μ0) (ad 0) (some (.inr (12, l)))) (by simp [mob, upd] : (mob ad n).set 24 (.int v) = mob ad (upd n 3 v))).trans (mM_upO h)))
theorem mg0 (h : mOk ad nm) : jg (mM ad nm n I J μ0) (some (ad 0)) 12 0 = some (.int (n 0)) := mg h 0
theorem mg1 (h : mOk ad nm) : jg (mM ad nm n I J μ0) (some (ad 0)) 12 1 = some (.int (n 1)) := mg h 1
theorem mg2 (h : mOk ad nm) : jg (mM ad nm n I J μ0) (some (ad 0)) 12 2 = some (.int (n 2)) := mg h 2
theorem mg3 (h : mOk ad nm) : jg (mM ad nm n I J μ0) (some (ad 0)) 12 3 = some (va_rf (some (ad 1))) := mg h 3
theorem mg4 (h : mOk ad nm) : jg (mM ad nm n I J μ0) (some (ad 0)) 12 4 = some (va_rf (some (ad 2))) := mg h 4
theorem mg5 (h : mOk ad nm) : jg (mM ad nm n I J μ0) (some (ad 0)) 12 5 = some (va_rf (some (ad 3))) := mg h 5
theorem mg6 (h : mOk ad nm) : jg (mM ad nm n I J μ0) (some (ad 0)) 12 6 = some (va_rf (some (ad 4))) := mg h 6
theorem mg7 (h : mOk ad nm) : jg (mM ad nm n I J μ0) (some (ad 0)) 12 7 = some (va_rf (some (ad 5))) := mg h 7
theorem mg8 (h : mOk ad nm) : jg (mM ad nm n I J μ0) (some (ad 0)) 12 8 = some (va_rf (some (ad 6))) := mg h 8
theorem mg9 (h : mOk ad nm) : jg (mM ad nm n I J μ0) (some (ad 0)) 12 9 = some (va_rf (some (ad 7))) := mg h 9
theorem mg10 (h : mOk ad nm) : jg (mM ad nm n I J μ0) (some (ad 0)) 12 10 = some (va_rf (some (ad 8))) := mg h 10
theorem mg11 (h : mOk ad nm) : jg (mM ad nm n I J μ0) (some (ad 0)) 12 11 = some (va_rf (some (ad 9))) := mg h 11
theorem mg12 (h : mOk ad nm) : jg (mM ad nm n I J μ0) (some (ad 0)) 12 12 = some (va_rf (some (ad 10))) := mg h 12
theorem mg13 (h : mOk ad nm) : jg (mM ad nm n I J μ0) (some (ad 0)) 12 13 = some (va_rf (some (ad 11))) := mg h 13
theorem mg14 (h : mOk ad nm) : jg (mM ad nm n I J μ0) (some (ad 0)) 12 14 = some (va_rf (some (ad 12))) := mg h 14
theorem mg15 (h : mOk ad nm) : jg (mM ad nm n I J μ0) (some (ad 0)) 12 15 = some (va_rf (some (ad 13))) := mg h 15
theorem mg16 (h : mOk ad nm) : jg (mM ad nm n I J μ0) (some (ad 0)) 12 16 = some (va_rf (some (ad 14))) := mg h 16
theorem mg17 (h : mOk ad nm) : jg (mM ad nm n I J μ0) (some (ad 0)) 12 17 = some (va_rf (some (ad 15))) := mg h 17
theorem mg18 (h : mOk ad nm) : jg (mM ad nm n I J μ0) (some (ad 0)) 12 18 = some (va_rf (some (ad 16))) := mg h 18
theorem mg19 (h : mOk ad nm) : jg (mM ad nm n I J μ0) (some (ad 0)) 12 19 = some (va_rf (some (ad 17))) := mg h 19
theorem mg20 (h : mOk ad nm) : jg (mM ad nm n I J μ0) (some (ad 0)) 12 20 = some (va_rf (some (ad 18))) := mg h 20
theorem mg21 (h : mOk ad nm) : jg (mM ad nm n I J μ0) (some (ad 0)) 12 21 = some (va_rf (some (ad 19))) := mg h 21
theorem mg22 (h : mOk ad nm) : jg (mM ad nm n I J μ0) (some (ad 0)) 12 22 = some (va_rf (some (ad 20))) := mg h 22
theorem mg23 (h : mOk ad nm) : jg (mM ad nm n I J μ0) (some (ad 0)) 12 23 = some (va_rf (some (ad 21))) := mg h 23
theorem mg24 (h : mOk ad nm) : jg (mM ad nm n I J μ0) (some (ad 0)) 12 24 = some (.int (n 3)) := mg h 24
theorem mhere (h : mOk ad nm) : ∃ fs, mM ad nm n I J μ0 (ad 0) = some (.inr (12, fs)) := ⟨_, mM_ob h⟩
end MM
