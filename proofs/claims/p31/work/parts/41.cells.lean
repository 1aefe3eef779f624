/-! ===== reading and writing the class's cells ===== -/
section CR
variable {z : Nat × Nat} {ad : Nat × Nat → Nat} {nm : Nat → Nat × Nat} {A L F : Nat} {I : Nat → Nat → Int32} {zz : Nat → Int64} {K : Nat → Nat → Int64} {k : Nat → Nat → Int32} {μ0 : jM}
theorem cC0 : cC z ad A L F I zz K k (0, 0) = some (.inr (11, cf0 ad)) := rfl
theorem ca0 (h : cOk ad nm A L F I) : cM z ad nm A L F I zz K k μ0 (ad (0, 0)) = some (.inr (11, cf0 ad)) := cM_at h (cC0)
theorem ch0 (h : cOk ad nm A L F I) : ∃ fs, cM z ad nm A L F I zz K k μ0 (ad (0, 0)) = some (.inr (11, fs)) := ⟨_, ca0 h⟩
theorem cg0 (h : cOk ad nm A L F I) (f : Nat) : jg (cM z ad nm A L F I zz K k μ0) (some (ad (0, 0))) 11 f = (cf0 ad)[f]? := jg_at (ca0 h)
theorem cg0_0 (h : cOk ad nm A L F I) : jg (cM z ad nm A L F I zz K k μ0) (some (ad (0, 0))) 11 0 = some (va_rf (some (ad (1, 0)))) := cg0 h 0
theorem cC1 : cC z ad A L F I zz K k (1, 0) = some (.inr (6, cf1 ad zz k)) := rfl
theorem ca1 (h : cOk ad nm A L F I) : cM z ad nm A L F I zz K k μ0 (ad (1, 0)) = some (.inr (6, cf1 ad zz k)) := cM_at h (cC1)
theorem ch1 (h : cOk ad nm A L F I) : ∃ fs, cM z ad nm A L F I zz K k μ0 (ad (1, 0)) = some (.inr (6, fs)) := ⟨_, ca1 h⟩
theorem cg1 (h : cOk ad nm A L F I) (f : Nat) : jg (cM z ad nm A L F I zz K k μ0) (some (ad (1, 0))) 6 f = (cf1 ad zz k)[f]? := jg_at (ca1 h)
theorem cg1_0 (h : cOk ad nm A L F I) : jg (cM z ad nm A L F I zz K k μ0) (some (ad (1, 0))) 6 0 = some (va_rf (some (ad (4, 0)))) := cg1 h 0
theorem cg1_1 (h : cOk ad nm A L F I) : jg (cM z ad nm A L F I zz K k μ0) (some (ad (1, 0))) 6 1 = some (va_rf (some (ad (4, 1)))) := cg1 h 1
theorem cg1_2 (h : cOk ad nm A L F I) : jg (cM z ad nm A L F I zz K k μ0) (some (ad (1, 0))) 6 2 = some (va_rf (some (ad (4, 2)))) := cg1 h 2
theorem cg1_3 (h : cOk ad nm A L F I) : jg (cM z ad nm A L F I zz K k μ0) (some (ad (1, 0))) 6 3 = some (va_rf (some (ad (4, 3)))) := cg1 h 3
theorem cg1_4 (h : cOk ad nm A L F I) : jg (cM z ad nm A L F I zz K k μ0) (some (ad (1, 0))) 6 4 = some (va_rf (some (ad (4, 4)))) := cg1 h 4
theorem cg1_5 (h : cOk ad nm A L F I) : jg (cM z ad nm A L F I zz K k μ0) (some (ad (1, 0))) 6 5 = some (va_rf (some (ad (2, 0)))) := cg1 h 5
theorem cg1_6 (h : cOk ad nm A L F I) : jg (cM z ad nm A L F I zz K k μ0) (some (ad (1, 0))) 6 6 = some (.int ((zz 108).toInt32)) := cg1 h 6
theorem cg1_7 (h : cOk ad nm A L F I) : jg (cM z ad nm A L F I zz K k μ0) (some (ad (1, 0))) 6 7 = some (.int (k 0 1)) := cg1 h 7
theorem cC2 : cC z ad A L F I zz K k (2, 0) = some (.inr (5, cf2 ad)) := rfl
theorem ca2 (h : cOk ad nm A L F I) : cM z ad nm A L F I zz K k μ0 (ad (2, 0)) = some (.inr (5, cf2 ad)) := cM_at h (cC2)
theorem ch2 (h : cOk ad nm A L F I) : ∃ fs, cM z ad nm A L F I zz K k μ0 (ad (2, 0)) = some (.inr (5, fs)) := ⟨_, ca2 h⟩
theorem cg2 (h : cOk ad nm A L F I) (f : Nat) : jg (cM z ad nm A L F I zz K k μ0) (some (ad (2, 0))) 5 f = (cf2 ad)[f]? := jg_at (ca2 h)
theorem cg2_0 (h : cOk ad nm A L F I) : jg (cM z ad nm A L F I zz K k μ0) (some (ad (2, 0))) 5 0 = some (va_rf (some (ad (3, 0)))) := cg2 h 0
theorem cC6 {j : Nat} (hj : j < 4) : cC z ad A L F I zz K k (6, j) = some (.inr (4, cf6 I K j)) := if_pos hj
theorem ca6 (h : cOk ad nm A L F I) {j : Nat} (hj : j < 4) : cM z ad nm A L F I zz K k μ0 (ad (6, j)) = some (.inr (4, cf6 I K j)) := cM_at h (cC6 hj)
theorem ch6 (h : cOk ad nm A L F I) {j : Nat} (hj : j < 4) : ∃ fs, cM z ad nm A L F I zz K k μ0 (ad (6, j)) = some (.inr (4, fs)) := ⟨_, ca6 h hj⟩
theorem cj6 (h : cOk ad nm A L F I) {j : Nat} (hj : j < 4) : jc (cM z ad nm A L F I zz K k μ0) (some (ad (6, j))) 4 := Or.inr ⟨_, _, rfl, ca6 h hj⟩
theorem cg6 (h : cOk ad nm A L F I) {j : Nat} (hj : j < 4) (f : Nat) : jg (cM z ad nm A L F I zz K k μ0) (some (ad (6, j))) 4 f = (cf6 I K j)[f]? := jg_at (ca6 h hj)
theorem cg6_0 (h : cOk ad nm A L F I) {j : Nat} (hj : j < 4) : jg (cM z ad nm A L F I zz K k μ0) (some (ad (6, j))) 4 0 = some (.int (nI j)) := cg6 h hj 0
theorem cg6_1 (h : cOk ad nm A L F I) {j : Nat} (hj : j < 4) : jg (cM z ad nm A L F I zz K k μ0) (some (ad (6, j))) 4 1 = some (.int (I 14 j)) := cg6 h hj 1
theorem cg6_2 (h : cOk ad nm A L F I) {j : Nat} (hj : j < 4) : jg (cM z ad nm A L F I zz K k μ0) (some (ad (6, j))) 4 2 = some (.long (K 5 j)) := cg6 h hj 2
theorem cC7 {j : Nat} (hj : j < A) : cC z ad A L F I zz K k (7, j) = some (.inr (3, cf7 ad A I zz K j)) := if_pos hj
theorem ca7 (h : cOk ad nm A L F I) {j : Nat} (hj : j < A) : cM z ad nm A L F I zz K k μ0 (ad (7, j)) = some (.inr (3, cf7 ad A I zz K j)) := cM_at h (cC7 hj)
theorem ch7 (h : cOk ad nm A L F I) {j : Nat} (hj : j < A) : ∃ fs, cM z ad nm A L F I zz K k μ0 (ad (7, j)) = some (.inr (3, fs)) := ⟨_, ca7 h hj⟩
theorem cj7 (h : cOk ad nm A L F I) {j : Nat} (hj : j < A) : jc (cM z ad nm A L F I zz K k μ0) (some (ad (7, j))) 3 := Or.inr ⟨_, _, rfl, ca7 h hj⟩
theorem cg7 (h : cOk ad nm A L F I) {j : Nat} (hj : j < A) (f : Nat) : jg (cM z ad nm A L F I zz K k μ0) (some (ad (7, j))) 3 f = (cf7 ad A I zz K j)[f]? := jg_at (ca7 h hj)
theorem cg7_0 (h : cOk ad nm A L F I) {j : Nat} (hj : j < A) : jg (cM z ad nm A L F I zz K k μ0) (some (ad (7, j))) 3 0 = some (.int (nI j)) := cg7 h hj 0
theorem cg7_1 (h : cOk ad nm A L F I) {j : Nat} (hj : j < A) : jg (cM z ad nm A L F I zz K k μ0) (some (ad (7, j))) 3 1 = some (va_rf ((cpar A I j).map (fun p => ad (7, p)))) := cg7 h hj 1
theorem cg7_2 (h : cOk ad nm A L F I) {j : Nat} (hj : j < A) : jg (cM z ad nm A L F I zz K k μ0) (some (ad (7, j))) 3 2 = some (va_rf (some (ad (10, tI I j)))) := cg7 h hj 2
theorem cg7_3 (h : cOk ad nm A L F I) {j : Nat} (hj : j < A) : jg (cM z ad nm A L F I zz K k μ0) (some (ad (7, j))) 3 3 = some (va_rf (some (ad (6, bI I j)))) := cg7 h hj 3
theorem cg7_4 (h : cOk ad nm A L F I) {j : Nat} (hj : j < A) : jg (cM z ad nm A L F I zz K k μ0) (some (ad (7, j))) 3 4 = some (va_rf (some (ad (8, j)))) := cg7 h hj 4
theorem cg7_5 (h : cOk ad nm A L F I) {j : Nat} (hj : j < A) : jg (cM z ad nm A L F I zz K k μ0) (some (ad (7, j))) 3 5 = some (.int (I 6 j)) := cg7 h hj 5
theorem cg7_6 (h : cOk ad nm A L F I) {j : Nat} (hj : j < A) : jg (cM z ad nm A L F I zz K k μ0) (some (ad (7, j))) 3 6 = some (.int (I 7 j)) := cg7 h hj 6
theorem cg7_7 (h : cOk ad nm A L F I) {j : Nat} (hj : j < A) : jg (cM z ad nm A L F I zz K k μ0) (some (ad (7, j))) 3 7 = some (.int (I 8 j)) := cg7 h hj 7
theorem cg7_8 (h : cOk ad nm A L F I) {j : Nat} (hj : j < A) : jg (cM z ad nm A L F I zz K k μ0) (some (ad (7, j))) 3 8 = some (.long (zz j)) := cg7 h hj 8
theorem cg7_9 (h : cOk ad nm A L F I) {j : Nat} (hj : j < A) : jg (cM z ad nm A L F I zz K k μ0) (some (ad (7, j))) 3 9 = some (.long (zz (50 + j))) := cg7 h hj 9
theorem cg7_10 (h : cOk ad nm A L F I) {j : Nat} (hj : j < A) : jg (cM z ad nm A L F I zz K k μ0) (some (ad (7, j))) 3 10 = some (.long (K 0 j)) := cg7 h hj 10
theorem cg7_11 (h : cOk ad nm A L F I) {j : Nat} (hj : j < A) : jg (cM z ad nm A L F I zz K k μ0) (some (ad (7, j))) 3 11 = some (.long (K 1 j)) := cg7 h hj 11
theorem cC10 {j : Nat} (hj : cisp A I j) : cC z ad A L F I zz K k (10, j) = some (.inr (9, cf10 ad j)) := if_pos hj
theorem ca10 (h : cOk ad nm A L F I) {j : Nat} (hj : cisp A I j) : cM z ad nm A L F I zz K k μ0 (ad (10, j)) = some (.inr (9, cf10 ad j)) := cM_at h (cC10 hj)
theorem ch10 (h : cOk ad nm A L F I) {j : Nat} (hj : cisp A I j) : ∃ fs, cM z ad nm A L F I zz K k μ0 (ad (10, j)) = some (.inr (9, fs)) := ⟨_, ca10 h hj⟩
theorem cg10 (h : cOk ad nm A L F I) {j : Nat} (hj : cisp A I j) (f : Nat) : jg (cM z ad nm A L F I zz K k μ0) (some (ad (10, j))) 9 f = (cf10 ad j)[f]? := jg_at (ca10 h hj)
theorem cg10_0 (h : cOk ad nm A L F I) {j : Nat} (hj : cisp A I j) : jg (cM z ad nm A L F I zz K k μ0) (some (ad (10, j))) 9 0 = some (.int (nI j)) := cg10 h hj 0
theorem cg10_1 (h : cOk ad nm A L F I) {j : Nat} (hj : cisp A I j) : jg (cM z ad nm A L F I zz K k μ0) (some (ad (10, j))) 9 1 = some (va_rf (some (ad (15, 2 * j)))) := cg10 h hj 1
theorem cg10_2 (h : cOk ad nm A L F I) {j : Nat} (hj : cisp A I j) : jg (cM z ad nm A L F I zz K k μ0) (some (ad (10, j))) 9 2 = some (va_rf (some (ad (15, 2 * j + 1)))) := cg10 h hj 2
theorem cg10_3 (h : cOk ad nm A L F I) {j : Nat} (hj : cisp A I j) : jg (cM z ad nm A L F I zz K k μ0) (some (ad (10, j))) 9 3 = some (va_rf (some (ad (11, j)))) := cg10 h hj 3
theorem cg10_4 (h : cOk ad nm A L F I) {j : Nat} (hj : cisp A I j) : jg (cM z ad nm A L F I zz K k μ0) (some (ad (10, j))) 9 4 = some (va_rf (some (ad (13, j)))) := cg10 h hj 4
theorem cC15 {j : Nat} (hj : cisp A I (j / 2)) : cC z ad A L F I zz K k (15, j) = some (.inr (10, cf15 ad I zz K j)) := if_pos hj
theorem ca15 (h : cOk ad nm A L F I) {j : Nat} (hj : cisp A I (j / 2)) : cM z ad nm A L F I zz K k μ0 (ad (15, j)) = some (.inr (10, cf15 ad I zz K j)) := cM_at h (cC15 hj)
theorem ch15 (h : cOk ad nm A L F I) {j : Nat} (hj : cisp A I (j / 2)) : ∃ fs, cM z ad nm A L F I zz K k μ0 (ad (15, j)) = some (.inr (10, fs)) := ⟨_, ca15 h hj⟩
theorem cg15 (h : cOk ad nm A L F I) {j : Nat} (hj : cisp A I (j / 2)) (f : Nat) : jg (cM z ad nm A L F I zz K k μ0) (some (ad (15, j))) 10 f = (cf15 ad I zz K j)[f]? := jg_at (ca15 h hj)
theorem cg15_0 (h : cOk ad nm A L F I) {j : Nat} (hj : cisp A I (j / 2)) : jg (cM z ad nm A L F I zz K k μ0) (some (ad (15, j))) 10 0 = some (.int (srt I j)) := cg15 h hj 0
theorem cg15_1 (h : cOk ad nm A L F I) {j : Nat} (hj : cisp A I (j / 2)) : jg (cM z ad nm A L F I zz K k μ0) (some (ad (15, j))) 10 1 = some (.int (sgS j)) := cg15 h hj 1
theorem cg15_2 (h : cOk ad nm A L F I) {j : Nat} (hj : cisp A I (j / 2)) : jg (cM z ad nm A L F I zz K k μ0) (some (ad (15, j))) 10 2 = some (.long (zz (sz1 j))) := cg15 h hj 2
theorem cg15_3 (h : cOk ad nm A L F I) {j : Nat} (hj : cisp A I (j / 2)) : jg (cM z ad nm A L F I zz K k μ0) (some (ad (15, j))) 10 3 = some (.long (K 4 j)) := cg15 h hj 3
theorem cg15_4 (h : cOk ad nm A L F I) {j : Nat} (hj : cisp A I (j / 2)) : jg (cM z ad nm A L F I zz K k μ0) (some (ad (15, j))) 10 4 = some (va_rf (some (ad (16, j)))) := cg15 h hj 4
theorem cg15_5 (h : cOk ad nm A L F I) {j : Nat} (hj : cisp A I (j / 2)) : jg (cM z ad nm A L F I zz K k μ0) (some (ad (15, j))) 10 5 = some (va_rf (some (ad (17, j)))) := cg15 h hj 5
theorem cg15_6 (h : cOk ad nm A L F I) {j : Nat} (hj : cisp A I (j / 2)) : jg (cM z ad nm A L F I zz K k μ0) (some (ad (15, j))) 10 6 = some (va_rf (some (ad (18, j)))) := cg15 h hj 6
theorem cg15_7 (h : cOk ad nm A L F I) {j : Nat} (hj : cisp A I (j / 2)) : jg (cM z ad nm A L F I zz K k μ0) (some (ad (15, j))) 10 7 = some (.long (K 2 j)) := cg15 h hj 7
theorem cg15_8 (h : cOk ad nm A L F I) {j : Nat} (hj : cisp A I (j / 2)) : jg (cM z ad nm A L F I zz K k μ0) (some (ad (15, j))) 10 8 = some (.long (K 3 j)) := cg15 h hj 8
theorem cg15_9 (h : cOk ad nm A L F I) {j : Nat} (hj : cisp A I (j / 2)) : jg (cM z ad nm A L F I zz K k μ0) (some (ad (15, j))) 10 9 = some (va_rf (some (ad (19, j)))) := cg15 h hj 9
theorem cC20 {j : Nat} (hj : j < L) : cC z ad A L F I zz K k (20, j) = some (.inr (8, cf20 ad I zz K j)) := if_pos hj
theorem ca20 (h : cOk ad nm A L F I) {j : Nat} (hj : j < L) : cM z ad nm A L F I zz K k μ0 (ad (20, j)) = some (.inr (8, cf20 ad I zz K j)) := cM_at h (cC20 hj)
theorem ch20 (h : cOk ad nm A L F I) {j : Nat} (hj : j < L) : ∃ fs, cM z ad nm A L F I zz K k μ0 (ad (20, j)) = some (.inr (8, fs)) := ⟨_, ca20 h hj⟩
theorem cj20 (h : cOk ad nm A L F I) {j : Nat} (hj : j < L) : jc (cM z ad nm A L F I zz K k μ0) (some (ad (20, j))) 8 := Or.inr ⟨_, _, rfl, ca20 h hj⟩
theorem cg20 (h : cOk ad nm A L F I) {j : Nat} (hj : j < L) (f : Nat) : jg (cM z ad nm A L F I zz K k μ0) (some (ad (20, j))) 8 f = (cf20 ad I zz K j)[f]? := jg_at (ca20 h hj)
theorem cg20_0 (h : cOk ad nm A L F I) {j : Nat} (hj : j < L) : jg (cM z ad nm A L F I zz K k μ0) (some (ad (20, j))) 8 0 = some (va_rf (some (ad (7, pL I j)))) := cg20 h hj 0
theorem cg20_1 (h : cOk ad nm A L F I) {j : Nat} (hj : j < L) : jg (cM z ad nm A L F I zz K k μ0) (some (ad (20, j))) 8 1 = some (.int (I 12 j)) := cg20 h hj 1
theorem cg20_2 (h : cOk ad nm A L F I) {j : Nat} (hj : j < L) : jg (cM z ad nm A L F I zz K k μ0) (some (ad (20, j))) 8 2 = some (.int (I 13 j)) := cg20 h hj 2
theorem cg20_3 (h : cOk ad nm A L F I) {j : Nat} (hj : j < L) : jg (cM z ad nm A L F I zz K k μ0) (some (ad (20, j))) 8 3 = some (.long (zz (70 + j))) := cg20 h hj 3
theorem cg20_4 (h : cOk ad nm A L F I) {j : Nat} (hj : j < L) : jg (cM z ad nm A L F I zz K k μ0) (some (ad (20, j))) 8 4 = some (.long (zz (82 + j))) := cg20 h hj 4
theorem cg20_5 (h : cOk ad nm A L F I) {j : Nat} (hj : j < L) : jg (cM z ad nm A L F I zz K k μ0) (some (ad (20, j))) 8 5 = some (.long (zz (76 + j))) := cg20 h hj 5
theorem cg20_6 (h : cOk ad nm A L F I) {j : Nat} (hj : j < L) : jg (cM z ad nm A L F I zz K k μ0) (some (ad (20, j))) 8 6 = some (.long (K 6 j)) := cg20 h hj 6
theorem cg20_7 (h : cOk ad nm A L F I) {j : Nat} (hj : j < L) : jg (cM z ad nm A L F I zz K k μ0) (some (ad (20, j))) 8 7 = some (.long (K 7 j)) := cg20 h hj 7
theorem cg20_8 (h : cOk ad nm A L F I) {j : Nat} (hj : j < L) : jg (cM z ad nm A L F I zz K k μ0) (some (ad (20, j))) 8 8 = some (.long (K 8 j)) := cg20 h hj 8
theorem cC21 {j : Nat} (hj : j < F) : cC z ad A L F I zz K k (21, j) = some (.inr (7, cf21 ad I zz k j)) := if_pos hj
theorem ca21 (h : cOk ad nm A L F I) {j : Nat} (hj : j < F) : cM z ad nm A L F I zz K k μ0 (ad (21, j)) = some (.inr (7, cf21 ad I zz k j)) := cM_at h (cC21 hj)
theorem ch21 (h : cOk ad nm A L F I) {j : Nat} (hj : j < F) : ∃ fs, cM z ad nm A L F I zz K k μ0 (ad (21, j)) = some (.inr (7, fs)) := ⟨_, ca21 h hj⟩
theorem cj21 (h : cOk ad nm A L F I) {j : Nat} (hj : j < F) : jc (cM z ad nm A L F I zz K k μ0) (some (ad (21, j))) 7 := Or.inr ⟨_, _, rfl, ca21 h hj⟩
theorem cg21 (h : cOk ad nm A L F I) {j : Nat} (hj : j < F) (f : Nat) : jg (cM z ad nm A L F I zz K k μ0) (some (ad (21, j))) 7 f = (cf21 ad I zz k j)[f]? := jg_at (ca21 h hj)
theorem cg21_0 (h : cOk ad nm A L F I) {j : Nat} (hj : j < F) : jg (cM z ad nm A L F I zz K k μ0) (some (ad (21, j))) 7 0 = some (va_rf (some (ad (7, fA I j)))) := cg21 h hj 0
theorem cg21_1 (h : cOk ad nm A L F I) {j : Nat} (hj : j < F) : jg (cM z ad nm A L F I zz K k μ0) (some (ad (21, j))) 7 1 = some (.int (I 16 j)) := cg21 h hj 1
theorem cg21_2 (h : cOk ad nm A L F I) {j : Nat} (hj : j < F) : jg (cM z ad nm A L F I zz K k μ0) (some (ad (21, j))) 7 2 = some (.int (I 18 j)) := cg21 h hj 2
theorem cg21_3 (h : cOk ad nm A L F I) {j : Nat} (hj : j < F) : jg (cM z ad nm A L F I zz K k μ0) (some (ad (21, j))) 7 3 = some (.int (I 17 j + (zz (88 + j)).toInt32 * I 18 j)) := cg21 h hj 3
theorem cg21_4 (h : cOk ad nm A L F I) {j : Nat} (hj : j < F) : jg (cM z ad nm A L F I zz K k μ0) (some (ad (21, j))) 7 4 = some (.int (I 19 j - (zz (88 + j)).toInt32)) := cg21 h hj 4
theorem cg21_5 (h : cOk ad nm A L F I) {j : Nat} (hj : j < F) : jg (cM z ad nm A L F I zz K k μ0) (some (ad (21, j))) 7 5 = some (.int (k 1 j)) := cg21 h hj 5
theorem cg21_6 (h : cOk ad nm A L F I) {j : Nat} (hj : j < F) : jg (cM z ad nm A L F I zz K k μ0) (some (ad (21, j))) 7 6 = some (.int (k 2 j)) := cg21 h hj 6
theorem cfz7_8 {j : Nat} {v : Int64} : cf7 ad A I (vp_updL zz (j) v) K j = (cf7 ad A I zz K j).set 8 (.long v) := by
  unfold cf7
  rw [pk_uLs, pk_uLn (show 50 + j ≠ j by omega)]
  rfl
theorem rdz7_8 (hn : cEn A L F I) {j : Nat} (hj : j < A) : ∀ y, rdz A L F I y (j) → y = (7, j) := by
  obtain ⟨hA, hL, hF, -⟩ := hn
  rintro ⟨q, i⟩ hm
  simp only [rdz] at hm
  rcases hm with ⟨a, b, c⟩ | ⟨a, b, c⟩ | ⟨a, ⟨b, -⟩, c⟩ | ⟨a, e, b, d, c⟩ | ⟨a, b, c⟩ | ⟨a, b, c⟩ <;> first | (exfalso; omega) | exact pr_eq (by omega) (by omega)
theorem cw7_8 (h : cE ad nm A L F I) {j : Nat} (hj : j < A) {v : Int64} : jp (cM z ad nm A L F I zz K k μ0) (some (ad (7, j))) 3 8 (.long v) = some (cM z ad nm A L F I (vp_updL zz (j) v) K k μ0) := (jp_at (ca7 h.1 hj) (show 8 < 12 by decide)).trans (congrArg some (cM_upz h.1 (cC7 hj) ((cC7 hj).trans (congrArg (fun l => (some (Sum.inr (3, l)) : Option jE)) cfz7_8)) (rdz7_8 h.2 hj)))
theorem cfz7_9 {j : Nat} {v : Int64} : cf7 ad A I (vp_updL zz (50 + j) v) K j = (cf7 ad A I zz K j).set 9 (.long v) := by
  unfold cf7
  rw [pk_uLs, pk_uLn (show j ≠ 50 + j by omega)]
  rfl
theorem rdz7_9 (hn : cEn A L F I) {j : Nat} (hj : j < A) : ∀ y, rdz A L F I y (50 + j) → y = (7, j) := by
  obtain ⟨hA, hL, hF, -⟩ := hn
  rintro ⟨q, i⟩ hm
  simp only [rdz] at hm
  rcases hm with ⟨a, b, c⟩ | ⟨a, b, c⟩ | ⟨a, ⟨b, -⟩, c⟩ | ⟨a, e, b, d, c⟩ | ⟨a, b, c⟩ | ⟨a, b, c⟩ <;> first | (exfalso; omega) | exact pr_eq (by omega) (by omega)
theorem cw7_9 (h : cE ad nm A L F I) {j : Nat} (hj : j < A) {v : Int64} : jp (cM z ad nm A L F I zz K k μ0) (some (ad (7, j))) 3 9 (.long v) = some (cM z ad nm A L F I (vp_updL zz (50 + j) v) K k μ0) := (jp_at (ca7 h.1 hj) (show 9 < 12 by decide)).trans (congrArg some (cM_upz h.1 (cC7 hj) ((cC7 hj).trans (congrArg (fun l => (some (Sum.inr (3, l)) : Option jE)) cfz7_9)) (rdz7_9 h.2 hj)))
theorem cfz15_2 {j : Nat} {v : Int64} : cf15 ad I (vp_updL zz (sz1 j) v) K j = (cf15 ad I zz K j).set 2 (.long v) := by
  unfold cf15
  rw [pk_uLs]
  rfl
theorem rdz15_2 (hn : cEn A L F I) {j : Nat} (hj : cisp A I (j / 2)) : ∀ y, rdz A L F I y (sz1 j) → y = (15, j) := by
  obtain ⟨hA, hL, hF, -⟩ := hn
  rintro ⟨q, i⟩ hm
  have h1 : (j % 2 = 0 ∧ sz1 j = 10 + j / 2) ∨ (j % 2 = 1 ∧ sz1 j = 20 + j / 2) := (Nat.mod_two_eq_zero_or_one j).imp (fun e => ⟨e, sz1_0 e⟩) (fun e => ⟨e, sz1_1 e⟩)
  obtain ⟨hj1, -⟩ := hj
  simp only [rdz] at hm
  rcases hm with ⟨a, b, c⟩ | ⟨a, b, c⟩ | ⟨a, ⟨b, -⟩, c⟩ | ⟨a, e, b, d, c⟩ | ⟨a, b, c⟩ | ⟨a, b, c⟩ <;> first | (exfalso; omega) | exact pr_eq (by omega) (by omega)
theorem cw15_2 (h : cE ad nm A L F I) {j : Nat} (hj : cisp A I (j / 2)) {v : Int64} : jp (cM z ad nm A L F I zz K k μ0) (some (ad (15, j))) 10 2 (.long v) = some (cM z ad nm A L F I (vp_updL zz (sz1 j) v) K k μ0) := (jp_at (ca15 h.1 hj) (show 2 < 10 by decide)).trans (congrArg some (cM_upz h.1 (cC15 hj) ((cC15 hj).trans (congrArg (fun l => (some (Sum.inr (10, l)) : Option jE)) cfz15_2)) (rdz15_2 h.2 hj)))
theorem cfz20_3 {j : Nat} {v : Int64} : cf20 ad I (vp_updL zz (70 + j) v) K j = (cf20 ad I zz K j).set 3 (.long v) := by
  unfold cf20
  rw [pk_uLs, pk_uLn (show 82 + j ≠ 70 + j by omega), pk_uLn (show 76 + j ≠ 70 + j by omega)]
  rfl
theorem rdz20_3 (hn : cEn A L F I) {j : Nat} (hj : j < L) : ∀ y, rdz A L F I y (70 + j) → y = (20, j) := by
  obtain ⟨hA, hL, hF, -⟩ := hn
  rintro ⟨q, i⟩ hm
  simp only [rdz] at hm
  rcases hm with ⟨a, b, c⟩ | ⟨a, b, c⟩ | ⟨a, ⟨b, -⟩, c⟩ | ⟨a, e, b, d, c⟩ | ⟨a, b, c⟩ | ⟨a, b, c⟩ <;> first | (exfalso; omega) | exact pr_eq (by omega) (by omega)
theorem cw20_3 (h : cE ad nm A L F I) {j : Nat} (hj : j < L) {v : Int64} : jp (cM z ad nm A L F I zz K k μ0) (some (ad (20, j))) 8 3 (.long v) = some (cM z ad nm A L F I (vp_updL zz (70 + j) v) K k μ0) := (jp_at (ca20 h.1 hj) (show 3 < 9 by decide)).trans (congrArg some (cM_upz h.1 (cC20 hj) ((cC20 hj).trans (congrArg (fun l => (some (Sum.inr (8, l)) : Option jE)) cfz20_3)) (rdz20_3 h.2 hj)))
theorem cfz20_4 {j : Nat} {v : Int64} : cf20 ad I (vp_updL zz (82 + j) v) K j = (cf20 ad I zz K j).set 4 (.long v) := by
  unfold cf20
  rw [pk_uLs, pk_uLn (show 70 + j ≠ 82 + j by omega), pk_uLn (show 76 + j ≠ 82 + j by omega)]
  rfl
theorem rdz20_4 (hn : cEn A L F I) {j : Nat} (hj : j < L) : ∀ y, rdz A L F I y (82 + j) → y = (20, j) := by
  obtain ⟨hA, hL, hF, -⟩ := hn
  rintro ⟨q, i⟩ hm
  simp only [rdz] at hm
  rcases hm with ⟨a, b, c⟩ | ⟨a, b, c⟩ | ⟨a, ⟨b, -⟩, c⟩ | ⟨a, e, b, d, c⟩ | ⟨a, b, c⟩ | ⟨a, b, c⟩ <;> first | (exfalso; omega) | exact pr_eq (by omega) (by omega)
theorem cw20_4 (h : cE ad nm A L F I) {j : Nat} (hj : j < L) {v : Int64} : jp (cM z ad nm A L F I zz K k μ0) (some (ad (20, j))) 8 4 (.long v) = some (cM z ad nm A L F I (vp_updL zz (82 + j) v) K k μ0) := (jp_at (ca20 h.1 hj) (show 4 < 9 by decide)).trans (congrArg some (cM_upz h.1 (cC20 hj) ((cC20 hj).trans (congrArg (fun l => (some (Sum.inr (8, l)) : Option jE)) cfz20_4)) (rdz20_4 h.2 hj)))
theorem cfz20_5 {j : Nat} {v : Int64} : cf20 ad I (vp_updL zz (76 + j) v) K j = (cf20 ad I zz K j).set 5 (.long v) := by
  unfold cf20
  rw [pk_uLs, pk_uLn (show 82 + j ≠ 76 + j by omega), pk_uLn (show 70 + j ≠ 76 + j by omega)]
  rfl
theorem rdz20_5 (hn : cEn A L F I) {j : Nat} (hj : j < L) : ∀ y, rdz A L F I y (76 + j) → y = (20, j) := by
  obtain ⟨hA, hL, hF, -⟩ := hn
  rintro ⟨q, i⟩ hm
  simp only [rdz] at hm
  rcases hm with ⟨a, b, c⟩ | ⟨a, b, c⟩ | ⟨a, ⟨b, -⟩, c⟩ | ⟨a, e, b, d, c⟩ | ⟨a, b, c⟩ | ⟨a, b, c⟩ <;> first | (exfalso; omega) | exact pr_eq (by omega) (by omega)
theorem cw20_5 (h : cE ad nm A L F I) {j : Nat} (hj : j < L) {v : Int64} : jp (cM z ad nm A L F I zz K k μ0) (some (ad (20, j))) 8 5 (.long v) = some (cM z ad nm A L F I (vp_updL zz (76 + j) v) K k μ0) := (jp_at (ca20 h.1 hj) (show 5 < 9 by decide)).trans (congrArg some (cM_upz h.1 (cC20 hj) ((cC20 hj).trans (congrArg (fun l => (some (Sum.inr (8, l)) : Option jE)) cfz20_5)) (rdz20_5 h.2 hj)))
theorem cfK6_2 {j : Nat} {v : Int64} : cf6 I (upK K 5 j v) j = (cf6 I K j).set 2 (.long v) := by
  unfold cf6
  rw [upK_at]
  rfl
theorem rdK6_2 {j : Nat} : ∀ y, rdK A y 5 j → y = (6, j) := by
  rintro ⟨q, i⟩ hm
  simp only [rdK] at hm
  exact pr_eq (by omega) (by omega)
theorem cw6_2 (h : cE ad nm A L F I) {j : Nat} (hj : j < 4) {v : Int64} : jp (cM z ad nm A L F I zz K k μ0) (some (ad (6, j))) 4 2 (.long v) = some (cM z ad nm A L F I zz (upK K 5 j v) k μ0) := (jp_at (ca6 h.1 hj) (show 2 < 3 by decide)).trans (congrArg some (cM_upK h.1 (cC6 hj) ((cC6 hj).trans (congrArg (fun l => (some (Sum.inr (4, l)) : Option jE)) cfK6_2)) rdK6_2))
theorem cfK7_10 {j : Nat} {v : Int64} : cf7 ad A I zz (upK K 0 j v) j = (cf7 ad A I zz K j).set 10 (.long v) := by
  unfold cf7
  rw [upK_at, upK_ne (show ¬ (1 = 0 ∧ j = j) from fun e => absurd e.1 (by decide))]
  rfl
theorem rdK7_10 {j : Nat} : ∀ y, rdK A y 0 j → y = (7, j) := by
  rintro ⟨q, i⟩ hm
  simp only [rdK] at hm
  exact pr_eq (by omega) (by omega)
theorem cw7_10 (h : cE ad nm A L F I) {j : Nat} (hj : j < A) {v : Int64} : jp (cM z ad nm A L F I zz K k μ0) (some (ad (7, j))) 3 10 (.long v) = some (cM z ad nm A L F I zz (upK K 0 j v) k μ0) := (jp_at (ca7 h.1 hj) (show 10 < 12 by decide)).trans (congrArg some (cM_upK h.1 (cC7 hj) ((cC7 hj).trans (congrArg (fun l => (some (Sum.inr (3, l)) : Option jE)) cfK7_10)) rdK7_10))
theorem cfK7_11 {j : Nat} {v : Int64} : cf7 ad A I zz (upK K 1 j v) j = (cf7 ad A I zz K j).set 11 (.long v) := by
  unfold cf7
  rw [upK_at, upK_ne (show ¬ (0 = 1 ∧ j = j) from fun e => absurd e.1 (by decide))]
  rfl
theorem rdK7_11 {j : Nat} : ∀ y, rdK A y 1 j → y = (7, j) := by
  rintro ⟨q, i⟩ hm
  simp only [rdK] at hm
  exact pr_eq (by omega) (by omega)
theorem cw7_11 (h : cE ad nm A L F I) {j : Nat} (hj : j < A) {v : Int64} : jp (cM z ad nm A L F I zz K k μ0) (some (ad (7, j))) 3 11 (.long v) = some (cM z ad nm A L F I zz (upK K 1 j v) k μ0) := (jp_at (ca7 h.1 hj) (show 11 < 12 by decide)).trans (congrArg some (cM_upK h.1 (cC7 hj) ((cC7 hj).trans (congrArg (fun l => (some (Sum.inr (3, l)) : Option jE)) cfK7_11)) rdK7_11))
theorem cfK15_3 {j : Nat} {v : Int64} : cf15 ad I zz (upK K 4 j v) j = (cf15 ad I zz K j).set 3 (.long v) := by
  unfold cf15
  rw [upK_at, upK_ne (show ¬ (2 = 4 ∧ j = j) from fun e => absurd e.1 (by decide)), upK_ne (show ¬ (3 = 4 ∧ j = j) from fun e => absurd e.1 (by decide))]
  rfl
theorem rdK15_3 {j : Nat} : ∀ y, rdK A y 4 j → y = (15, j) := by
  rintro ⟨q, i⟩ hm
  simp only [rdK] at hm
  exact pr_eq (by omega) (by omega)
theorem cw15_3 (h : cE ad nm A L F I) {j : Nat} (hj : cisp A I (j / 2)) {v : Int64} : jp (cM z ad nm A L F I zz K k μ0) (some (ad (15, j))) 10 3 (.long v) = some (cM z ad nm A L F I zz (upK K 4 j v) k μ0) := (jp_at (ca15 h.1 hj) (show 3 < 10 by decide)).trans (congrArg some (cM_upK h.1 (cC15 hj) ((cC15 hj).trans (congrArg (fun l => (some (Sum.inr (10, l)) : Option jE)) cfK15_3)) rdK15_3))
theorem cfK15_7 {j : Nat} {v : Int64} : cf15 ad I zz (upK K 2 j v) j = (cf15 ad I zz K j).set 7 (.long v) := by
  unfold cf15
  rw [upK_at, upK_ne (show ¬ (3 = 2 ∧ j = j) from fun e => absurd e.1 (by decide)), upK_ne (show ¬ (4 = 2 ∧ j = j) from fun e => absurd e.1 (by decide))]
  rfl
theorem rdK15_7 {j : Nat} : ∀ y, rdK A y 2 j → y = (15, j) := by
  rintro ⟨q, i⟩ hm
  simp only [rdK] at hm
  exact pr_eq (by omega) (by omega)
theorem cw15_7 (h : cE ad nm A L F I) {j : Nat} (hj : cisp A I (j / 2)) {v : Int64} : jp (cM z ad nm A L F I zz K k μ0) (some (ad (15, j))) 10 7 (.long v) = some (cM z ad nm A L F I zz (upK K 2 j v) k μ0) := (jp_at (ca15 h.1 hj) (show 7 < 10 by decide)).trans (congrArg some (cM_upK h.1 (cC15 hj) ((cC15 hj).trans (congrArg (fun l => (some (Sum.inr (10, l)) : Option jE)) cfK15_7)) rdK15_7))
theorem cfK15_8 {j : Nat} {v : Int64} : cf15 ad I zz (upK K 3 j v) j = (cf15 ad I zz K j).set 8 (.long v) := by
  unfold cf15
  rw [upK_at, upK_ne (show ¬ (2 = 3 ∧ j = j) from fun e => absurd e.1 (by decide)), upK_ne (show ¬ (4 = 3 ∧ j = j) from fun e => absurd e.1 (by decide))]
  rfl
theorem rdK15_8 {j : Nat} : ∀ y, rdK A y 3 j → y = (15, j) := by
  rintro ⟨q, i⟩ hm
  simp only [rdK] at hm
  exact pr_eq (by omega) (by omega)
theorem cw15_8 (h : cE ad nm A L F I) {j : Nat} (hj : cisp A I (j / 2)) {v : Int64} : jp (cM z ad nm A L F I zz K k μ0) (some (ad (15, j))) 10 8 (.long v) = some (cM z ad nm A L F I zz (upK K 3 j v) k μ0) := (jp_at (ca15 h.1 hj) (show 8 < 10 by decide)).trans (congrArg some (cM_upK h.1 (cC15 hj) ((cC15 hj).trans (congrArg (fun l => (some (Sum.inr (10, l)) : Option jE)) cfK15_8)) rdK15_8))
theorem cfK20_6 {j : Nat} {v : Int64} : cf20 ad I zz (upK K 6 j v) j = (cf20 ad I zz K j).set 6 (.long v) := by
  unfold cf20
  rw [upK_at, upK_ne (show ¬ (7 = 6 ∧ j = j) from fun e => absurd e.1 (by decide)), upK_ne (show ¬ (8 = 6 ∧ j = j) from fun e => absurd e.1 (by decide))]
  rfl
theorem rdK20_6 {j : Nat} : ∀ y, rdK A y 6 j → y = (20, j) := by
  rintro ⟨q, i⟩ hm
  simp only [rdK] at hm
  exact pr_eq (by omega) (by omega)
theorem cw20_6 (h : cE ad nm A L F I) {j : Nat} (hj : j < L) {v : Int64} : jp (cM z ad nm A L F I zz K k μ0) (some (ad (20, j))) 8 6 (.long v) = some (cM z ad nm A L F I zz (upK K 6 j v) k μ0) := (jp_at (ca20 h.1 hj) (show 6 < 9 by decide)).trans (congrArg some (cM_upK h.1 (cC20 hj) ((cC20 hj).trans (congrArg (fun l => (some (Sum.inr (8, l)) : Option jE)) cfK20_6)) rdK20_6))
theorem cfK20_7 {j : Nat} {v : Int64} : cf20 ad I zz (upK K 7 j v) j = (cf20 ad I zz K j).set 7 (.long v) := by
  unfold cf20
  rw [upK_at, upK_ne (show ¬ (6 = 7 ∧ j = j) from fun e => absurd e.1 (by decide)), upK_ne (show ¬ (8 = 7 ∧ j = j) from fun e => absurd e.1 (by decide))]
  rfl
theorem rdK20_7 {j : Nat} : ∀ y, rdK A y 7 j → y = (20, j) := by
  rintro ⟨q, i⟩ hm
  simp only [rdK] at hm
  exact pr_eq (by omega) (by omega)
theorem cw20_7 (h : cE ad nm A L F I) {j : Nat} (hj : j < L) {v : Int64} : jp (cM z ad nm A L F I zz K k μ0) (some (ad (20, j))) 8 7 (.long v) = some (cM z ad nm A L F I zz (upK K 7 j v) k μ0) := (jp_at (ca20 h.1 hj) (show 7 < 9 by decide)).trans (congrArg some (cM_upK h.1 (cC20 hj) ((cC20 hj).trans (congrArg (fun l => (some (Sum.inr (8, l)) : Option jE)) cfK20_7)) rdK20_7))
theorem cfK20_8 {j : Nat} {v : Int64} : cf20 ad I zz (upK K 8 j v) j = (cf20 ad I zz K j).set 8 (.long v) := by
  unfold cf20
  rw [upK_at, upK_ne (show ¬ (6 = 8 ∧ j = j) from fun e => absurd e.1 (by decide)), upK_ne (show ¬ (7 = 8 ∧ j = j) from fun e => absurd e.1 (by decide))]
  rfl
theorem rdK20_8 {j : Nat} : ∀ y, rdK A y 8 j → y = (20, j) := by
  rintro ⟨q, i⟩ hm
  simp only [rdK] at hm
  exact pr_eq (by omega) (by omega)
theorem cw20_8 (h : cE ad nm A L F I) {j : Nat} (hj : j < L) {v : Int64} : jp (cM z ad nm A L F I zz K k μ0) (some (ad (20, j))) 8 8 (.long v) = some (cM z ad nm A L F I zz (upK K 8 j v) k μ0) := (jp_at (ca20 h.1 hj) (show 8 < 9 by decide)).trans (congrArg some (cM_upK h.1 (cC20 hj) ((cC20 hj).trans (congrArg (fun l => (some (Sum.inr (8, l)) : Option jE)) cfK20_8)) rdK20_8))
theorem cfk1_7 {v : Int32} : cf1 ad zz (upk k 0 1 v) = (cf1 ad zz k).set 7 (.int v) := by
  unfold cf1
  rw [upk_at]
  rfl
theorem rdk1_7 : ∀ y, rdk y 0 1 → y = (1, 0) := by
  rintro ⟨q, i⟩ hm
  simp only [rdk] at hm
  exact pr_eq (by omega) (by omega)
theorem cw1_7 (h : cE ad nm A L F I) {v : Int32} : jp (cM z ad nm A L F I zz K k μ0) (some (ad (1, 0))) 6 7 (.int v) = some (cM z ad nm A L F I zz K (upk k 0 1 v) μ0) := (jp_at (ca1 h.1) (show 7 < 8 by decide)).trans (congrArg some (cM_upk h.1 (cC1) ((cC1).trans (congrArg (fun l => (some (Sum.inr (6, l)) : Option jE)) cfk1_7)) rdk1_7))
theorem cfk21_5 {j : Nat} {v : Int32} : cf21 ad I zz (upk k 1 j v) j = (cf21 ad I zz k j).set 5 (.int v) := by
  unfold cf21
  rw [upk_at, upk_ne (show ¬ (2 = 1 ∧ j = j) from fun e => absurd e.1 (by decide))]
  rfl
theorem rdk21_5 {j : Nat} : ∀ y, rdk y 1 j → y = (21, j) := by
  rintro ⟨q, i⟩ hm
  simp only [rdk] at hm
  exact pr_eq (by omega) (by omega)
theorem cw21_5 (h : cE ad nm A L F I) {j : Nat} (hj : j < F) {v : Int32} : jp (cM z ad nm A L F I zz K k μ0) (some (ad (21, j))) 7 5 (.int v) = some (cM z ad nm A L F I zz K (upk k 1 j v) μ0) := (jp_at (ca21 h.1 hj) (show 5 < 7 by decide)).trans (congrArg some (cM_upk h.1 (cC21 hj) ((cC21 hj).trans (congrArg (fun l => (some (Sum.inr (7, l)) : Option jE)) cfk21_5)) rdk21_5))
theorem cfk21_6 {j : Nat} {v : Int32} : cf21 ad I zz (upk k 2 j v) j = (cf21 ad I zz k j).set 6 (.int v) := by
  unfold cf21
  rw [upk_at, upk_ne (show ¬ (1 = 2 ∧ j = j) from fun e => absurd e.1 (by decide))]
  rfl
theorem rdk21_6 {j : Nat} : ∀ y, rdk y 2 j → y = (21, j) := by
  rintro ⟨q, i⟩ hm
  simp only [rdk] at hm
  exact pr_eq (by omega) (by omega)
theorem cw21_6 (h : cE ad nm A L F I) {j : Nat} (hj : j < F) {v : Int32} : jp (cM z ad nm A L F I zz K k μ0) (some (ad (21, j))) 7 6 (.int v) = some (cM z ad nm A L F I zz K (upk k 2 j v) μ0) := (jp_at (ca21 h.1 hj) (show 6 < 7 by decide)).trans (congrArg some (cM_upk h.1 (cC21 hj) ((cC21 hj).trans (congrArg (fun l => (some (Sum.inr (7, l)) : Option jE)) cfk21_6)) rdk21_6))
theorem cw1_6 (h : cE ad nm A L F I) {v : Int32} : jp (cM z ad nm A L F I zz K k μ0) (some (ad (1, 0))) 6 6 (.int v) = some (cM z ad nm A L F I (vp_updL zz 108 v.toInt64) K k μ0) := by
  have e : cf1 ad (vp_updL zz 108 v.toInt64) k = (cf1 ad zz k).set 6 (.int v) := by
    unfold cf1
    rw [pk_uLs, Int32.toInt32_toInt64]
    rfl
  refine (jp_at (ca1 h.1) (show 6 < 8 by decide)).trans (congrArg some (cM_upz h.1 cC1 (cC1.trans (congrArg (fun l => (some (Sum.inr (6, l)) : Option jE)) e)) ?_))
  obtain ⟨hA, hL, hF, -⟩ := h.2
  rintro ⟨q, i⟩ hm
  simp only [rdz] at hm
  rcases hm with ⟨a, b, c⟩ | ⟨a, b, c⟩ | ⟨a, ⟨b, -⟩, c⟩ | ⟨a, e, b, d, c⟩ | ⟨a, b, c⟩ | ⟨a, b, c⟩ <;> first | (exfalso; omega) | exact pr_eq (by omega) (by omega)
/-- a flow's day and times left -/
theorem cw21_34 (h : cE ad nm A L F I) {j : Nat} (hj : j < F) {v w : Int32} {x : Int64} (hv : v = I 17 j + x.toInt32 * I 18 j) (hw : w = I 19 j - x.toInt32) : ∃ μ1, jp (cM z ad nm A L F I zz K k μ0) (some (ad (21, j))) 7 3 (.int v) = some μ1 ∧ (∀ g, g ≠ 3 → jg μ1 (some (ad (21, j))) 7 g = (cf21 ad I zz k j)[g]?) ∧ jp μ1 (some (ad (21, j))) 7 4 (.int w) = some (cM z ad nm A L F I (vp_updL zz (88 + j) x) K k μ0) := by
  have s1 : va_up (cM z ad nm A L F I zz K k μ0) (ad (21, j)) (some (.inr (7, (cf21 ad I zz k j).set 3 (.int v)))) (ad (21, j)) = some (.inr (7, (cf21 ad I zz k j).set 3 (.int v))) := if_pos rfl
  refine ⟨_, jp_at (ca21 h.1 hj) (show 3 < 7 by decide), fun g hg => (jg_at s1).trans (List.getElem?_set_ne (Ne.symm hg)), (jp_at s1 (show 4 < 7 by decide)).trans (congrArg some ?_)⟩
  have e2 : va_up (va_up (cM z ad nm A L F I zz K k μ0) (ad (21, j)) (some (.inr (7, (cf21 ad I zz k j).set 3 (.int v))))) (ad (21, j)) (some (.inr (7, ((cf21 ad I zz k j).set 3 (.int v)).set 4 (.int w)))) = va_up (cM z ad nm A L F I zz K k μ0) (ad (21, j)) (some (.inr (7, ((cf21 ad I zz k j).set 3 (.int v)).set 4 (.int w)))) := by
    funext a
    unfold va_up
    split <;> rfl
  rw [e2]
  have e : cf21 ad I (vp_updL zz (88 + j) x) k j = ((cf21 ad I zz k j).set 3 (.int v)).set 4 (.int w) := by
    unfold cf21
    rw [pk_uLs, hv, hw]
    rfl
  refine cM_upz h.1 (cC21 hj) ((cC21 hj).trans (congrArg (fun l => (some (Sum.inr (7, l)) : Option jE)) e)) ?_
  obtain ⟨hA, hL, hF, -⟩ := h.2
  rintro ⟨q, i⟩ hm
  simp only [rdz] at hm
  rcases hm with ⟨a, b, c⟩ | ⟨a, b, c⟩ | ⟨a, ⟨b, -⟩, c⟩ | ⟨a, e, b, d, c⟩ | ⟨a, b, c⟩ | ⟨a, b, c⟩ <;> first | (exfalso; omega) | exact pr_eq (by omega) (by omega)
theorem cC16 {j : Nat} (hj : cisp A I (j / 2)) : cC z ad A L F I zz K k (16, j) = some (.inl (1, 10, .inr (.inl (cwt A I zz j)))) := if_pos hj
theorem ca16 (h : cOk ad nm A L F I) {j : Nat} (hj : cisp A I (j / 2)) : cM z ad nm A L F I zz K k μ0 (ad (16, j)) = some (.inl (1, 10, .inr (.inl (cwt A I zz j)))) := cM_at h (cC16 hj)
theorem cr16 (h : cOk ad nm A L F I) {j i : Nat} {x : Int32} (hj : cisp A I (j / 2)) (hi : i < 10) (hx : x = nI i) : jaj (cM z ad nm A L F I zz K k μ0) (some (ad (16, j))) x = some ((cwt A I zz j) i) := jaj_at (ca16 h hj) hi (by decide) hx
theorem cC17 {j : Nat} (hj : cisp A I (j / 2)) : cC z ad A L F I zz K k (17, j) = some (.inl (1, 10, .inr (.inl (K (100 + j))))) := if_pos hj
theorem ca17 (h : cOk ad nm A L F I) {j : Nat} (hj : cisp A I (j / 2)) : cM z ad nm A L F I zz K k μ0 (ad (17, j)) = some (.inl (1, 10, .inr (.inl (K (100 + j))))) := cM_at h (cC17 hj)
theorem cr17 (h : cOk ad nm A L F I) {j i : Nat} {x : Int32} (hj : cisp A I (j / 2)) (hi : i < 10) (hx : x = nI i) : jaj (cM z ad nm A L F I zz K k μ0) (some (ad (17, j))) x = some ((K (100 + j)) i) := jaj_at (ca17 h hj) hi (by decide) hx
theorem cw17 (h : cE ad nm A L F I) {j i : Nat} {x : Int32} {v : Int64} (hj : cisp A I (j / 2)) (hi : i < 10) (hx : x = nI i) : jsj (cM z ad nm A L F I zz K k μ0) (some (ad (17, j))) x v = some (cM z ad nm A L F I zz (upK K (100 + j) i v) k μ0) := by
  rw [jsj_at (ca17 h.1 hj) hi (by decide) hx]
  have e : upK K (100 + j) i v (100 + j) = vp_updL (K (100 + j)) i v := by
    funext y
    simp [upK, vp_updL]
  refine congrArg some (cM_up h.1 (cC17 hj) ((cC17 hj).trans (by rw [e])) (fun y hy => cC_cong (fun _ _ => rfl) (fun a b hm => upK_ne (fun e => hy ?_)) (fun _ _ _ => rfl)))
  obtain ⟨q, i'⟩ := y
  obtain ⟨hA, hL, hF, -⟩ := h.2
  obtain ⟨hj1, -⟩ := hj
  simp only [rdK] at hm
  exact pr_eq (by omega) (by omega)
theorem cC18 {j : Nat} (hj : cisp A I (j / 2)) : cC z ad A L F I zz K k (18, j) = some (.inl (1, 10, .inr (.inl (K (200 + j))))) := if_pos hj
theorem ca18 (h : cOk ad nm A L F I) {j : Nat} (hj : cisp A I (j / 2)) : cM z ad nm A L F I zz K k μ0 (ad (18, j)) = some (.inl (1, 10, .inr (.inl (K (200 + j))))) := cM_at h (cC18 hj)
theorem cr18 (h : cOk ad nm A L F I) {j i : Nat} {x : Int32} (hj : cisp A I (j / 2)) (hi : i < 10) (hx : x = nI i) : jaj (cM z ad nm A L F I zz K k μ0) (some (ad (18, j))) x = some ((K (200 + j)) i) := jaj_at (ca18 h hj) hi (by decide) hx
theorem cw18 (h : cE ad nm A L F I) {j i : Nat} {x : Int32} {v : Int64} (hj : cisp A I (j / 2)) (hi : i < 10) (hx : x = nI i) : jsj (cM z ad nm A L F I zz K k μ0) (some (ad (18, j))) x v = some (cM z ad nm A L F I zz (upK K (200 + j) i v) k μ0) := by
  rw [jsj_at (ca18 h.1 hj) hi (by decide) hx]
  have e : upK K (200 + j) i v (200 + j) = vp_updL (K (200 + j)) i v := by
    funext y
    simp [upK, vp_updL]
  refine congrArg some (cM_up h.1 (cC18 hj) ((cC18 hj).trans (by rw [e])) (fun y hy => cC_cong (fun _ _ => rfl) (fun a b hm => upK_ne (fun e => hy ?_)) (fun _ _ _ => rfl)))
  obtain ⟨q, i'⟩ := y
  obtain ⟨hA, hL, hF, -⟩ := h.2
  obtain ⟨hj1, -⟩ := hj
  simp only [rdK] at hm
  exact pr_eq (by omega) (by omega)
theorem cC19 {j : Nat} (hj : cisp A I (j / 2)) : cC z ad A L F I zz K k (19, j) = some (.inl (1, 10, .inr (.inl (K (300 + j))))) := if_pos hj
theorem ca19 (h : cOk ad nm A L F I) {j : Nat} (hj : cisp A I (j / 2)) : cM z ad nm A L F I zz K k μ0 (ad (19, j)) = some (.inl (1, 10, .inr (.inl (K (300 + j))))) := cM_at h (cC19 hj)
theorem cr19 (h : cOk ad nm A L F I) {j i : Nat} {x : Int32} (hj : cisp A I (j / 2)) (hi : i < 10) (hx : x = nI i) : jaj (cM z ad nm A L F I zz K k μ0) (some (ad (19, j))) x = some ((K (300 + j)) i) := jaj_at (ca19 h hj) hi (by decide) hx
theorem cw19 (h : cE ad nm A L F I) {j i : Nat} {x : Int32} {v : Int64} (hj : cisp A I (j / 2)) (hi : i < 10) (hx : x = nI i) : jsj (cM z ad nm A L F I zz K k μ0) (some (ad (19, j))) x v = some (cM z ad nm A L F I zz (upK K (300 + j) i v) k μ0) := by
  rw [jsj_at (ca19 h.1 hj) hi (by decide) hx]
  have e : upK K (300 + j) i v (300 + j) = vp_updL (K (300 + j)) i v := by
    funext y
    simp [upK, vp_updL]
  refine congrArg some (cM_up h.1 (cC19 hj) ((cC19 hj).trans (by rw [e])) (fun y hy => cC_cong (fun _ _ => rfl) (fun a b hm => upK_ne (fun e => hy ?_)) (fun _ _ _ => rfl)))
  obtain ⟨q, i'⟩ := y
  obtain ⟨hA, hL, hF, -⟩ := h.2
  obtain ⟨hj1, -⟩ := hj
  simp only [rdK] at hm
  exact pr_eq (by omega) (by omega)
theorem cmem_lt {p j i : Nat} (h : (cmem A I p)[j]? = some i) : i < A ∧ tI I i = p := mem_cmem.mp (List.mem_of_getElem? h)
theorem cmem_nodup {p : Nat} : (cmem A I p).Nodup := List.Pairwise.filter _ (List.nodup_range (n := A))
theorem cmem_inj {p i j y : Nat} (hi : (cmem A I p)[i]? = some y) (hj : (cmem A I p)[j]? = some y) : i = j := by
  exact (List.getElem?_inj (List.getElem?_eq_some_iff.mp hi).1 cmem_nodup).mp (hi.trans hj.symm)
theorem sw1_inj {s a b : Nat} (h : sw1 s a = sw1 s b) : a = b := by
  unfold sw1 at h
  omega
/-- a weight -/
theorem cw16 (h : cE ad nm A L F I) {j i y : Nat} {x : Int32} {v : Int64} (hj : cisp A I (j / 2)) (hi : i < 10) (hx : x = nI i) (hy : (cmem A I (j / 2))[i]? = some y) : jsj (cM z ad nm A L F I zz K k μ0) (some (ad (16, j))) x v = some (cM z ad nm A L F I (vp_updL zz (sw1 j y) v) K k μ0) := by
  rw [jsj_at (ca16 h.1 hj) hi (by decide) hx]
  have e : cwt A I (vp_updL zz (sw1 j y) v) j = vp_updL (cwt A I zz j) i v := by
    funext i'
    by_cases hii : i' = i
    · subst hii
      rw [pk_uLs]
      unfold cwt
      rw [hy]
      exact pk_uLs
    · rw [pk_uLn hii]
      unfold cwt
      cases hy' : (cmem A I (j / 2))[i']? with
      | none => rfl
      | some y' => exact pk_uLn (fun e => hii (cmem_inj (hy'.trans (by rw [sw1_inj e])) hy))
  refine congrArg some (cM_upz h.1 (cC16 hj) ((cC16 hj).trans (by rw [e])) ?_)
  obtain ⟨hA, hL, hF, -⟩ := h.2
  obtain ⟨hyA, hyt⟩ := cmem_lt hy
  have h1 : (j % 2 = 0 ∧ sw1 j y = 30 + y) ∨ (j % 2 = 1 ∧ sw1 j y = 40 + y) := (Nat.mod_two_eq_zero_or_one j).imp (fun e => ⟨e, sw1_0 e⟩) (fun e => ⟨e, sw1_1 e⟩)
  rintro ⟨q, i⟩ hm
  simp only [rdz] at hm
  rcases hm with ⟨a, b, c⟩ | ⟨a, b, c⟩ | ⟨a, ⟨b, -⟩, c⟩ | ⟨a, e, b, d, c⟩ | ⟨a, b, c⟩ | ⟨a, b, c⟩
  · exfalso; omega
  · exfalso; omega
  · exfalso; omega
  · have ey : e = y := by omega
    subst ey
    exact pr_eq (by omega) (by omega)
  · exfalso; omega
  · exfalso; omega
/-- beyond the members a weight is 0 -/
theorem cw16n (h : cE ad nm A L F I) {j i : Nat} {x : Int32} (hj : cisp A I (j / 2)) (hi : i < 10) (hx : x = nI i) (hy : (cmem A I (j / 2))[i]? = none) : jsj (cM z ad nm A L F I zz K k μ0) (some (ad (16, j))) x 0 = some (cM z ad nm A L F I zz K k μ0) := by
  rw [jsj_at (ca16 h.1 hj) hi (by decide) hx]
  have e : vp_updL (cwt A I zz j) i 0 = cwt A I zz j := by
    funext i'
    by_cases hii : i' = i
    · subst hii
      rw [pk_uLs]
      unfold cwt
      rw [hy]
    · exact pk_uLn hii
  rw [e]
  exact congrArg some (cM_up h.1 (cC16 hj) (cC16 hj) (fun _ _ => rfl))
end CR
