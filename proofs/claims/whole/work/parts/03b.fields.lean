/-! what a put does to a cell (by program) -/
theorem ps_C0 {cA : Nat → ClassId} {ad : Nat → Nat → Nat} (st : fb_S) (v : Int32) : fb_cC cA ad (fb_up st 0 0 v) 0 0 = .inr (0, [.int v, .int (st 1 0), .int (st 2 0), .int (st 3 0), .ref (ad 1 0), .ref (ad 2 0), .ref (ad 3 0), .ref (ad 4 0), .int (st 4 0), .int (st 5 0), .int (st 6 0)]) := by
  show (Sum.inr (0, [.int (fb_up st 0 0 v 0 0), .int (fb_up st 0 0 v 1 0), .int (fb_up st 0 0 v 2 0), .int (fb_up st 0 0 v 3 0), .ref (ad 1 0), .ref (ad 2 0), .ref (ad 3 0), .ref (ad 4 0), .int (fb_up st 0 0 v 4 0), .int (fb_up st 0 0 v 5 0), .int (fb_up st 0 0 v 6 0)]) : va_E) = _
  simp [fb_up]
theorem ps_C1 {cA : Nat → ClassId} {ad : Nat → Nat → Nat} (st : fb_S) (v : Int32) : fb_cC cA ad (fb_up st 1 0 v) 0 0 = .inr (0, [.int (st 0 0), .int v, .int (st 2 0), .int (st 3 0), .ref (ad 1 0), .ref (ad 2 0), .ref (ad 3 0), .ref (ad 4 0), .int (st 4 0), .int (st 5 0), .int (st 6 0)]) := by
  show (Sum.inr (0, [.int (fb_up st 1 0 v 0 0), .int (fb_up st 1 0 v 1 0), .int (fb_up st 1 0 v 2 0), .int (fb_up st 1 0 v 3 0), .ref (ad 1 0), .ref (ad 2 0), .ref (ad 3 0), .ref (ad 4 0), .int (fb_up st 1 0 v 4 0), .int (fb_up st 1 0 v 5 0), .int (fb_up st 1 0 v 6 0)]) : va_E) = _
  simp [fb_up]
theorem ps_C2 {cA : Nat → ClassId} {ad : Nat → Nat → Nat} (st : fb_S) (v : Int32) : fb_cC cA ad (fb_up st 2 0 v) 0 0 = .inr (0, [.int (st 0 0), .int (st 1 0), .int v, .int (st 3 0), .ref (ad 1 0), .ref (ad 2 0), .ref (ad 3 0), .ref (ad 4 0), .int (st 4 0), .int (st 5 0), .int (st 6 0)]) := by
  show (Sum.inr (0, [.int (fb_up st 2 0 v 0 0), .int (fb_up st 2 0 v 1 0), .int (fb_up st 2 0 v 2 0), .int (fb_up st 2 0 v 3 0), .ref (ad 1 0), .ref (ad 2 0), .ref (ad 3 0), .ref (ad 4 0), .int (fb_up st 2 0 v 4 0), .int (fb_up st 2 0 v 5 0), .int (fb_up st 2 0 v 6 0)]) : va_E) = _
  simp [fb_up]
theorem ps_C3 {cA : Nat → ClassId} {ad : Nat → Nat → Nat} (st : fb_S) (v : Int32) : fb_cC cA ad (fb_up st 3 0 v) 0 0 = .inr (0, [.int (st 0 0), .int (st 1 0), .int (st 2 0), .int v, .ref (ad 1 0), .ref (ad 2 0), .ref (ad 3 0), .ref (ad 4 0), .int (st 4 0), .int (st 5 0), .int (st 6 0)]) := by
  show (Sum.inr (0, [.int (fb_up st 3 0 v 0 0), .int (fb_up st 3 0 v 1 0), .int (fb_up st 3 0 v 2 0), .int (fb_up st 3 0 v 3 0), .ref (ad 1 0), .ref (ad 2 0), .ref (ad 3 0), .ref (ad 4 0), .int (fb_up st 3 0 v 4 0), .int (fb_up st 3 0 v 5 0), .int (fb_up st 3 0 v 6 0)]) : va_E) = _
  simp [fb_up]
theorem ps_C4 {cA : Nat → ClassId} {ad : Nat → Nat → Nat} (st : fb_S) (v : Int32) : fb_cC cA ad (fb_up st 4 0 v) 0 0 = .inr (0, [.int (st 0 0), .int (st 1 0), .int (st 2 0), .int (st 3 0), .ref (ad 1 0), .ref (ad 2 0), .ref (ad 3 0), .ref (ad 4 0), .int v, .int (st 5 0), .int (st 6 0)]) := by
  show (Sum.inr (0, [.int (fb_up st 4 0 v 0 0), .int (fb_up st 4 0 v 1 0), .int (fb_up st 4 0 v 2 0), .int (fb_up st 4 0 v 3 0), .ref (ad 1 0), .ref (ad 2 0), .ref (ad 3 0), .ref (ad 4 0), .int (fb_up st 4 0 v 4 0), .int (fb_up st 4 0 v 5 0), .int (fb_up st 4 0 v 6 0)]) : va_E) = _
  simp [fb_up]
theorem ps_C5 {cA : Nat → ClassId} {ad : Nat → Nat → Nat} (st : fb_S) (v : Int32) : fb_cC cA ad (fb_up st 5 0 v) 0 0 = .inr (0, [.int (st 0 0), .int (st 1 0), .int (st 2 0), .int (st 3 0), .ref (ad 1 0), .ref (ad 2 0), .ref (ad 3 0), .ref (ad 4 0), .int (st 4 0), .int v, .int (st 6 0)]) := by
  show (Sum.inr (0, [.int (fb_up st 5 0 v 0 0), .int (fb_up st 5 0 v 1 0), .int (fb_up st 5 0 v 2 0), .int (fb_up st 5 0 v 3 0), .ref (ad 1 0), .ref (ad 2 0), .ref (ad 3 0), .ref (ad 4 0), .int (fb_up st 5 0 v 4 0), .int (fb_up st 5 0 v 5 0), .int (fb_up st 5 0 v 6 0)]) : va_E) = _
  simp [fb_up]
theorem ps_C6 {cA : Nat → ClassId} {ad : Nat → Nat → Nat} (st : fb_S) (v : Int32) : fb_cC cA ad (fb_up st 6 0 v) 0 0 = .inr (0, [.int (st 0 0), .int (st 1 0), .int (st 2 0), .int (st 3 0), .ref (ad 1 0), .ref (ad 2 0), .ref (ad 3 0), .ref (ad 4 0), .int (st 4 0), .int (st 5 0), .int v]) := by
  show (Sum.inr (0, [.int (fb_up st 6 0 v 0 0), .int (fb_up st 6 0 v 1 0), .int (fb_up st 6 0 v 2 0), .int (fb_up st 6 0 v 3 0), .ref (ad 1 0), .ref (ad 2 0), .ref (ad 3 0), .ref (ad 4 0), .int (fb_up st 6 0 v 4 0), .int (fb_up st 6 0 v 5 0), .int (fb_up st 6 0 v 6 0)]) : va_E) = _
  simp [fb_up]
theorem ps_C10 {cA : Nat → ClassId} {ad : Nat → Nat → Nat} (st : fb_S) (i : Nat) (v : Int32) : fb_cC cA ad (fb_up st 10 i v) 5 i = .inr (1, [.int v, .int (st 11 i), .ref (ad 8 i), .ref (ad 9 i), .int (st 12 i), va_rf (fb_ro (ad 7) (st 13 i)), .ref (ad 11 (3 * i + 2)), .ref (ad 10 i), .int (st 14 i), .int (st 15 i), .int (st 16 i)]) := by
  show (Sum.inr (1, [.int (fb_up st 10 i v 10 i), .int (fb_up st 10 i v 11 i), .ref (ad 8 i), .ref (ad 9 i), .int (fb_up st 10 i v 12 i), va_rf (fb_ro (ad 7) (fb_up st 10 i v 13 i)), .ref (ad 11 (3 * i + 2)), .ref (ad 10 i), .int (fb_up st 10 i v 14 i), .int (fb_up st 10 i v 15 i), .int (fb_up st 10 i v 16 i)]) : va_E) = _
  simp [fb_up]
theorem ps_C11 {cA : Nat → ClassId} {ad : Nat → Nat → Nat} (st : fb_S) (i : Nat) (v : Int32) : fb_cC cA ad (fb_up st 11 i v) 5 i = .inr (1, [.int (st 10 i), .int v, .ref (ad 8 i), .ref (ad 9 i), .int (st 12 i), va_rf (fb_ro (ad 7) (st 13 i)), .ref (ad 11 (3 * i + 2)), .ref (ad 10 i), .int (st 14 i), .int (st 15 i), .int (st 16 i)]) := by
  show (Sum.inr (1, [.int (fb_up st 11 i v 10 i), .int (fb_up st 11 i v 11 i), .ref (ad 8 i), .ref (ad 9 i), .int (fb_up st 11 i v 12 i), va_rf (fb_ro (ad 7) (fb_up st 11 i v 13 i)), .ref (ad 11 (3 * i + 2)), .ref (ad 10 i), .int (fb_up st 11 i v 14 i), .int (fb_up st 11 i v 15 i), .int (fb_up st 11 i v 16 i)]) : va_E) = _
  simp [fb_up]
theorem ps_C12 {cA : Nat → ClassId} {ad : Nat → Nat → Nat} (st : fb_S) (i : Nat) (v : Int32) : fb_cC cA ad (fb_up st 12 i v) 5 i = .inr (1, [.int (st 10 i), .int (st 11 i), .ref (ad 8 i), .ref (ad 9 i), .int v, va_rf (fb_ro (ad 7) (st 13 i)), .ref (ad 11 (3 * i + 2)), .ref (ad 10 i), .int (st 14 i), .int (st 15 i), .int (st 16 i)]) := by
  show (Sum.inr (1, [.int (fb_up st 12 i v 10 i), .int (fb_up st 12 i v 11 i), .ref (ad 8 i), .ref (ad 9 i), .int (fb_up st 12 i v 12 i), va_rf (fb_ro (ad 7) (fb_up st 12 i v 13 i)), .ref (ad 11 (3 * i + 2)), .ref (ad 10 i), .int (fb_up st 12 i v 14 i), .int (fb_up st 12 i v 15 i), .int (fb_up st 12 i v 16 i)]) : va_E) = _
  simp [fb_up]
theorem psn_C13 {cA : Nat → ClassId} {ad : Nat → Nat → Nat} (st : fb_S) (i : Nat) {v : Int32} (h : v < 0) : fb_cC cA ad (fb_up st 13 i v) 5 i = .inr (1, [.int (st 10 i), .int (st 11 i), .ref (ad 8 i), .ref (ad 9 i), .int (st 12 i), .null, .ref (ad 11 (3 * i + 2)), .ref (ad 10 i), .int (st 14 i), .int (st 15 i), .int (st 16 i)]) := by
  show (Sum.inr (1, [.int (fb_up st 13 i v 10 i), .int (fb_up st 13 i v 11 i), .ref (ad 8 i), .ref (ad 9 i), .int (fb_up st 13 i v 12 i), va_rf (fb_ro (ad 7) (fb_up st 13 i v 13 i)), .ref (ad 11 (3 * i + 2)), .ref (ad 10 i), .int (fb_up st 13 i v 14 i), .int (fb_up st 13 i v 15 i), .int (fb_up st 13 i v 16 i)]) : va_E) = _
  simp [fb_up, fb_ro_n h, va_rf]
theorem psr_C13 {cA : Nat → ClassId} {ad : Nat → Nat → Nat} (st : fb_S) (i : Nat) {v : Int32} (h : ¬ v < 0) : fb_cC cA ad (fb_up st 13 i v) 5 i = .inr (1, [.int (st 10 i), .int (st 11 i), .ref (ad 8 i), .ref (ad 9 i), .int (st 12 i), .ref (ad 7 (fb_n v)), .ref (ad 11 (3 * i + 2)), .ref (ad 10 i), .int (st 14 i), .int (st 15 i), .int (st 16 i)]) := by
  show (Sum.inr (1, [.int (fb_up st 13 i v 10 i), .int (fb_up st 13 i v 11 i), .ref (ad 8 i), .ref (ad 9 i), .int (fb_up st 13 i v 12 i), va_rf (fb_ro (ad 7) (fb_up st 13 i v 13 i)), .ref (ad 11 (3 * i + 2)), .ref (ad 10 i), .int (fb_up st 13 i v 14 i), .int (fb_up st 13 i v 15 i), .int (fb_up st 13 i v 16 i)]) : va_E) = _
  simp [fb_up, fb_ro_s h, va_rf]
theorem psk_C13 {cA : Nat → ClassId} {ad : Nat → Nat → Nat} (st : fb_S) (i : Nat) {q : Nat} (h : q < 2 ^ 31) : fb_cC cA ad (fb_up st 13 i (nI q)) 5 i = .inr (1, [.int (st 10 i), .int (st 11 i), .ref (ad 8 i), .ref (ad 9 i), .int (st 12 i), .ref (ad 7 q), .ref (ad 11 (3 * i + 2)), .ref (ad 10 i), .int (st 14 i), .int (st 15 i), .int (st 16 i)]) := by
  rw [psr_C13 st i (nI_pos h), fb_nI h]
theorem ps_C14 {cA : Nat → ClassId} {ad : Nat → Nat → Nat} (st : fb_S) (i : Nat) (v : Int32) : fb_cC cA ad (fb_up st 14 i v) 5 i = .inr (1, [.int (st 10 i), .int (st 11 i), .ref (ad 8 i), .ref (ad 9 i), .int (st 12 i), va_rf (fb_ro (ad 7) (st 13 i)), .ref (ad 11 (3 * i + 2)), .ref (ad 10 i), .int v, .int (st 15 i), .int (st 16 i)]) := by
  show (Sum.inr (1, [.int (fb_up st 14 i v 10 i), .int (fb_up st 14 i v 11 i), .ref (ad 8 i), .ref (ad 9 i), .int (fb_up st 14 i v 12 i), va_rf (fb_ro (ad 7) (fb_up st 14 i v 13 i)), .ref (ad 11 (3 * i + 2)), .ref (ad 10 i), .int (fb_up st 14 i v 14 i), .int (fb_up st 14 i v 15 i), .int (fb_up st 14 i v 16 i)]) : va_E) = _
  simp [fb_up]
theorem ps_C15 {cA : Nat → ClassId} {ad : Nat → Nat → Nat} (st : fb_S) (i : Nat) (v : Int32) : fb_cC cA ad (fb_up st 15 i v) 5 i = .inr (1, [.int (st 10 i), .int (st 11 i), .ref (ad 8 i), .ref (ad 9 i), .int (st 12 i), va_rf (fb_ro (ad 7) (st 13 i)), .ref (ad 11 (3 * i + 2)), .ref (ad 10 i), .int (st 14 i), .int v, .int (st 16 i)]) := by
  show (Sum.inr (1, [.int (fb_up st 15 i v 10 i), .int (fb_up st 15 i v 11 i), .ref (ad 8 i), .ref (ad 9 i), .int (fb_up st 15 i v 12 i), va_rf (fb_ro (ad 7) (fb_up st 15 i v 13 i)), .ref (ad 11 (3 * i + 2)), .ref (ad 10 i), .int (fb_up st 15 i v 14 i), .int (fb_up st 15 i v 15 i), .int (fb_up st 15 i v 16 i)]) : va_E) = _
  simp [fb_up]
theorem ps_C16 {cA : Nat → ClassId} {ad : Nat → Nat → Nat} (st : fb_S) (i : Nat) (v : Int32) : fb_cC cA ad (fb_up st 16 i v) 5 i = .inr (1, [.int (st 10 i), .int (st 11 i), .ref (ad 8 i), .ref (ad 9 i), .int (st 12 i), va_rf (fb_ro (ad 7) (st 13 i)), .ref (ad 11 (3 * i + 2)), .ref (ad 10 i), .int (st 14 i), .int (st 15 i), .int v]) := by
  show (Sum.inr (1, [.int (fb_up st 16 i v 10 i), .int (fb_up st 16 i v 11 i), .ref (ad 8 i), .ref (ad 9 i), .int (fb_up st 16 i v 12 i), va_rf (fb_ro (ad 7) (fb_up st 16 i v 13 i)), .ref (ad 11 (3 * i + 2)), .ref (ad 10 i), .int (fb_up st 16 i v 14 i), .int (fb_up st 16 i v 15 i), .int (fb_up st 16 i v 16 i)]) : va_E) = _
  simp [fb_up]
theorem ps_C22 {cA : Nat → ClassId} {ad : Nat → Nat → Nat} (st : fb_S) (i : Nat) (v : Int32) : fb_cC cA ad (fb_up st 22 i v) 6 i = .inr (2, [.int v, .ref (ad 12 i), .int (st 23 i), .int (st 24 i), .int (st 25 i), .int (st 26 i), .int (st 27 i), .int (st 28 i), .int (st 29 i), .int (st 30 i), .int (st 31 i), .int (st 32 i)]) := by
  show (Sum.inr (2, [.int (fb_up st 22 i v 22 i), .ref (ad 12 i), .int (fb_up st 22 i v 23 i), .int (fb_up st 22 i v 24 i), .int (fb_up st 22 i v 25 i), .int (fb_up st 22 i v 26 i), .int (fb_up st 22 i v 27 i), .int (fb_up st 22 i v 28 i), .int (fb_up st 22 i v 29 i), .int (fb_up st 22 i v 30 i), .int (fb_up st 22 i v 31 i), .int (fb_up st 22 i v 32 i)]) : va_E) = _
  simp [fb_up]
theorem ps_C23 {cA : Nat → ClassId} {ad : Nat → Nat → Nat} (st : fb_S) (i : Nat) (v : Int32) : fb_cC cA ad (fb_up st 23 i v) 6 i = .inr (2, [.int (st 22 i), .ref (ad 12 i), .int v, .int (st 24 i), .int (st 25 i), .int (st 26 i), .int (st 27 i), .int (st 28 i), .int (st 29 i), .int (st 30 i), .int (st 31 i), .int (st 32 i)]) := by
  show (Sum.inr (2, [.int (fb_up st 23 i v 22 i), .ref (ad 12 i), .int (fb_up st 23 i v 23 i), .int (fb_up st 23 i v 24 i), .int (fb_up st 23 i v 25 i), .int (fb_up st 23 i v 26 i), .int (fb_up st 23 i v 27 i), .int (fb_up st 23 i v 28 i), .int (fb_up st 23 i v 29 i), .int (fb_up st 23 i v 30 i), .int (fb_up st 23 i v 31 i), .int (fb_up st 23 i v 32 i)]) : va_E) = _
  simp [fb_up]
theorem ps_C24 {cA : Nat → ClassId} {ad : Nat → Nat → Nat} (st : fb_S) (i : Nat) (v : Int32) : fb_cC cA ad (fb_up st 24 i v) 6 i = .inr (2, [.int (st 22 i), .ref (ad 12 i), .int (st 23 i), .int v, .int (st 25 i), .int (st 26 i), .int (st 27 i), .int (st 28 i), .int (st 29 i), .int (st 30 i), .int (st 31 i), .int (st 32 i)]) := by
  show (Sum.inr (2, [.int (fb_up st 24 i v 22 i), .ref (ad 12 i), .int (fb_up st 24 i v 23 i), .int (fb_up st 24 i v 24 i), .int (fb_up st 24 i v 25 i), .int (fb_up st 24 i v 26 i), .int (fb_up st 24 i v 27 i), .int (fb_up st 24 i v 28 i), .int (fb_up st 24 i v 29 i), .int (fb_up st 24 i v 30 i), .int (fb_up st 24 i v 31 i), .int (fb_up st 24 i v 32 i)]) : va_E) = _
  simp [fb_up]
theorem ps_C25 {cA : Nat → ClassId} {ad : Nat → Nat → Nat} (st : fb_S) (i : Nat) (v : Int32) : fb_cC cA ad (fb_up st 25 i v) 6 i = .inr (2, [.int (st 22 i), .ref (ad 12 i), .int (st 23 i), .int (st 24 i), .int v, .int (st 26 i), .int (st 27 i), .int (st 28 i), .int (st 29 i), .int (st 30 i), .int (st 31 i), .int (st 32 i)]) := by
  show (Sum.inr (2, [.int (fb_up st 25 i v 22 i), .ref (ad 12 i), .int (fb_up st 25 i v 23 i), .int (fb_up st 25 i v 24 i), .int (fb_up st 25 i v 25 i), .int (fb_up st 25 i v 26 i), .int (fb_up st 25 i v 27 i), .int (fb_up st 25 i v 28 i), .int (fb_up st 25 i v 29 i), .int (fb_up st 25 i v 30 i), .int (fb_up st 25 i v 31 i), .int (fb_up st 25 i v 32 i)]) : va_E) = _
  simp [fb_up]
theorem ps_C26 {cA : Nat → ClassId} {ad : Nat → Nat → Nat} (st : fb_S) (i : Nat) (v : Int32) : fb_cC cA ad (fb_up st 26 i v) 6 i = .inr (2, [.int (st 22 i), .ref (ad 12 i), .int (st 23 i), .int (st 24 i), .int (st 25 i), .int v, .int (st 27 i), .int (st 28 i), .int (st 29 i), .int (st 30 i), .int (st 31 i), .int (st 32 i)]) := by
  show (Sum.inr (2, [.int (fb_up st 26 i v 22 i), .ref (ad 12 i), .int (fb_up st 26 i v 23 i), .int (fb_up st 26 i v 24 i), .int (fb_up st 26 i v 25 i), .int (fb_up st 26 i v 26 i), .int (fb_up st 26 i v 27 i), .int (fb_up st 26 i v 28 i), .int (fb_up st 26 i v 29 i), .int (fb_up st 26 i v 30 i), .int (fb_up st 26 i v 31 i), .int (fb_up st 26 i v 32 i)]) : va_E) = _
  simp [fb_up]
theorem ps_C27 {cA : Nat → ClassId} {ad : Nat → Nat → Nat} (st : fb_S) (i : Nat) (v : Int32) : fb_cC cA ad (fb_up st 27 i v) 6 i = .inr (2, [.int (st 22 i), .ref (ad 12 i), .int (st 23 i), .int (st 24 i), .int (st 25 i), .int (st 26 i), .int v, .int (st 28 i), .int (st 29 i), .int (st 30 i), .int (st 31 i), .int (st 32 i)]) := by
  show (Sum.inr (2, [.int (fb_up st 27 i v 22 i), .ref (ad 12 i), .int (fb_up st 27 i v 23 i), .int (fb_up st 27 i v 24 i), .int (fb_up st 27 i v 25 i), .int (fb_up st 27 i v 26 i), .int (fb_up st 27 i v 27 i), .int (fb_up st 27 i v 28 i), .int (fb_up st 27 i v 29 i), .int (fb_up st 27 i v 30 i), .int (fb_up st 27 i v 31 i), .int (fb_up st 27 i v 32 i)]) : va_E) = _
  simp [fb_up]
theorem ps_C28 {cA : Nat → ClassId} {ad : Nat → Nat → Nat} (st : fb_S) (i : Nat) (v : Int32) : fb_cC cA ad (fb_up st 28 i v) 6 i = .inr (2, [.int (st 22 i), .ref (ad 12 i), .int (st 23 i), .int (st 24 i), .int (st 25 i), .int (st 26 i), .int (st 27 i), .int v, .int (st 29 i), .int (st 30 i), .int (st 31 i), .int (st 32 i)]) := by
  show (Sum.inr (2, [.int (fb_up st 28 i v 22 i), .ref (ad 12 i), .int (fb_up st 28 i v 23 i), .int (fb_up st 28 i v 24 i), .int (fb_up st 28 i v 25 i), .int (fb_up st 28 i v 26 i), .int (fb_up st 28 i v 27 i), .int (fb_up st 28 i v 28 i), .int (fb_up st 28 i v 29 i), .int (fb_up st 28 i v 30 i), .int (fb_up st 28 i v 31 i), .int (fb_up st 28 i v 32 i)]) : va_E) = _
  simp [fb_up]
theorem ps_C29 {cA : Nat → ClassId} {ad : Nat → Nat → Nat} (st : fb_S) (i : Nat) (v : Int32) : fb_cC cA ad (fb_up st 29 i v) 6 i = .inr (2, [.int (st 22 i), .ref (ad 12 i), .int (st 23 i), .int (st 24 i), .int (st 25 i), .int (st 26 i), .int (st 27 i), .int (st 28 i), .int v, .int (st 30 i), .int (st 31 i), .int (st 32 i)]) := by
  show (Sum.inr (2, [.int (fb_up st 29 i v 22 i), .ref (ad 12 i), .int (fb_up st 29 i v 23 i), .int (fb_up st 29 i v 24 i), .int (fb_up st 29 i v 25 i), .int (fb_up st 29 i v 26 i), .int (fb_up st 29 i v 27 i), .int (fb_up st 29 i v 28 i), .int (fb_up st 29 i v 29 i), .int (fb_up st 29 i v 30 i), .int (fb_up st 29 i v 31 i), .int (fb_up st 29 i v 32 i)]) : va_E) = _
  simp [fb_up]
theorem ps_C30 {cA : Nat → ClassId} {ad : Nat → Nat → Nat} (st : fb_S) (i : Nat) (v : Int32) : fb_cC cA ad (fb_up st 30 i v) 6 i = .inr (2, [.int (st 22 i), .ref (ad 12 i), .int (st 23 i), .int (st 24 i), .int (st 25 i), .int (st 26 i), .int (st 27 i), .int (st 28 i), .int (st 29 i), .int v, .int (st 31 i), .int (st 32 i)]) := by
  show (Sum.inr (2, [.int (fb_up st 30 i v 22 i), .ref (ad 12 i), .int (fb_up st 30 i v 23 i), .int (fb_up st 30 i v 24 i), .int (fb_up st 30 i v 25 i), .int (fb_up st 30 i v 26 i), .int (fb_up st 30 i v 27 i), .int (fb_up st 30 i v 28 i), .int (fb_up st 30 i v 29 i), .int (fb_up st 30 i v 30 i), .int (fb_up st 30 i v 31 i), .int (fb_up st 30 i v 32 i)]) : va_E) = _
  simp [fb_up]
theorem ps_C31 {cA : Nat → ClassId} {ad : Nat → Nat → Nat} (st : fb_S) (i : Nat) (v : Int32) : fb_cC cA ad (fb_up st 31 i v) 6 i = .inr (2, [.int (st 22 i), .ref (ad 12 i), .int (st 23 i), .int (st 24 i), .int (st 25 i), .int (st 26 i), .int (st 27 i), .int (st 28 i), .int (st 29 i), .int (st 30 i), .int v, .int (st 32 i)]) := by
  show (Sum.inr (2, [.int (fb_up st 31 i v 22 i), .ref (ad 12 i), .int (fb_up st 31 i v 23 i), .int (fb_up st 31 i v 24 i), .int (fb_up st 31 i v 25 i), .int (fb_up st 31 i v 26 i), .int (fb_up st 31 i v 27 i), .int (fb_up st 31 i v 28 i), .int (fb_up st 31 i v 29 i), .int (fb_up st 31 i v 30 i), .int (fb_up st 31 i v 31 i), .int (fb_up st 31 i v 32 i)]) : va_E) = _
  simp [fb_up]
theorem ps_C32 {cA : Nat → ClassId} {ad : Nat → Nat → Nat} (st : fb_S) (i : Nat) (v : Int32) : fb_cC cA ad (fb_up st 32 i v) 6 i = .inr (2, [.int (st 22 i), .ref (ad 12 i), .int (st 23 i), .int (st 24 i), .int (st 25 i), .int (st 26 i), .int (st 27 i), .int (st 28 i), .int (st 29 i), .int (st 30 i), .int (st 31 i), .int v]) := by
  show (Sum.inr (2, [.int (fb_up st 32 i v 22 i), .ref (ad 12 i), .int (fb_up st 32 i v 23 i), .int (fb_up st 32 i v 24 i), .int (fb_up st 32 i v 25 i), .int (fb_up st 32 i v 26 i), .int (fb_up st 32 i v 27 i), .int (fb_up st 32 i v 28 i), .int (fb_up st 32 i v 29 i), .int (fb_up st 32 i v 30 i), .int (fb_up st 32 i v 31 i), .int (fb_up st 32 i v 32 i)]) : va_E) = _
  simp [fb_up]
theorem ps_C35 {cA : Nat → ClassId} {ad : Nat → Nat → Nat} (st : fb_S) (i : Nat) (v : Int32) : fb_cC cA ad (fb_up st 35 i v) 7 i = .inr (3, [.int v, .ref (ad 6 (fb_n (st 36 i))), .int (st 37 i), .int (st 38 i), .int (st 39 i), .int (st 40 i), .int (st 41 i), va_rf (fb_ro (ad 5) (st 42 i)), .int (st 43 i), va_rf (fb_ro (ad 7) (st 44 i))]) := by
  show (Sum.inr (3, [.int (fb_up st 35 i v 35 i), .ref (ad 6 (fb_n (fb_up st 35 i v 36 i))), .int (fb_up st 35 i v 37 i), .int (fb_up st 35 i v 38 i), .int (fb_up st 35 i v 39 i), .int (fb_up st 35 i v 40 i), .int (fb_up st 35 i v 41 i), va_rf (fb_ro (ad 5) (fb_up st 35 i v 42 i)), .int (fb_up st 35 i v 43 i), va_rf (fb_ro (ad 7) (fb_up st 35 i v 44 i))]) : va_E) = _
  simp [fb_up]
theorem ps_C37 {cA : Nat → ClassId} {ad : Nat → Nat → Nat} (st : fb_S) (i : Nat) (v : Int32) : fb_cC cA ad (fb_up st 37 i v) 7 i = .inr (3, [.int (st 35 i), .ref (ad 6 (fb_n (st 36 i))), .int v, .int (st 38 i), .int (st 39 i), .int (st 40 i), .int (st 41 i), va_rf (fb_ro (ad 5) (st 42 i)), .int (st 43 i), va_rf (fb_ro (ad 7) (st 44 i))]) := by
  show (Sum.inr (3, [.int (fb_up st 37 i v 35 i), .ref (ad 6 (fb_n (fb_up st 37 i v 36 i))), .int (fb_up st 37 i v 37 i), .int (fb_up st 37 i v 38 i), .int (fb_up st 37 i v 39 i), .int (fb_up st 37 i v 40 i), .int (fb_up st 37 i v 41 i), va_rf (fb_ro (ad 5) (fb_up st 37 i v 42 i)), .int (fb_up st 37 i v 43 i), va_rf (fb_ro (ad 7) (fb_up st 37 i v 44 i))]) : va_E) = _
  simp [fb_up]
theorem ps_C38 {cA : Nat → ClassId} {ad : Nat → Nat → Nat} (st : fb_S) (i : Nat) (v : Int32) : fb_cC cA ad (fb_up st 38 i v) 7 i = .inr (3, [.int (st 35 i), .ref (ad 6 (fb_n (st 36 i))), .int (st 37 i), .int v, .int (st 39 i), .int (st 40 i), .int (st 41 i), va_rf (fb_ro (ad 5) (st 42 i)), .int (st 43 i), va_rf (fb_ro (ad 7) (st 44 i))]) := by
  show (Sum.inr (3, [.int (fb_up st 38 i v 35 i), .ref (ad 6 (fb_n (fb_up st 38 i v 36 i))), .int (fb_up st 38 i v 37 i), .int (fb_up st 38 i v 38 i), .int (fb_up st 38 i v 39 i), .int (fb_up st 38 i v 40 i), .int (fb_up st 38 i v 41 i), va_rf (fb_ro (ad 5) (fb_up st 38 i v 42 i)), .int (fb_up st 38 i v 43 i), va_rf (fb_ro (ad 7) (fb_up st 38 i v 44 i))]) : va_E) = _
  simp [fb_up]
theorem ps_C39 {cA : Nat → ClassId} {ad : Nat → Nat → Nat} (st : fb_S) (i : Nat) (v : Int32) : fb_cC cA ad (fb_up st 39 i v) 7 i = .inr (3, [.int (st 35 i), .ref (ad 6 (fb_n (st 36 i))), .int (st 37 i), .int (st 38 i), .int v, .int (st 40 i), .int (st 41 i), va_rf (fb_ro (ad 5) (st 42 i)), .int (st 43 i), va_rf (fb_ro (ad 7) (st 44 i))]) := by
  show (Sum.inr (3, [.int (fb_up st 39 i v 35 i), .ref (ad 6 (fb_n (fb_up st 39 i v 36 i))), .int (fb_up st 39 i v 37 i), .int (fb_up st 39 i v 38 i), .int (fb_up st 39 i v 39 i), .int (fb_up st 39 i v 40 i), .int (fb_up st 39 i v 41 i), va_rf (fb_ro (ad 5) (fb_up st 39 i v 42 i)), .int (fb_up st 39 i v 43 i), va_rf (fb_ro (ad 7) (fb_up st 39 i v 44 i))]) : va_E) = _
  simp [fb_up]
theorem ps_C40 {cA : Nat → ClassId} {ad : Nat → Nat → Nat} (st : fb_S) (i : Nat) (v : Int32) : fb_cC cA ad (fb_up st 40 i v) 7 i = .inr (3, [.int (st 35 i), .ref (ad 6 (fb_n (st 36 i))), .int (st 37 i), .int (st 38 i), .int (st 39 i), .int v, .int (st 41 i), va_rf (fb_ro (ad 5) (st 42 i)), .int (st 43 i), va_rf (fb_ro (ad 7) (st 44 i))]) := by
  show (Sum.inr (3, [.int (fb_up st 40 i v 35 i), .ref (ad 6 (fb_n (fb_up st 40 i v 36 i))), .int (fb_up st 40 i v 37 i), .int (fb_up st 40 i v 38 i), .int (fb_up st 40 i v 39 i), .int (fb_up st 40 i v 40 i), .int (fb_up st 40 i v 41 i), va_rf (fb_ro (ad 5) (fb_up st 40 i v 42 i)), .int (fb_up st 40 i v 43 i), va_rf (fb_ro (ad 7) (fb_up st 40 i v 44 i))]) : va_E) = _
  simp [fb_up]
theorem ps_C41 {cA : Nat → ClassId} {ad : Nat → Nat → Nat} (st : fb_S) (i : Nat) (v : Int32) : fb_cC cA ad (fb_up st 41 i v) 7 i = .inr (3, [.int (st 35 i), .ref (ad 6 (fb_n (st 36 i))), .int (st 37 i), .int (st 38 i), .int (st 39 i), .int (st 40 i), .int v, va_rf (fb_ro (ad 5) (st 42 i)), .int (st 43 i), va_rf (fb_ro (ad 7) (st 44 i))]) := by
  show (Sum.inr (3, [.int (fb_up st 41 i v 35 i), .ref (ad 6 (fb_n (fb_up st 41 i v 36 i))), .int (fb_up st 41 i v 37 i), .int (fb_up st 41 i v 38 i), .int (fb_up st 41 i v 39 i), .int (fb_up st 41 i v 40 i), .int (fb_up st 41 i v 41 i), va_rf (fb_ro (ad 5) (fb_up st 41 i v 42 i)), .int (fb_up st 41 i v 43 i), va_rf (fb_ro (ad 7) (fb_up st 41 i v 44 i))]) : va_E) = _
  simp [fb_up]
theorem psn_C42 {cA : Nat → ClassId} {ad : Nat → Nat → Nat} (st : fb_S) (i : Nat) {v : Int32} (h : v < 0) : fb_cC cA ad (fb_up st 42 i v) 7 i = .inr (3, [.int (st 35 i), .ref (ad 6 (fb_n (st 36 i))), .int (st 37 i), .int (st 38 i), .int (st 39 i), .int (st 40 i), .int (st 41 i), .null, .int (st 43 i), va_rf (fb_ro (ad 7) (st 44 i))]) := by
  show (Sum.inr (3, [.int (fb_up st 42 i v 35 i), .ref (ad 6 (fb_n (fb_up st 42 i v 36 i))), .int (fb_up st 42 i v 37 i), .int (fb_up st 42 i v 38 i), .int (fb_up st 42 i v 39 i), .int (fb_up st 42 i v 40 i), .int (fb_up st 42 i v 41 i), va_rf (fb_ro (ad 5) (fb_up st 42 i v 42 i)), .int (fb_up st 42 i v 43 i), va_rf (fb_ro (ad 7) (fb_up st 42 i v 44 i))]) : va_E) = _
  simp [fb_up, fb_ro_n h, va_rf]
theorem psr_C42 {cA : Nat → ClassId} {ad : Nat → Nat → Nat} (st : fb_S) (i : Nat) {v : Int32} (h : ¬ v < 0) : fb_cC cA ad (fb_up st 42 i v) 7 i = .inr (3, [.int (st 35 i), .ref (ad 6 (fb_n (st 36 i))), .int (st 37 i), .int (st 38 i), .int (st 39 i), .int (st 40 i), .int (st 41 i), .ref (ad 5 (fb_n v)), .int (st 43 i), va_rf (fb_ro (ad 7) (st 44 i))]) := by
  show (Sum.inr (3, [.int (fb_up st 42 i v 35 i), .ref (ad 6 (fb_n (fb_up st 42 i v 36 i))), .int (fb_up st 42 i v 37 i), .int (fb_up st 42 i v 38 i), .int (fb_up st 42 i v 39 i), .int (fb_up st 42 i v 40 i), .int (fb_up st 42 i v 41 i), va_rf (fb_ro (ad 5) (fb_up st 42 i v 42 i)), .int (fb_up st 42 i v 43 i), va_rf (fb_ro (ad 7) (fb_up st 42 i v 44 i))]) : va_E) = _
  simp [fb_up, fb_ro_s h, va_rf]
theorem psk_C42 {cA : Nat → ClassId} {ad : Nat → Nat → Nat} (st : fb_S) (i : Nat) {q : Nat} (h : q < 2 ^ 31) : fb_cC cA ad (fb_up st 42 i (nI q)) 7 i = .inr (3, [.int (st 35 i), .ref (ad 6 (fb_n (st 36 i))), .int (st 37 i), .int (st 38 i), .int (st 39 i), .int (st 40 i), .int (st 41 i), .ref (ad 5 q), .int (st 43 i), va_rf (fb_ro (ad 7) (st 44 i))]) := by
  rw [psr_C42 st i (nI_pos h), fb_nI h]
theorem ps_C43 {cA : Nat → ClassId} {ad : Nat → Nat → Nat} (st : fb_S) (i : Nat) (v : Int32) : fb_cC cA ad (fb_up st 43 i v) 7 i = .inr (3, [.int (st 35 i), .ref (ad 6 (fb_n (st 36 i))), .int (st 37 i), .int (st 38 i), .int (st 39 i), .int (st 40 i), .int (st 41 i), va_rf (fb_ro (ad 5) (st 42 i)), .int v, va_rf (fb_ro (ad 7) (st 44 i))]) := by
  show (Sum.inr (3, [.int (fb_up st 43 i v 35 i), .ref (ad 6 (fb_n (fb_up st 43 i v 36 i))), .int (fb_up st 43 i v 37 i), .int (fb_up st 43 i v 38 i), .int (fb_up st 43 i v 39 i), .int (fb_up st 43 i v 40 i), .int (fb_up st 43 i v 41 i), va_rf (fb_ro (ad 5) (fb_up st 43 i v 42 i)), .int (fb_up st 43 i v 43 i), va_rf (fb_ro (ad 7) (fb_up st 43 i v 44 i))]) : va_E) = _
  simp [fb_up]
theorem psn_C44 {cA : Nat → ClassId} {ad : Nat → Nat → Nat} (st : fb_S) (i : Nat) {v : Int32} (h : v < 0) : fb_cC cA ad (fb_up st 44 i v) 7 i = .inr (3, [.int (st 35 i), .ref (ad 6 (fb_n (st 36 i))), .int (st 37 i), .int (st 38 i), .int (st 39 i), .int (st 40 i), .int (st 41 i), va_rf (fb_ro (ad 5) (st 42 i)), .int (st 43 i), .null]) := by
  show (Sum.inr (3, [.int (fb_up st 44 i v 35 i), .ref (ad 6 (fb_n (fb_up st 44 i v 36 i))), .int (fb_up st 44 i v 37 i), .int (fb_up st 44 i v 38 i), .int (fb_up st 44 i v 39 i), .int (fb_up st 44 i v 40 i), .int (fb_up st 44 i v 41 i), va_rf (fb_ro (ad 5) (fb_up st 44 i v 42 i)), .int (fb_up st 44 i v 43 i), va_rf (fb_ro (ad 7) (fb_up st 44 i v 44 i))]) : va_E) = _
  simp [fb_up, fb_ro_n h, va_rf]
theorem psr_C44 {cA : Nat → ClassId} {ad : Nat → Nat → Nat} (st : fb_S) (i : Nat) {v : Int32} (h : ¬ v < 0) : fb_cC cA ad (fb_up st 44 i v) 7 i = .inr (3, [.int (st 35 i), .ref (ad 6 (fb_n (st 36 i))), .int (st 37 i), .int (st 38 i), .int (st 39 i), .int (st 40 i), .int (st 41 i), va_rf (fb_ro (ad 5) (st 42 i)), .int (st 43 i), .ref (ad 7 (fb_n v))]) := by
  show (Sum.inr (3, [.int (fb_up st 44 i v 35 i), .ref (ad 6 (fb_n (fb_up st 44 i v 36 i))), .int (fb_up st 44 i v 37 i), .int (fb_up st 44 i v 38 i), .int (fb_up st 44 i v 39 i), .int (fb_up st 44 i v 40 i), .int (fb_up st 44 i v 41 i), va_rf (fb_ro (ad 5) (fb_up st 44 i v 42 i)), .int (fb_up st 44 i v 43 i), va_rf (fb_ro (ad 7) (fb_up st 44 i v 44 i))]) : va_E) = _
  simp [fb_up, fb_ro_s h, va_rf]
theorem psk_C44 {cA : Nat → ClassId} {ad : Nat → Nat → Nat} (st : fb_S) (i : Nat) {q : Nat} (h : q < 2 ^ 31) : fb_cC cA ad (fb_up st 44 i (nI q)) 7 i = .inr (3, [.int (st 35 i), .ref (ad 6 (fb_n (st 36 i))), .int (st 37 i), .int (st 38 i), .int (st 39 i), .int (st 40 i), .int (st 41 i), va_rf (fb_ro (ad 5) (st 42 i)), .int (st 43 i), .ref (ad 7 q)]) := by
  rw [psr_C44 st i (nI_pos h), fb_nI h]
theorem psn_C19 {cA : Nat → ClassId} {ad : Nat → Nat → Nat} (st : fb_S) (i : Nat) {v : Int32} (h : v < 0) : fb_cC cA ad (fb_up st 19 i v) 11 i = .inr (4, [.null, va_rf (fb_ro (ad 7) (st 20 i)), .int (st 21 i)]) := by
  show (Sum.inr (4, [va_rf (fb_ro (ad 7) (fb_up st 19 i v 19 i)), va_rf (fb_ro (ad 7) (fb_up st 19 i v 20 i)), .int (fb_up st 19 i v 21 i)]) : va_E) = _
  simp [fb_up, fb_ro_n h, va_rf]
theorem psr_C19 {cA : Nat → ClassId} {ad : Nat → Nat → Nat} (st : fb_S) (i : Nat) {v : Int32} (h : ¬ v < 0) : fb_cC cA ad (fb_up st 19 i v) 11 i = .inr (4, [.ref (ad 7 (fb_n v)), va_rf (fb_ro (ad 7) (st 20 i)), .int (st 21 i)]) := by
  show (Sum.inr (4, [va_rf (fb_ro (ad 7) (fb_up st 19 i v 19 i)), va_rf (fb_ro (ad 7) (fb_up st 19 i v 20 i)), .int (fb_up st 19 i v 21 i)]) : va_E) = _
  simp [fb_up, fb_ro_s h, va_rf]
theorem psk_C19 {cA : Nat → ClassId} {ad : Nat → Nat → Nat} (st : fb_S) (i : Nat) {q : Nat} (h : q < 2 ^ 31) : fb_cC cA ad (fb_up st 19 i (nI q)) 11 i = .inr (4, [.ref (ad 7 q), va_rf (fb_ro (ad 7) (st 20 i)), .int (st 21 i)]) := by
  rw [psr_C19 st i (nI_pos h), fb_nI h]
theorem psn_C20 {cA : Nat → ClassId} {ad : Nat → Nat → Nat} (st : fb_S) (i : Nat) {v : Int32} (h : v < 0) : fb_cC cA ad (fb_up st 20 i v) 11 i = .inr (4, [va_rf (fb_ro (ad 7) (st 19 i)), .null, .int (st 21 i)]) := by
  show (Sum.inr (4, [va_rf (fb_ro (ad 7) (fb_up st 20 i v 19 i)), va_rf (fb_ro (ad 7) (fb_up st 20 i v 20 i)), .int (fb_up st 20 i v 21 i)]) : va_E) = _
  simp [fb_up, fb_ro_n h, va_rf]
theorem psr_C20 {cA : Nat → ClassId} {ad : Nat → Nat → Nat} (st : fb_S) (i : Nat) {v : Int32} (h : ¬ v < 0) : fb_cC cA ad (fb_up st 20 i v) 11 i = .inr (4, [va_rf (fb_ro (ad 7) (st 19 i)), .ref (ad 7 (fb_n v)), .int (st 21 i)]) := by
  show (Sum.inr (4, [va_rf (fb_ro (ad 7) (fb_up st 20 i v 19 i)), va_rf (fb_ro (ad 7) (fb_up st 20 i v 20 i)), .int (fb_up st 20 i v 21 i)]) : va_E) = _
  simp [fb_up, fb_ro_s h, va_rf]
theorem psk_C20 {cA : Nat → ClassId} {ad : Nat → Nat → Nat} (st : fb_S) (i : Nat) {q : Nat} (h : q < 2 ^ 31) : fb_cC cA ad (fb_up st 20 i (nI q)) 11 i = .inr (4, [va_rf (fb_ro (ad 7) (st 19 i)), .ref (ad 7 q), .int (st 21 i)]) := by
  rw [psr_C20 st i (nI_pos h), fb_nI h]
theorem ps_C21 {cA : Nat → ClassId} {ad : Nat → Nat → Nat} (st : fb_S) (i : Nat) (v : Int32) : fb_cC cA ad (fb_up st 21 i v) 11 i = .inr (4, [va_rf (fb_ro (ad 7) (st 19 i)), va_rf (fb_ro (ad 7) (st 20 i)), .int v]) := by
  show (Sum.inr (4, [va_rf (fb_ro (ad 7) (fb_up st 21 i v 19 i)), va_rf (fb_ro (ad 7) (fb_up st 21 i v 20 i)), .int (fb_up st 21 i v 21 i)]) : va_E) = _
  simp [fb_up]
theorem pa_C7 {cA : Nat → ClassId} {ad : Nat → Nat → Nat} (st : fb_S) (j : Nat) (v : Int32) : fb_cC cA ad (fb_up st 7 j v) 1 0 = .inl (cA 0, 2, .inl (upd (st 7) j v)) := by
  show (Sum.inl (cA 0, 2, Sum.inl (fb_up st 7 j v 7)) : va_E) = _
  rw [fb_up_row]
theorem pa_C17 {cA : Nat → ClassId} {ad : Nat → Nat → Nat} (st : fb_S) (i j : Nat) (v : Int32) (hj : j < 2) : fb_cC cA ad (fb_up st 17 (2 * i + j) v) 9 i = .inl (cA 0, 2, .inl (upd (fun q => if q < 2 then st 17 (2 * i + q) else 0) j v)) := by
  show (Sum.inl (cA 0, 2, Sum.inl (fun q => if q < 2 then fb_up st 17 (2 * i + j) v 17 (2 * i + q) else 0)) : va_E) = _
  rw [show (fun q => if q < 2 then fb_up st 17 (2 * i + j) v 17 (2 * i + q) else 0) = upd (fun q => if q < 2 then st 17 (2 * i + q) else 0) j v from funext (fun q => by
    unfold upd fb_up
    by_cases hq : q = j
    · subst hq
      simp [hj]
    · by_cases h2 : q < 2
      · simp [h2, hq]
      · simp [h2, hq])]
theorem pa_C18 {cA : Nat → ClassId} {ad : Nat → Nat → Nat} (st : fb_S) (i j : Nat) (v : Int32) (hj : j < 2) : fb_cC cA ad (fb_up st 18 (2 * i + j) v) 10 i = .inl (cA 0, 2, .inl (upd (fun q => if q < 2 then st 18 (2 * i + q) else 0) j v)) := by
  show (Sum.inl (cA 0, 2, Sum.inl (fun q => if q < 2 then fb_up st 18 (2 * i + j) v 18 (2 * i + q) else 0)) : va_E) = _
  rw [show (fun q => if q < 2 then fb_up st 18 (2 * i + j) v 18 (2 * i + q) else 0) = upd (fun q => if q < 2 then st 18 (2 * i + q) else 0) j v from funext (fun q => by
    unfold upd fb_up
    by_cases hq : q = j
    · subst hq
      simp [hj]
    · by_cases h2 : q < 2
      · simp [h2, hq]
      · simp [h2, hq])]
theorem pa_M7 {cA : Nat → ClassId} {ad : Nat → Nat → Nat} (st : fb_S) (j : Nat) (v : Int32) : fb_cM cA ad (fb_up st 7 j v) 7 0 = .inl (cA 0, 12, .inl (upd (st 7) j v)) := by
  show (Sum.inl (cA 0, 12, Sum.inl (fb_up st 7 j v 7)) : va_E) = _
  rw [fb_up_row]
theorem pa_M8 {cA : Nat → ClassId} {ad : Nat → Nat → Nat} (st : fb_S) (j : Nat) (v : Int32) : fb_cM cA ad (fb_up st 8 j v) 8 0 = .inl (cA 0, 12, .inl (upd (st 8) j v)) := by
  show (Sum.inl (cA 0, 12, Sum.inl (fb_up st 8 j v 8)) : va_E) = _
  rw [fb_up_row]
theorem pa_M9 {cA : Nat → ClassId} {ad : Nat → Nat → Nat} (st : fb_S) (j : Nat) (v : Int32) : fb_cM cA ad (fb_up st 9 j v) 9 0 = .inl (cA 0, 12, .inl (upd (st 9) j v)) := by
  show (Sum.inl (cA 0, 12, Sum.inl (fb_up st 9 j v 9)) : va_E) = _
  rw [fb_up_row]
theorem pa_M10 {cA : Nat → ClassId} {ad : Nat → Nat → Nat} (st : fb_S) (j : Nat) (v : Int32) : fb_cM cA ad (fb_up st 10 j v) 10 0 = .inl (cA 0, 12, .inl (upd (st 10) j v)) := by
  show (Sum.inl (cA 0, 12, Sum.inl (fb_up st 10 j v 10)) : va_E) = _
  rw [fb_up_row]
theorem pa_M11 {cA : Nat → ClassId} {ad : Nat → Nat → Nat} (st : fb_S) (j : Nat) (v : Int32) : fb_cM cA ad (fb_up st 11 j v) 11 0 = .inl (cA 0, 12, .inl (upd (st 11) j v)) := by
  show (Sum.inl (cA 0, 12, Sum.inl (fb_up st 11 j v 11)) : va_E) = _
  rw [fb_up_row]
theorem pa_M12 {cA : Nat → ClassId} {ad : Nat → Nat → Nat} (st : fb_S) (j : Nat) (v : Int32) : fb_cM cA ad (fb_up st 12 j v) 12 0 = .inl (cA 0, 12, .inl (upd (st 12) j v)) := by
  show (Sum.inl (cA 0, 12, Sum.inl (fb_up st 12 j v 12)) : va_E) = _
  rw [fb_up_row]
theorem pa_M13 {cA : Nat → ClassId} {ad : Nat → Nat → Nat} (st : fb_S) (j : Nat) (v : Int32) : fb_cM cA ad (fb_up st 13 j v) 13 0 = .inl (cA 0, 12, .inl (upd (st 13) j v)) := by
  show (Sum.inl (cA 0, 12, Sum.inl (fb_up st 13 j v 13)) : va_E) = _
  rw [fb_up_row]
theorem pa_M14 {cA : Nat → ClassId} {ad : Nat → Nat → Nat} (st : fb_S) (j : Nat) (v : Int32) : fb_cM cA ad (fb_up st 14 j v) 14 0 = .inl (cA 0, 12, .inl (upd (st 14) j v)) := by
  show (Sum.inl (cA 0, 12, Sum.inl (fb_up st 14 j v 14)) : va_E) = _
  rw [fb_up_row]
theorem pa_M16 {cA : Nat → ClassId} {ad : Nat → Nat → Nat} (st : fb_S) (j : Nat) (v : Int32) : fb_cM cA ad (fb_up st 16 j v) 16 0 = .inl (cA 0, 100, .inl (upd (st 16) j v)) := by
  show (Sum.inl (cA 0, 100, Sum.inl (fb_up st 16 j v 16)) : va_E) = _
  rw [fb_up_row]
theorem pa_M17 {cA : Nat → ClassId} {ad : Nat → Nat → Nat} (st : fb_S) (j : Nat) (v : Int32) : fb_cM cA ad (fb_up st 17 j v) 17 0 = .inl (cA 0, 100, .inl (upd (st 17) j v)) := by
  show (Sum.inl (cA 0, 100, Sum.inl (fb_up st 17 j v 17)) : va_E) = _
  rw [fb_up_row]
theorem pa_M18 {cA : Nat → ClassId} {ad : Nat → Nat → Nat} (st : fb_S) (j : Nat) (v : Int32) : fb_cM cA ad (fb_up st 18 j v) 18 0 = .inl (cA 0, 100, .inl (upd (st 18) j v)) := by
  show (Sum.inl (cA 0, 100, Sum.inl (fb_up st 18 j v 18)) : va_E) = _
  rw [fb_up_row]
theorem pa_M19 {cA : Nat → ClassId} {ad : Nat → Nat → Nat} (st : fb_S) (j : Nat) (v : Int32) : fb_cM cA ad (fb_up st 19 j v) 19 0 = .inl (cA 0, 100, .inl (upd (st 19) j v)) := by
  show (Sum.inl (cA 0, 100, Sum.inl (fb_up st 19 j v 19)) : va_E) = _
  rw [fb_up_row]
theorem pa_M20 {cA : Nat → ClassId} {ad : Nat → Nat → Nat} (st : fb_S) (j : Nat) (v : Int32) : fb_cM cA ad (fb_up st 20 j v) 20 0 = .inl (cA 0, 100, .inl (upd (st 20) j v)) := by
  show (Sum.inl (cA 0, 100, Sum.inl (fb_up st 20 j v 20)) : va_E) = _
  rw [fb_up_row]
theorem pa_M21 {cA : Nat → ClassId} {ad : Nat → Nat → Nat} (st : fb_S) (j : Nat) (v : Int32) : fb_cM cA ad (fb_up st 21 j v) 21 0 = .inl (cA 0, 100, .inl (upd (st 21) j v)) := by
  show (Sum.inl (cA 0, 100, Sum.inl (fb_up st 21 j v 21)) : va_E) = _
  rw [fb_up_row]
theorem pa_M23 {cA : Nat → ClassId} {ad : Nat → Nat → Nat} (st : fb_S) (j : Nat) (v : Int32) : fb_cM cA ad (fb_up st 23 j v) 23 0 = .inl (cA 0, 196, .inl (upd (st 23) j v)) := by
  show (Sum.inl (cA 0, 196, Sum.inl (fb_up st 23 j v 23)) : va_E) = _
  rw [fb_up_row]
theorem pa_M24 {cA : Nat → ClassId} {ad : Nat → Nat → Nat} (st : fb_S) (j : Nat) (v : Int32) : fb_cM cA ad (fb_up st 24 j v) 24 0 = .inl (cA 0, 392, .inl (upd (st 24) j v)) := by
  show (Sum.inl (cA 0, 392, Sum.inl (fb_up st 24 j v 24)) : va_E) = _
  rw [fb_up_row]
theorem pa_M25 {cA : Nat → ClassId} {ad : Nat → Nat → Nat} (st : fb_S) (j : Nat) (v : Int32) : fb_cM cA ad (fb_up st 25 j v) 25 0 = .inl (cA 0, 2, .inl (upd (st 25) j v)) := by
  show (Sum.inl (cA 0, 2, Sum.inl (fb_up st 25 j v 25)) : va_E) = _
  rw [fb_up_row]
theorem pz_M22 {cA : Nat → ClassId} {ad : Nat → Nat → Nat} (st : fb_S) (j : Nat) {v : Int32} (h : v = 0 ∨ v = 1) : fb_cM cA ad (fb_up st 22 j v) 22 0 = .inl (cA 5, 100, .inl (upd (st 22) j (vp_nar .boolean v))) := by
  show (Sum.inl (cA 5, 100, Sum.inl (fb_up st 22 j v 22)) : va_E) = _
  rw [fb_up_row, fb_vz h]
theorem pz_M26 {cA : Nat → ClassId} {ad : Nat → Nat → Nat} (st : fb_S) (j : Nat) {v : Int32} (h : v = 0 ∨ v = 1) : fb_cM cA ad (fb_up st 26 j v) 26 0 = .inl (cA 5, 196, .inl (upd (st 26) j (vp_nar .boolean v))) := by
  show (Sum.inl (cA 5, 196, Sum.inl (fb_up st 26 j v 26)) : va_E) = _
  rw [fb_up_row, fb_vz h]
theorem pz_M27 {cA : Nat → ClassId} {ad : Nat → Nat → Nat} (st : fb_S) (j : Nat) {v : Int32} (h : v = 0 ∨ v = 1) : fb_cM cA ad (fb_up st 27 j v) 27 0 = .inl (cA 5, 1764, .inl (upd (st 27) j (vp_nar .boolean v))) := by
  show (Sum.inl (cA 5, 1764, Sum.inl (fb_up st 27 j v 27)) : va_E) = _
  rw [fb_up_row, fb_vz h]
theorem ps_M4 {cA : Nat → ClassId} {ad : Nat → Nat → Nat} (st : fb_S) (v : Int32) : fb_cM cA ad (fb_up st 4 0 v) 0 0 = .inr (5, [.int (st 0 0), .int (st 1 0), .int (st 2 0), .int (st 3 0), .int v, .int (st 5 0), .int (st 6 0), .ref (ad 7 0), .ref (ad 8 0), .ref (ad 9 0), .ref (ad 10 0), .ref (ad 11 0), .ref (ad 12 0), .ref (ad 13 0), .ref (ad 14 0), .int (st 15 0), .ref (ad 16 0), .ref (ad 17 0), .ref (ad 18 0), .ref (ad 19 0), .ref (ad 20 0), .ref (ad 21 0), .ref (ad 22 0), .ref (ad 23 0), .ref (ad 24 0), .ref (ad 25 0), .ref (ad 26 0), .ref (ad 27 0)]) := by
  show (Sum.inr (5, [.int (fb_up st 4 0 v 0 0), .int (fb_up st 4 0 v 1 0), .int (fb_up st 4 0 v 2 0), .int (fb_up st 4 0 v 3 0), .int (fb_up st 4 0 v 4 0), .int (fb_up st 4 0 v 5 0), .int (fb_up st 4 0 v 6 0), .ref (ad 7 0), .ref (ad 8 0), .ref (ad 9 0), .ref (ad 10 0), .ref (ad 11 0), .ref (ad 12 0), .ref (ad 13 0), .ref (ad 14 0), .int (fb_up st 4 0 v 15 0), .ref (ad 16 0), .ref (ad 17 0), .ref (ad 18 0), .ref (ad 19 0), .ref (ad 20 0), .ref (ad 21 0), .ref (ad 22 0), .ref (ad 23 0), .ref (ad 24 0), .ref (ad 25 0), .ref (ad 26 0), .ref (ad 27 0)]) : va_E) = _
  simp [fb_up]
theorem ps_M5 {cA : Nat → ClassId} {ad : Nat → Nat → Nat} (st : fb_S) (v : Int32) : fb_cM cA ad (fb_up st 5 0 v) 0 0 = .inr (5, [.int (st 0 0), .int (st 1 0), .int (st 2 0), .int (st 3 0), .int (st 4 0), .int v, .int (st 6 0), .ref (ad 7 0), .ref (ad 8 0), .ref (ad 9 0), .ref (ad 10 0), .ref (ad 11 0), .ref (ad 12 0), .ref (ad 13 0), .ref (ad 14 0), .int (st 15 0), .ref (ad 16 0), .ref (ad 17 0), .ref (ad 18 0), .ref (ad 19 0), .ref (ad 20 0), .ref (ad 21 0), .ref (ad 22 0), .ref (ad 23 0), .ref (ad 24 0), .ref (ad 25 0), .ref (ad 26 0), .ref (ad 27 0)]) := by
  show (Sum.inr (5, [.int (fb_up st 5 0 v 0 0), .int (fb_up st 5 0 v 1 0), .int (fb_up st 5 0 v 2 0), .int (fb_up st 5 0 v 3 0), .int (fb_up st 5 0 v 4 0), .int (fb_up st 5 0 v 5 0), .int (fb_up st 5 0 v 6 0), .ref (ad 7 0), .ref (ad 8 0), .ref (ad 9 0), .ref (ad 10 0), .ref (ad 11 0), .ref (ad 12 0), .ref (ad 13 0), .ref (ad 14 0), .int (fb_up st 5 0 v 15 0), .ref (ad 16 0), .ref (ad 17 0), .ref (ad 18 0), .ref (ad 19 0), .ref (ad 20 0), .ref (ad 21 0), .ref (ad 22 0), .ref (ad 23 0), .ref (ad 24 0), .ref (ad 25 0), .ref (ad 26 0), .ref (ad 27 0)]) : va_E) = _
  simp [fb_up]
theorem ps_M6 {cA : Nat → ClassId} {ad : Nat → Nat → Nat} (st : fb_S) (v : Int32) : fb_cM cA ad (fb_up st 6 0 v) 0 0 = .inr (5, [.int (st 0 0), .int (st 1 0), .int (st 2 0), .int (st 3 0), .int (st 4 0), .int (st 5 0), .int v, .ref (ad 7 0), .ref (ad 8 0), .ref (ad 9 0), .ref (ad 10 0), .ref (ad 11 0), .ref (ad 12 0), .ref (ad 13 0), .ref (ad 14 0), .int (st 15 0), .ref (ad 16 0), .ref (ad 17 0), .ref (ad 18 0), .ref (ad 19 0), .ref (ad 20 0), .ref (ad 21 0), .ref (ad 22 0), .ref (ad 23 0), .ref (ad 24 0), .ref (ad 25 0), .ref (ad 26 0), .ref (ad 27 0)]) := by
  show (Sum.inr (5, [.int (fb_up st 6 0 v 0 0), .int (fb_up st 6 0 v 1 0), .int (fb_up st 6 0 v 2 0), .int (fb_up st 6 0 v 3 0), .int (fb_up st 6 0 v 4 0), .int (fb_up st 6 0 v 5 0), .int (fb_up st 6 0 v 6 0), .ref (ad 7 0), .ref (ad 8 0), .ref (ad 9 0), .ref (ad 10 0), .ref (ad 11 0), .ref (ad 12 0), .ref (ad 13 0), .ref (ad 14 0), .int (fb_up st 6 0 v 15 0), .ref (ad 16 0), .ref (ad 17 0), .ref (ad 18 0), .ref (ad 19 0), .ref (ad 20 0), .ref (ad 21 0), .ref (ad 22 0), .ref (ad 23 0), .ref (ad 24 0), .ref (ad 25 0), .ref (ad 26 0), .ref (ad 27 0)]) : va_E) = _
  simp [fb_up]
theorem ps_M15 {cA : Nat → ClassId} {ad : Nat → Nat → Nat} (st : fb_S) (v : Int32) : fb_cM cA ad (fb_up st 15 0 v) 0 0 = .inr (5, [.int (st 0 0), .int (st 1 0), .int (st 2 0), .int (st 3 0), .int (st 4 0), .int (st 5 0), .int (st 6 0), .ref (ad 7 0), .ref (ad 8 0), .ref (ad 9 0), .ref (ad 10 0), .ref (ad 11 0), .ref (ad 12 0), .ref (ad 13 0), .ref (ad 14 0), .int v, .ref (ad 16 0), .ref (ad 17 0), .ref (ad 18 0), .ref (ad 19 0), .ref (ad 20 0), .ref (ad 21 0), .ref (ad 22 0), .ref (ad 23 0), .ref (ad 24 0), .ref (ad 25 0), .ref (ad 26 0), .ref (ad 27 0)]) := by
  show (Sum.inr (5, [.int (fb_up st 15 0 v 0 0), .int (fb_up st 15 0 v 1 0), .int (fb_up st 15 0 v 2 0), .int (fb_up st 15 0 v 3 0), .int (fb_up st 15 0 v 4 0), .int (fb_up st 15 0 v 5 0), .int (fb_up st 15 0 v 6 0), .ref (ad 7 0), .ref (ad 8 0), .ref (ad 9 0), .ref (ad 10 0), .ref (ad 11 0), .ref (ad 12 0), .ref (ad 13 0), .ref (ad 14 0), .int (fb_up st 15 0 v 15 0), .ref (ad 16 0), .ref (ad 17 0), .ref (ad 18 0), .ref (ad 19 0), .ref (ad 20 0), .ref (ad 21 0), .ref (ad 22 0), .ref (ad 23 0), .ref (ad 24 0), .ref (ad 25 0), .ref (ad 26 0), .ref (ad 27 0)]) : va_E) = _
  simp [fb_up]
