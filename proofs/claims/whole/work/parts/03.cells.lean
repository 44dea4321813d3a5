/-! the cells of both sides out of the stores; ranges; what lives. Class numbers: 0 PausedFabric 1 Port 2 Flow 3 Frame 4 FrameQueue 5 the reference; array classes: cA 0 int 1 Port 2 Flow 3 Frame 4 FrameQueue 5 boolean -/
def fb_tys (cA : Nat → ClassId) : List (ClassId × FieldType) := [(cA 0, .int), (cA 1, .object "PausedFabric$Port"), (cA 2, .object "PausedFabric$Flow"), (cA 3, .object "PausedFabric$Frame"), (cA 4, .object "PausedFabric$FrameQueue"), (cA 5, .boolean)]
def fb_cC (cA : Nat → ClassId) : fb_C := fun ad st k i => match k with
  | 0 => .inr (0, [.int (st 0 0), .int (st 1 0), .int (st 2 0), .int (st 3 0), .ref (ad 1 0), .ref (ad 2 0), .ref (ad 3 0), .ref (ad 4 0), .int (st 4 0), .int (st 5 0), .int (st 6 0)])
  | 1 => .inl (cA 0, 2, .inl (st 7))
  | 2 => .inl (cA 1, 32, .inr (.inr (.inr (.inr (fun j => if j < 32 then some (ad 5 j) else none)))))
  | 3 => .inl (cA 2, 12, .inr (.inr (.inr (.inr (fun j => fb_ro (ad 6) (st 8 j))))))
  | 4 => .inl (cA 3, 100, .inr (.inr (.inr (.inr (fun j => fb_ro (ad 7) (st 9 j))))))
  | 5 => .inr (1, [.int (st 10 i), .int (st 11 i), .ref (ad 8 i), .ref (ad 9 i), .int (st 12 i), va_rf (fb_ro (ad 7) (st 13 i)), .ref (ad 11 (3 * i + 2)), .ref (ad 10 i), .int (st 14 i), .int (st 15 i), .int (st 16 i)])
  | 6 => .inr (2, [.int (st 22 i), .ref (ad 12 i), .int (st 23 i), .int (st 24 i), .int (st 25 i), .int (st 26 i), .int (st 27 i), .int (st 28 i), .int (st 29 i), .int (st 30 i), .int (st 31 i), .int (st 32 i)])
  | 7 => .inr (3, [.int (st 35 i), .ref (ad 6 (fb_n (st 36 i))), .int (st 37 i), .int (st 38 i), .int (st 39 i), .int (st 40 i), .int (st 41 i), va_rf (fb_ro (ad 5) (st 42 i)), .int (st 43 i), va_rf (fb_ro (ad 7) (st 44 i))])
  | 8 => .inl (cA 4, 2, .inr (.inr (.inr (.inr (fun j => if j < 2 then some (ad 11 (3 * i + j)) else none)))))
  | 9 => .inl (cA 0, 2, .inl (fun j => if j < 2 then st 17 (2 * i + j) else 0))
  | 10 => .inl (cA 0, 2, .inl (fun j => if j < 2 then st 18 (2 * i + j) else 0))
  | 11 => .inr (4, [va_rf (fb_ro (ad 7) (st 19 i)), va_rf (fb_ro (ad 7) (st 20 i)), .int (st 21 i)])
  | _ => .inl (cA 1, fb_n (st 34 i), .inr (.inr (.inr (.inr (fun j => fb_ro (ad 5) (if j < 4 then st 33 (4 * i + j) else -1))))))
/-- which label a field belongs to -/
def fb_ow (F : Nat) : Nat := if F < 7 then 0 else if F = 7 then 1 else if F = 8 then 3 else if F = 9 then 4 else if F < 17 then 5 else if F = 17 then 9 else if F = 18 then 10 else if F < 22 then 11 else if F < 33 then 6 else if F < 35 then 12 else 7
def fb_ix (F j : Nat) : Nat := if F < 10 then 0 else if F = 17 then j / 2 else if F = 18 then j / 2 else if F = 33 then j / 4 else j
theorem ow_0 : fb_ow 0 = 0 := by simp [fb_ow]
theorem ix_0 (j : Nat) : fb_ix 0 j = 0 := by simp [fb_ix]
theorem ow_1 : fb_ow 1 = 0 := by simp [fb_ow]
theorem ix_1 (j : Nat) : fb_ix 1 j = 0 := by simp [fb_ix]
theorem ow_2 : fb_ow 2 = 0 := by simp [fb_ow]
theorem ix_2 (j : Nat) : fb_ix 2 j = 0 := by simp [fb_ix]
theorem ow_3 : fb_ow 3 = 0 := by simp [fb_ow]
theorem ix_3 (j : Nat) : fb_ix 3 j = 0 := by simp [fb_ix]
theorem ow_4 : fb_ow 4 = 0 := by simp [fb_ow]
theorem ix_4 (j : Nat) : fb_ix 4 j = 0 := by simp [fb_ix]
theorem ow_5 : fb_ow 5 = 0 := by simp [fb_ow]
theorem ix_5 (j : Nat) : fb_ix 5 j = 0 := by simp [fb_ix]
theorem ow_6 : fb_ow 6 = 0 := by simp [fb_ow]
theorem ix_6 (j : Nat) : fb_ix 6 j = 0 := by simp [fb_ix]
theorem ow_7 : fb_ow 7 = 1 := by simp [fb_ow]
theorem ix_7 (j : Nat) : fb_ix 7 j = 0 := by simp [fb_ix]
theorem ow_8 : fb_ow 8 = 3 := by simp [fb_ow]
theorem ix_8 (j : Nat) : fb_ix 8 j = 0 := by simp [fb_ix]
theorem ow_9 : fb_ow 9 = 4 := by simp [fb_ow]
theorem ix_9 (j : Nat) : fb_ix 9 j = 0 := by simp [fb_ix]
theorem ow_10 : fb_ow 10 = 5 := by simp [fb_ow]
theorem ix_10 (j : Nat) : fb_ix 10 j = j := by simp [fb_ix]
theorem ow_11 : fb_ow 11 = 5 := by simp [fb_ow]
theorem ix_11 (j : Nat) : fb_ix 11 j = j := by simp [fb_ix]
theorem ow_12 : fb_ow 12 = 5 := by simp [fb_ow]
theorem ix_12 (j : Nat) : fb_ix 12 j = j := by simp [fb_ix]
theorem ow_13 : fb_ow 13 = 5 := by simp [fb_ow]
theorem ix_13 (j : Nat) : fb_ix 13 j = j := by simp [fb_ix]
theorem ow_14 : fb_ow 14 = 5 := by simp [fb_ow]
theorem ix_14 (j : Nat) : fb_ix 14 j = j := by simp [fb_ix]
theorem ow_15 : fb_ow 15 = 5 := by simp [fb_ow]
theorem ix_15 (j : Nat) : fb_ix 15 j = j := by simp [fb_ix]
theorem ow_16 : fb_ow 16 = 5 := by simp [fb_ow]
theorem ix_16 (j : Nat) : fb_ix 16 j = j := by simp [fb_ix]
theorem ow_17 : fb_ow 17 = 9 := by simp [fb_ow]
theorem ix_17 (j : Nat) : fb_ix 17 j = j / 2 := by simp [fb_ix]
theorem ow_18 : fb_ow 18 = 10 := by simp [fb_ow]
theorem ix_18 (j : Nat) : fb_ix 18 j = j / 2 := by simp [fb_ix]
theorem ow_19 : fb_ow 19 = 11 := by simp [fb_ow]
theorem ix_19 (j : Nat) : fb_ix 19 j = j := by simp [fb_ix]
theorem ow_20 : fb_ow 20 = 11 := by simp [fb_ow]
theorem ix_20 (j : Nat) : fb_ix 20 j = j := by simp [fb_ix]
theorem ow_21 : fb_ow 21 = 11 := by simp [fb_ow]
theorem ix_21 (j : Nat) : fb_ix 21 j = j := by simp [fb_ix]
theorem ow_22 : fb_ow 22 = 6 := by simp [fb_ow]
theorem ix_22 (j : Nat) : fb_ix 22 j = j := by simp [fb_ix]
theorem ow_23 : fb_ow 23 = 6 := by simp [fb_ow]
theorem ix_23 (j : Nat) : fb_ix 23 j = j := by simp [fb_ix]
theorem ow_24 : fb_ow 24 = 6 := by simp [fb_ow]
theorem ix_24 (j : Nat) : fb_ix 24 j = j := by simp [fb_ix]
theorem ow_25 : fb_ow 25 = 6 := by simp [fb_ow]
theorem ix_25 (j : Nat) : fb_ix 25 j = j := by simp [fb_ix]
theorem ow_26 : fb_ow 26 = 6 := by simp [fb_ow]
theorem ix_26 (j : Nat) : fb_ix 26 j = j := by simp [fb_ix]
theorem ow_27 : fb_ow 27 = 6 := by simp [fb_ow]
theorem ix_27 (j : Nat) : fb_ix 27 j = j := by simp [fb_ix]
theorem ow_28 : fb_ow 28 = 6 := by simp [fb_ow]
theorem ix_28 (j : Nat) : fb_ix 28 j = j := by simp [fb_ix]
theorem ow_29 : fb_ow 29 = 6 := by simp [fb_ow]
theorem ix_29 (j : Nat) : fb_ix 29 j = j := by simp [fb_ix]
theorem ow_30 : fb_ow 30 = 6 := by simp [fb_ow]
theorem ix_30 (j : Nat) : fb_ix 30 j = j := by simp [fb_ix]
theorem ow_31 : fb_ow 31 = 6 := by simp [fb_ow]
theorem ix_31 (j : Nat) : fb_ix 31 j = j := by simp [fb_ix]
theorem ow_32 : fb_ow 32 = 6 := by simp [fb_ow]
theorem ix_32 (j : Nat) : fb_ix 32 j = j := by simp [fb_ix]
theorem ow_33 : fb_ow 33 = 12 := by simp [fb_ow]
theorem ix_33 (j : Nat) : fb_ix 33 j = j / 4 := by simp [fb_ix]
theorem ow_34 : fb_ow 34 = 12 := by simp [fb_ow]
theorem ix_34 (j : Nat) : fb_ix 34 j = j := by simp [fb_ix]
theorem ow_35 : fb_ow 35 = 7 := by simp [fb_ow]
theorem ix_35 (j : Nat) : fb_ix 35 j = j := by simp [fb_ix]
theorem ow_36 : fb_ow 36 = 7 := by simp [fb_ow]
theorem ix_36 (j : Nat) : fb_ix 36 j = j := by simp [fb_ix]
theorem ow_37 : fb_ow 37 = 7 := by simp [fb_ow]
theorem ix_37 (j : Nat) : fb_ix 37 j = j := by simp [fb_ix]
theorem ow_38 : fb_ow 38 = 7 := by simp [fb_ow]
theorem ix_38 (j : Nat) : fb_ix 38 j = j := by simp [fb_ix]
theorem ow_39 : fb_ow 39 = 7 := by simp [fb_ow]
theorem ix_39 (j : Nat) : fb_ix 39 j = j := by simp [fb_ix]
theorem ow_40 : fb_ow 40 = 7 := by simp [fb_ow]
theorem ix_40 (j : Nat) : fb_ix 40 j = j := by simp [fb_ix]
theorem ow_41 : fb_ow 41 = 7 := by simp [fb_ow]
theorem ix_41 (j : Nat) : fb_ix 41 j = j := by simp [fb_ix]
theorem ow_42 : fb_ow 42 = 7 := by simp [fb_ow]
theorem ix_42 (j : Nat) : fb_ix 42 j = j := by simp [fb_ix]
theorem ow_43 : fb_ow 43 = 7 := by simp [fb_ow]
theorem ix_43 (j : Nat) : fb_ix 43 j = j := by simp [fb_ix]
theorem ow_44 : fb_ow 44 = 7 := by simp [fb_ow]
theorem ix_44 (j : Nat) : fb_ix 44 j = j := by simp [fb_ix]
theorem fbc_0 {cA : Nat → ClassId} {ad : Nat → Nat → Nat} {st st' : fb_S} {i : Nat} (hk : 0 ≤ 4 → i = 0) (h : ∀ F j, fb_ow F = 0 → fb_ix F j = i → st' F j = st F j) : fb_cC cA ad st' 0 i = fb_cC cA ad st 0 i := by
  obtain rfl := hk (by omega)
  simp only [fb_cC]
  rw [h 0 0 ow_0 (ix_0 _), h 1 0 ow_1 (ix_1 _), h 2 0 ow_2 (ix_2 _), h 3 0 ow_3 (ix_3 _), h 4 0 ow_4 (ix_4 _), h 5 0 ow_5 (ix_5 _), h 6 0 ow_6 (ix_6 _)]
theorem fbc_1 {cA : Nat → ClassId} {ad : Nat → Nat → Nat} {st st' : fb_S} {i : Nat} (hk : 1 ≤ 4 → i = 0) (h : ∀ F j, fb_ow F = 1 → fb_ix F j = i → st' F j = st F j) : fb_cC cA ad st' 1 i = fb_cC cA ad st 1 i := by
  obtain rfl := hk (by omega)
  simp only [fb_cC]
  rw [show st' 7 = st 7 from funext (fun j => h 7 j ow_7 (ix_7 _))]
theorem fbc_2 {cA : Nat → ClassId} {ad : Nat → Nat → Nat} {st st' : fb_S} {i : Nat} (hk : 2 ≤ 4 → i = 0) (h : ∀ F j, fb_ow F = 2 → fb_ix F j = i → st' F j = st F j) : fb_cC cA ad st' 2 i = fb_cC cA ad st 2 i := by
  simp only [fb_cC]
theorem fbc_3 {cA : Nat → ClassId} {ad : Nat → Nat → Nat} {st st' : fb_S} {i : Nat} (hk : 3 ≤ 4 → i = 0) (h : ∀ F j, fb_ow F = 3 → fb_ix F j = i → st' F j = st F j) : fb_cC cA ad st' 3 i = fb_cC cA ad st 3 i := by
  obtain rfl := hk (by omega)
  simp only [fb_cC]
  rw [show st' 8 = st 8 from funext (fun j => h 8 j ow_8 (ix_8 _))]
theorem fbc_4 {cA : Nat → ClassId} {ad : Nat → Nat → Nat} {st st' : fb_S} {i : Nat} (hk : 4 ≤ 4 → i = 0) (h : ∀ F j, fb_ow F = 4 → fb_ix F j = i → st' F j = st F j) : fb_cC cA ad st' 4 i = fb_cC cA ad st 4 i := by
  obtain rfl := hk (by omega)
  simp only [fb_cC]
  rw [show st' 9 = st 9 from funext (fun j => h 9 j ow_9 (ix_9 _))]
theorem fbc_5 {cA : Nat → ClassId} {ad : Nat → Nat → Nat} {st st' : fb_S} {i : Nat} (hk : 5 ≤ 4 → i = 0) (h : ∀ F j, fb_ow F = 5 → fb_ix F j = i → st' F j = st F j) : fb_cC cA ad st' 5 i = fb_cC cA ad st 5 i := by
  simp only [fb_cC]
  rw [h 10 i ow_10 (ix_10 _), h 11 i ow_11 (ix_11 _), h 12 i ow_12 (ix_12 _), h 13 i ow_13 (ix_13 _), h 14 i ow_14 (ix_14 _), h 15 i ow_15 (ix_15 _), h 16 i ow_16 (ix_16 _)]
theorem fbc_6 {cA : Nat → ClassId} {ad : Nat → Nat → Nat} {st st' : fb_S} {i : Nat} (hk : 6 ≤ 4 → i = 0) (h : ∀ F j, fb_ow F = 6 → fb_ix F j = i → st' F j = st F j) : fb_cC cA ad st' 6 i = fb_cC cA ad st 6 i := by
  simp only [fb_cC]
  rw [h 22 i ow_22 (ix_22 _), h 23 i ow_23 (ix_23 _), h 24 i ow_24 (ix_24 _), h 25 i ow_25 (ix_25 _), h 26 i ow_26 (ix_26 _), h 27 i ow_27 (ix_27 _), h 28 i ow_28 (ix_28 _), h 29 i ow_29 (ix_29 _), h 30 i ow_30 (ix_30 _), h 31 i ow_31 (ix_31 _), h 32 i ow_32 (ix_32 _)]
theorem fbc_7 {cA : Nat → ClassId} {ad : Nat → Nat → Nat} {st st' : fb_S} {i : Nat} (hk : 7 ≤ 4 → i = 0) (h : ∀ F j, fb_ow F = 7 → fb_ix F j = i → st' F j = st F j) : fb_cC cA ad st' 7 i = fb_cC cA ad st 7 i := by
  simp only [fb_cC]
  rw [h 35 i ow_35 (ix_35 _), h 36 i ow_36 (ix_36 _), h 37 i ow_37 (ix_37 _), h 38 i ow_38 (ix_38 _), h 39 i ow_39 (ix_39 _), h 40 i ow_40 (ix_40 _), h 41 i ow_41 (ix_41 _), h 42 i ow_42 (ix_42 _), h 43 i ow_43 (ix_43 _), h 44 i ow_44 (ix_44 _)]
theorem fbc_8 {cA : Nat → ClassId} {ad : Nat → Nat → Nat} {st st' : fb_S} {i : Nat} (hk : 8 ≤ 4 → i = 0) (h : ∀ F j, fb_ow F = 8 → fb_ix F j = i → st' F j = st F j) : fb_cC cA ad st' 8 i = fb_cC cA ad st 8 i := by
  simp only [fb_cC]
theorem fbc_9 {cA : Nat → ClassId} {ad : Nat → Nat → Nat} {st st' : fb_S} {i : Nat} (hk : 9 ≤ 4 → i = 0) (h : ∀ F j, fb_ow F = 9 → fb_ix F j = i → st' F j = st F j) : fb_cC cA ad st' 9 i = fb_cC cA ad st 9 i := by
  simp only [fb_cC]
  rw [show (fun j => if j < 2 then st' 17 (2 * i + j) else 0) = (fun j => if j < 2 then st 17 (2 * i + j) else 0) from funext (fun j => by
    by_cases hj : j < 2
    · rw [if_pos hj, if_pos hj, h 17 (2 * i + j) ow_17 ((ix_17 _).trans (by omega))]
    · rw [if_neg hj, if_neg hj])]
theorem fbc_10 {cA : Nat → ClassId} {ad : Nat → Nat → Nat} {st st' : fb_S} {i : Nat} (hk : 10 ≤ 4 → i = 0) (h : ∀ F j, fb_ow F = 10 → fb_ix F j = i → st' F j = st F j) : fb_cC cA ad st' 10 i = fb_cC cA ad st 10 i := by
  simp only [fb_cC]
  rw [show (fun j => if j < 2 then st' 18 (2 * i + j) else 0) = (fun j => if j < 2 then st 18 (2 * i + j) else 0) from funext (fun j => by
    by_cases hj : j < 2
    · rw [if_pos hj, if_pos hj, h 18 (2 * i + j) ow_18 ((ix_18 _).trans (by omega))]
    · rw [if_neg hj, if_neg hj])]
theorem fbc_11 {cA : Nat → ClassId} {ad : Nat → Nat → Nat} {st st' : fb_S} {i : Nat} (hk : 11 ≤ 4 → i = 0) (h : ∀ F j, fb_ow F = 11 → fb_ix F j = i → st' F j = st F j) : fb_cC cA ad st' 11 i = fb_cC cA ad st 11 i := by
  simp only [fb_cC]
  rw [h 19 i ow_19 (ix_19 _), h 20 i ow_20 (ix_20 _), h 21 i ow_21 (ix_21 _)]
theorem fbc_12 {cA : Nat → ClassId} {ad : Nat → Nat → Nat} {st st' : fb_S} {i : Nat} (hk : 12 ≤ 4 → i = 0) (h : ∀ F j, fb_ow F = 12 → fb_ix F j = i → st' F j = st F j) : fb_cC cA ad st' 12 i = fb_cC cA ad st 12 i := by
  simp only [fb_cC]
  rw [h 34 i ow_34 (ix_34 _), show (fun j => fb_ro (ad 5) (if j < 4 then st' 33 (4 * i + j) else -1)) = (fun j => fb_ro (ad 5) (if j < 4 then st 33 (4 * i + j) else -1)) from funext (fun j => by
    by_cases hj : j < 4
    · rw [if_pos hj, if_pos hj, h 33 (4 * i + j) ow_33 ((ix_33 _).trans (by omega))]
    · rw [if_neg hj, if_neg hj])]
theorem fb_cC_congr {cA : Nat → ClassId} {ad : Nat → Nat → Nat} {st st' : fb_S} : ∀ {k i : Nat}, (k ≤ 4 → i = 0) → (∀ F j, fb_ow F = k → fb_ix F j = i → st' F j = st F j) → k ≤ 12 → fb_cC cA ad st' k i = fb_cC cA ad st k i
  | 0, _, hk, h, _ => fbc_0 hk h
  | 1, _, hk, h, _ => fbc_1 hk h
  | 2, _, hk, h, _ => fbc_2 hk h
  | 3, _, hk, h, _ => fbc_3 hk h
  | 4, _, hk, h, _ => fbc_4 hk h
  | 5, _, hk, h, _ => fbc_5 hk h
  | 6, _, hk, h, _ => fbc_6 hk h
  | 7, _, hk, h, _ => fbc_7 hk h
  | 8, _, hk, h, _ => fbc_8 hk h
  | 9, _, hk, h, _ => fbc_9 hk h
  | 10, _, hk, h, _ => fbc_10 hk h
  | 11, _, hk, h, _ => fbc_11 hk h
  | 12, _, hk, h, _ => fbc_12 hk h
  | n + 13, _, _, _, h => absurd h (by omega)
/-- labels of the class that live: fl flows, fr frames -/
def fb_lvC (LL : fb_L) (fl fr : Nat) : Prop :=
  (∀ k i, (k, i) ∈ LL → k ≤ 12 ∧ (k ≤ 4 → i = 0) ∧ (k = 7 → i < fr) ∧ (k = 6 → i < fl) ∧ (k = 12 → i < fl)) ∧ (∀ k, k ≤ 4 → (k, 0) ∈ LL) ∧ (∀ i, i < 32 → (5, i) ∈ LL ∧ (8, i) ∈ LL ∧ (9, i) ∈ LL ∧ (10, i) ∈ LL) ∧ (∀ j, j < 96 → (11, j) ∈ LL) ∧ (∀ f, f < fl → (6, f) ∈ LL ∧ (12, f) ∈ LL) ∧ (∀ k, k < fr → (7, k) ∈ LL) ∧ fl ≤ 12 ∧ fr ≤ 100
theorem fb_hoC {cA : Nat → ClassId} {ad : Nat → Nat → Nat} {LL : fb_L} {fl fr : Nat} (hL : fb_lvC LL fl fr) (st : fb_S) (F j : Nat) (v : Int32) {k i : Nat} (hk : fb_ow F = k) (hi : fb_ix F j = i) : ∀ k' i' : Nat, (k', i') ∈ LL → ¬ (k' = k ∧ i' = i) → fb_cC cA ad (fb_up st F j v) k' i' = fb_cC cA ad st k' i' := by
  intro k' i' hm hne
  obtain ⟨h1, h2, -⟩ := hL.1 k' i' hm
  refine fb_cC_congr h2 (fun G q hG hq => ?_) h1
  unfold fb_up
  rw [if_neg]
  rintro ⟨rfl, rfl⟩
  exact hne ⟨hG.symm.trans hk, hq.symm.trans hi⟩
theorem fb_x2 (F i : Nat) {j : Nat} (hF : F = 17 ∨ F = 18) (hj : j < 2) : fb_ix F (2 * i + j) = i := by
  rcases hF with rfl | rfl
  · rw [ix_17]
    omega
  · rw [ix_18]
    omega
def fb_tF (i : Nat) : Int32 := ([8, 8, 9, 9, 10, 10, 11, 11, 0, 1, 12, 13, 2, 3, 12, 13, 4, 5, 12, 13, 6, 7, 12, 13, 8, 9, 10, 11, 8, 9, 10, 11] : List Int32).getD i 0
def fb_tT (i : Nat) : Int32 := ([0, 1, 2, 3, 4, 5, 6, 7, 8, 8, 8, 8, 9, 9, 9, 9, 10, 10, 10, 10, 11, 11, 11, 11, 12, 12, 12, 12, 13, 13, 13, 13] : List Int32).getD i 0
def fb_rC (fl fr F i : Nat) (v : Int32) : Prop := match F with
  | 0 => 1 ≤ v ∧ v ≤ 8
  | 1 => 4 ≤ v ∧ v ≤ 40
  | 2 => 0 ≤ v ∧ v ≤ 40
  | 3 => 1 ≤ v ∧ v ≤ 40
  | 4 => i = 0 → v = nI fl
  | 5 => i = 0 → v = nI fr
  | 7 => i < 2 → 1 ≤ v ∧ v ≤ 8
  | 8 => v = if i < fl then nI i else -1
  | 9 => v = if i < fr then nI i else -1
  | 10 => i < 32 → v = fb_tF i
  | 11 => i < 32 → v = fb_tT i
  | 12 => v = 0 ∨ v = 1
  | 13 => fb_rg fr v
  | 14 => v = 0 ∨ v = 1
  | 16 => v = 0 ∨ v = 1
  | 19 => fb_rg fr v
  | 20 => fb_rg fr v
  | 22 => v = 0 ∨ v = 1
  | 23 => i < fl → 1 ≤ v ∧ v ≤ 64
  | 24 => i < fl → 1 ≤ v ∧ v ≤ 64
  | 25 => i < fl → 0 ≤ v ∧ v ≤ 64
  | 28 => v = 0 ∨ v = 1
  | 33 => fb_rg 32 v
  | 34 => i < fl → v = 2 ∨ v = 4
  | 36 => i < fr → vp_in v fl
  | 37 => i < fr → 1 ≤ v ∧ v ≤ 4
  | 40 => v = 0 ∨ v = 1
  | 42 => fb_rg 32 v
  | 44 => fb_rg fr v
  | _ => True
def fb_okC (fl fr : Nat) (st : fb_S) : Prop := ∀ F i, fb_rC fl fr F i (st F i)
theorem fb_okC_up {fl fr : Nat} {st : fb_S} {F i : Nat} {v : Int32} (h : fb_okC fl fr st) (hv : fb_rC fl fr F i v) : fb_okC fl fr (fb_up st F i v) := by
  intro G j
  unfold fb_up
  by_cases hG : G = F ∧ j = i
  · rw [if_pos hG]
    obtain ⟨rfl, rfl⟩ := hG
    exact hv
  · rw [if_neg hG]
    exact h G j
/-! the reference's -/
def fb_cM (cA : Nat → ClassId) : fb_C := fun ad st k _ => match k with
  | 0 => .inr (5, [.int (st 0 0), .int (st 1 0), .int (st 2 0), .int (st 3 0), .int (st 4 0), .int (st 5 0), .int (st 6 0), .ref (ad 7 0), .ref (ad 8 0), .ref (ad 9 0), .ref (ad 10 0), .ref (ad 11 0), .ref (ad 12 0), .ref (ad 13 0), .ref (ad 14 0), .int (st 15 0), .ref (ad 16 0), .ref (ad 17 0), .ref (ad 18 0), .ref (ad 19 0), .ref (ad 20 0), .ref (ad 21 0), .ref (ad 22 0), .ref (ad 23 0), .ref (ad 24 0), .ref (ad 25 0), .ref (ad 26 0), .ref (ad 27 0)])
  | 7 => .inl (cA 0, 12, .inl (st 7))
  | 8 => .inl (cA 0, 12, .inl (st 8))
  | 9 => .inl (cA 0, 12, .inl (st 9))
  | 10 => .inl (cA 0, 12, .inl (st 10))
  | 11 => .inl (cA 0, 12, .inl (st 11))
  | 12 => .inl (cA 0, 12, .inl (st 12))
  | 13 => .inl (cA 0, 12, .inl (st 13))
  | 14 => .inl (cA 0, 12, .inl (st 14))
  | 16 => .inl (cA 0, 100, .inl (st 16))
  | 17 => .inl (cA 0, 100, .inl (st 17))
  | 18 => .inl (cA 0, 100, .inl (st 18))
  | 19 => .inl (cA 0, 100, .inl (st 19))
  | 20 => .inl (cA 0, 100, .inl (st 20))
  | 21 => .inl (cA 0, 100, .inl (st 21))
  | 22 => .inl (cA 5, 100, .inl (st 22))
  | 23 => .inl (cA 0, 196, .inl (st 23))
  | 24 => .inl (cA 0, 392, .inl (st 24))
  | 25 => .inl (cA 0, 2, .inl (st 25))
  | 26 => .inl (cA 5, 196, .inl (st 26))
  | 27 => .inl (cA 5, 1764, .inl (st 27))
  | _ => .inr (0, [])
def fb_owM (F : Nat) : Nat := if F < 7 then 0 else if F = 15 then 0 else F
theorem owM_0 : fb_owM 0 = 0 := by simp [fb_owM]
theorem owM_1 : fb_owM 1 = 0 := by simp [fb_owM]
theorem owM_2 : fb_owM 2 = 0 := by simp [fb_owM]
theorem owM_3 : fb_owM 3 = 0 := by simp [fb_owM]
theorem owM_4 : fb_owM 4 = 0 := by simp [fb_owM]
theorem owM_5 : fb_owM 5 = 0 := by simp [fb_owM]
theorem owM_6 : fb_owM 6 = 0 := by simp [fb_owM]
theorem owM_7 : fb_owM 7 = 7 := by simp [fb_owM]
theorem owM_8 : fb_owM 8 = 8 := by simp [fb_owM]
theorem owM_9 : fb_owM 9 = 9 := by simp [fb_owM]
theorem owM_10 : fb_owM 10 = 10 := by simp [fb_owM]
theorem owM_11 : fb_owM 11 = 11 := by simp [fb_owM]
theorem owM_12 : fb_owM 12 = 12 := by simp [fb_owM]
theorem owM_13 : fb_owM 13 = 13 := by simp [fb_owM]
theorem owM_14 : fb_owM 14 = 14 := by simp [fb_owM]
theorem owM_15 : fb_owM 15 = 0 := by simp [fb_owM]
theorem owM_16 : fb_owM 16 = 16 := by simp [fb_owM]
theorem owM_17 : fb_owM 17 = 17 := by simp [fb_owM]
theorem owM_18 : fb_owM 18 = 18 := by simp [fb_owM]
theorem owM_19 : fb_owM 19 = 19 := by simp [fb_owM]
theorem owM_20 : fb_owM 20 = 20 := by simp [fb_owM]
theorem owM_21 : fb_owM 21 = 21 := by simp [fb_owM]
theorem owM_22 : fb_owM 22 = 22 := by simp [fb_owM]
theorem owM_23 : fb_owM 23 = 23 := by simp [fb_owM]
theorem owM_24 : fb_owM 24 = 24 := by simp [fb_owM]
theorem owM_25 : fb_owM 25 = 25 := by simp [fb_owM]
theorem owM_26 : fb_owM 26 = 26 := by simp [fb_owM]
theorem owM_27 : fb_owM 27 = 27 := by simp [fb_owM]
def fb_LM : fb_L := [(0, 0), (7, 0), (8, 0), (9, 0), (10, 0), (11, 0), (12, 0), (13, 0), (14, 0), (16, 0), (17, 0), (18, 0), (19, 0), (20, 0), (21, 0), (22, 0), (23, 0), (24, 0), (25, 0), (26, 0), (27, 0)]
theorem fb_memM {k : Nat} (h : fb_LM.contains (k, 0) = true) : (k, 0) ∈ fb_LM := List.contains_iff_mem.mp h
theorem fb_cM_congr {cA : Nat → ClassId} {ad : Nat → Nat → Nat} {st st' : fb_S} {k i : Nat} (h0 : k = 0 → ∀ F, fb_owM F = 0 → st' F 0 = st F 0) (h : k ≠ 0 → st' k = st k) : fb_cM cA ad st' k i = fb_cM cA ad st k i := by
  by_cases hk : k = 0
  · subst hk
    have h0 := h0 rfl
    simp only [fb_cM]
    rw [h0 0 owM_0, h0 1 owM_1, h0 2 owM_2, h0 3 owM_3, h0 4 owM_4, h0 5 owM_5, h0 6 owM_6, h0 15 owM_15]
  · have h := h hk
    unfold fb_cM
    split <;> first | (exact absurd rfl hk) | rfl | (rw [h])
theorem fb_hoM {cA : Nat → ClassId} {ad : Nat → Nat → Nat} (st : fb_S) (F j : Nat) (v : Int32) {k : Nat} (hk : fb_owM F = k) : ∀ k' i' : Nat, (k', i') ∈ fb_LM → ¬ (k' = k ∧ i' = 0) → fb_cM cA ad (fb_up st F j v) k' i' = fb_cM cA ad st k' i' := by
  intro k' i' hm hne
  have hi : i' = 0 := by
    simp only [fb_LM, List.mem_cons, Prod.mk.injEq, List.not_mem_nil, or_false] at hm
    omega
  refine fb_cM_congr (fun hz G hG => ?_) (fun hz => ?_)
  · refine fb_up_F st j 0 v ?_
    rintro rfl
    exact hne ⟨by rw [hz, ← hk, hG], hi⟩
  · funext q
    refine fb_up_F st j q v ?_
    rintro rfl
    have : fb_owM k' = k' := by
      simp only [fb_LM, List.mem_cons, Prod.mk.injEq, List.not_mem_nil, or_false] at hm
      unfold fb_owM
      rw [if_neg (by omega), if_neg (by omega)]
    exact hne ⟨by rw [← hk, this], hi⟩
def fb_rM (fl fr T F i : Nat) (v : Int32) : Prop := match F with
  | 0 => 1 ≤ v ∧ v ≤ 8
  | 1 => 4 ≤ v ∧ v ≤ 40
  | 2 => 0 ≤ v ∧ v ≤ 40
  | 3 => 1 ≤ v ∧ v ≤ 40
  | 4 => i = 0 → v = nI T
  | 6 => i = 0 → v = nI fl
  | 15 => i = 0 → v = nI fr
  | 7 => 0 ≤ v ∧ v ≤ 7
  | 8 => 0 ≤ v ∧ v ≤ 7
  | 9 => v = 0 ∨ v = 1
  | 10 => i < fl → 1 ≤ v ∧ v ≤ 64
  | 11 => i < fl → 1 ≤ v ∧ v ≤ 64
  | 12 => i < fl → 0 ≤ v ∧ v ≤ 64
  | 16 => vp_in v 12 ∧ (i < fr → vp_in v fl)
  | 17 => i < fr → 1 ≤ v ∧ v ≤ 4
  | 22 => v = 0 ∨ v = 1
  | 23 => v = 0 ∨ v = 1
  | 25 => i < 2 → 1 ≤ v ∧ v ≤ 8
  | 26 => v = 0 ∨ v = 1
  | 27 => v = 0 ∨ v = 1
  | _ => True
def fb_okM (fl fr T : Nat) (st : fb_S) : Prop := ∀ F i, fb_rM fl fr T F i (st F i)
theorem fb_okM_up {fl fr T : Nat} {st : fb_S} {F i : Nat} {v : Int32} (h : fb_okM fl fr T st) (hv : fb_rM fl fr T F i v) : fb_okM fl fr T (fb_up st F i v) := by
  intro G j
  unfold fb_up
  by_cases hG : G = F ∧ j = i
  · rw [if_pos hG]
    obtain ⟨rfl, rfl⟩ := hG
    exact hv
  · rw [if_neg hG]
    exact h G j
