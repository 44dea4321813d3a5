/-! the cells of both sides out of the stores; ranges; what lives. Class numbers: 0 PausedFabric 1 Port 2 Flow 3 Frame 4 FrameQueue 5 the reference; array classes: cA 0 int 1 Port 2 Flow 3 Frame 4 FrameQueue 5 boolean -/
def fb_tys (cA : Nat → ClassId) : List (ClassId × FieldType) := [(cA 0, .int), (cA 1, .object "PausedFabric$Port"), (cA 2, .object "PausedFabric$Flow"), (cA 3, .object "PausedFabric$Frame"), (cA 4, .object "PausedFabric$FrameQueue"), (cA 5, .boolean)]
def fb_cC (cA : Nat → ClassId) : fb_C := fun ad st k i => match k with
  | 0 => .inr (0, [.int (st 0 0), .int (st 1 0), .int (st 2 0), .int (st 3 0), .ref (ad 1 0), .ref (ad 2 0), .ref (ad 3 0), .ref (ad 4 0), .int (st 4 0), .int (st 5 0), .int (st 6 0)])
  | 1 => .inl (cA 0, 2, .inl (st 7))
  | 2 => .inl (cA 1, 32, .inr (.inr (.inr (.inr (fun j => if j < 32 then some (ad 5 j) else none)))))
  | 3 => .inl (cA 2, 12, .inr (.inr (.inr (.inr (fun j => fb_ro (ad 6) (st 8 j))))))
  | 4 => .inl (cA 3, 100, .inr (.inr (.inr (.inr (fun j => fb_ro (ad 7) (st 9 j))))))
  | 5 => .inr (1, [.int (st 10 i), .int (st 11 i), .ref (ad 8 i), .ref (ad 9 i), .int (st 12 i), va_rf (fb_ro (ad 7) (st 13 i)), .ref (ad 11 (3 * i + 2)), .ref (ad 10 i), .int (st 14 i), .int (st 15 i), .int (st 16 i)])
  | 6 => .inr (2, [.int (st 22 i), .ref (ad 12 i), .int (st 23 i), .int (st 24 i), .int (st 25 i), .int (st 26 i), .int (st 27 i), .int (st 28 i), .int (st 29 i), .int (st 30 i), .int (st 31 i), .int (st 32 i)])
  | 7 => .inr (3, [.int (st 35 i), .ref (ad 6 (fb_n (st 36 i))), .int (st 37 i), .int (st 38 i), .int (st 39 i), .int (st 40 i), .int (st 41 i), va_rf (fb_ro (ad 5) (st 42 i)), .int (st 43 i), va_rf (fb_ro (ad 7) (st 44 i))])
  | 8 => .inl (cA 4, 2, .inr (.inr (.inr (.inr (fun j => if j < 2 then some (ad 11 (3 * i + j)) else none)))))
  | 9 => .inl (cA 0, 2, .inl (fun j => if j < 2 then st 17 (2 * i + j) else 0))
  | 10 => .inl (cA 0, 2, .inl (fun j => if j < 2 then st 18 (2 * i + j) else 0))
  | 11 => .inr (4, [va_rf (fb_ro (ad 7) (st 19 i)), va_rf (fb_ro (ad 7) (st 20 i)), .int (st 21 i)])
  | _ => .inl (cA 1, fb_n (st 34 i), .inr (.inr (.inr (.inr (fun j => fb_ro (ad 5) (if j < 4 then st 33 (4 * i + j) else -1))))))
/-- which label a field belongs to -/
def fb_ow (F : Nat) : Nat := if F < 7 then 0 else if F = 7 then 1 else if F = 8 then 3 else if F = 9 then 4 else if F < 17 then 5 else if F = 17 then 9 else if F = 18 then 10 else if F < 22 then 11 else if F < 33 then 6 else if F < 35 then 12 else 7
def fb_ix (F j : Nat) : Nat := if F < 10 then 0 else if F = 17 then j / 2 else if F = 18 then j / 2 else if F = 33 then j / 4 else j
theorem fb_cC_congr {cA : Nat → ClassId} {ad : Nat → Nat → Nat} {st st' : fb_S} {k i : Nat} (hk : k ≤ 4 → i = 0) (h : ∀ F j, fb_ow F = k → fb_ix F j = i → st' F j = st F j) (hk2 : k ≤ 12) : fb_cC cA ad st' k i = fb_cC cA ad st k i := by
  rcases (show k = 0 ∨ k = 1 ∨ k = 2 ∨ k = 3 ∨ k = 4 ∨ k = 5 ∨ k = 6 ∨ k = 7 ∨ k = 8 ∨ k = 9 ∨ k = 10 ∨ k = 11 ∨ k = 12 by omega) with rfl | rfl | rfl | rfl | rfl | rfl | rfl | rfl | rfl | rfl | rfl | rfl | rfl
  · obtain rfl := hk (by omega)
    simp only [fb_cC]
    rw [h 0 0 rfl rfl, h 1 0 rfl rfl, h 2 0 rfl rfl, h 3 0 rfl rfl, h 4 0 rfl rfl, h 5 0 rfl rfl, h 6 0 rfl rfl]
  · obtain rfl := hk (by omega)
    simp only [fb_cC]
    rw [show st' 7 = st 7 from funext (fun j => h 7 j rfl rfl)]
  · rfl
  · obtain rfl := hk (by omega)
    simp only [fb_cC]
    rw [show st' 8 = st 8 from funext (fun j => h 8 j rfl rfl)]
  · obtain rfl := hk (by omega)
    simp only [fb_cC]
    rw [show st' 9 = st 9 from funext (fun j => h 9 j rfl rfl)]
  · simp only [fb_cC]
    rw [h 10 i rfl rfl, h 11 i rfl rfl, h 12 i rfl rfl, h 13 i rfl rfl, h 14 i rfl rfl, h 15 i rfl rfl, h 16 i rfl rfl]
  · simp only [fb_cC]
    rw [h 22 i rfl rfl, h 23 i rfl rfl, h 24 i rfl rfl, h 25 i rfl rfl, h 26 i rfl rfl, h 27 i rfl rfl, h 28 i rfl rfl, h 29 i rfl rfl, h 30 i rfl rfl, h 31 i rfl rfl, h 32 i rfl rfl]
  · simp only [fb_cC]
    rw [h 35 i rfl rfl, h 36 i rfl rfl, h 37 i rfl rfl, h 38 i rfl rfl, h 39 i rfl rfl, h 40 i rfl rfl, h 41 i rfl rfl, h 42 i rfl rfl, h 43 i rfl rfl, h 44 i rfl rfl]
  · rfl
  · simp only [fb_cC]
    rw [show (fun j => if j < 2 then st' 17 (2 * i + j) else 0) = (fun j => if j < 2 then st 17 (2 * i + j) else 0) from funext (fun j => by
      by_cases hj : j < 2
      · rw [if_pos hj, if_pos hj, h 17 (2 * i + j) rfl (show (2 * i + j) / 2 = i by omega)]
      · rw [if_neg hj, if_neg hj])]
  · simp only [fb_cC]
    rw [show (fun j => if j < 2 then st' 18 (2 * i + j) else 0) = (fun j => if j < 2 then st 18 (2 * i + j) else 0) from funext (fun j => by
      by_cases hj : j < 2
      · rw [if_pos hj, if_pos hj, h 18 (2 * i + j) rfl (show (2 * i + j) / 2 = i by omega)]
      · rw [if_neg hj, if_neg hj])]
  · simp only [fb_cC]
    rw [h 19 i rfl rfl, h 20 i rfl rfl, h 21 i rfl rfl]
  · simp only [fb_cC]
    rw [h 34 i rfl rfl, show (fun j => fb_ro (ad 5) (if j < 4 then st' 33 (4 * i + j) else -1)) = (fun j => fb_ro (ad 5) (if j < 4 then st 33 (4 * i + j) else -1)) from funext (fun j => by
      by_cases hj : j < 4
      · rw [if_pos hj, if_pos hj, h 33 (4 * i + j) rfl (show (4 * i + j) / 4 = i by omega)]
      · rw [if_neg hj, if_neg hj])]
/-- labels of the class that live: fl flows, fr frames -/
def fb_lvC (LL : fb_L) (fl fr : Nat) : Prop :=
  (∀ k i, (k, i) ∈ LL → k ≤ 12 ∧ (k ≤ 4 → i = 0) ∧ (k = 7 → i < fr) ∧ (k = 6 → i < fl) ∧ (k = 12 → i < fl)) ∧ (∀ k, k ≤ 4 → (k, 0) ∈ LL) ∧ (∀ i, i < 32 → (5, i) ∈ LL ∧ (8, i) ∈ LL ∧ (9, i) ∈ LL ∧ (10, i) ∈ LL) ∧ (∀ j, j < 96 → (11, j) ∈ LL) ∧ (∀ f, f < fl → (6, f) ∈ LL ∧ (12, f) ∈ LL) ∧ (∀ k, k < fr → (7, k) ∈ LL) ∧ fl ≤ 12 ∧ fr ≤ 100
theorem fb_hoC {cA : Nat → ClassId} {ad : Nat → Nat → Nat} {LL : fb_L} {fl fr : Nat} (hL : fb_lvC LL fl fr) (st : fb_S) (F j : Nat) (v : Int32) {k i : Nat} (hk : fb_ow F = k) (hi : fb_ix F j = i) : ∀ k' i' : Nat, (k', i') ∈ LL → ¬ (k' = k ∧ i' = i) → fb_cC cA ad (fb_up st F j v) k' i' = fb_cC cA ad st k' i' := by
  intro k' i' hm hne
  obtain ⟨h1, h2, -⟩ := hL.1 k' i' hm
  refine fb_cC_congr h2 (fun G q hG hq => ?_) h1
  unfold fb_up
  rw [if_neg]
  rintro ⟨rfl, rfl⟩
  exact hne ⟨hG.symm.trans hk, hq.symm.trans hi⟩
theorem fb_x2 (F i : Nat) {j : Nat} (hF : F = 17 ∨ F = 18) (hj : j < 2) : fb_ix F (2 * i + j) = i := by
  rcases hF with rfl | rfl
  · show (2 * i + j) / 2 = i
    omega
  · show (2 * i + j) / 2 = i
    omega
def fb_tF (i : Nat) : Int32 := ([8, 8, 9, 9, 10, 10, 11, 11, 0, 1, 12, 13, 2, 3, 12, 13, 4, 5, 12, 13, 6, 7, 12, 13, 8, 9, 10, 11, 8, 9, 10, 11] : List Int32).getD i 0
def fb_tT (i : Nat) : Int32 := ([0, 1, 2, 3, 4, 5, 6, 7, 8, 8, 8, 8, 9, 9, 9, 9, 10, 10, 10, 10, 11, 11, 11, 11, 12, 12, 12, 12, 13, 13, 13, 13] : List Int32).getD i 0
def fb_rC (fl fr F i : Nat) (v : Int32) : Prop := match F with
  | 0 => 1 ≤ v ∧ v ≤ 8
  | 1 => 4 ≤ v ∧ v ≤ 40
  | 2 => 0 ≤ v ∧ v ≤ 40
  | 3 => 1 ≤ v ∧ v ≤ 40
  | 4 => i = 0 → v = nI fl
  | 5 => i = 0 → v = nI fr
  | 7 => i < 2 → 1 ≤ v ∧ v ≤ 8
  | 8 => v = if i < fl then nI i else -1
  | 9 => v = if i < fr then nI i else -1
  | 10 => i < 32 → v = fb_tF i
  | 11 => i < 32 → v = fb_tT i
  | 12 => v = 0 ∨ v = 1
  | 13 => fb_rg fr v
  | 14 => v = 0 ∨ v = 1
  | 16 => v = 0 ∨ v = 1
  | 19 => fb_rg fr v
  | 20 => fb_rg fr v
  | 22 => v = 0 ∨ v = 1
  | 23 => i < fl → 1 ≤ v ∧ v ≤ 64
  | 24 => i < fl → 1 ≤ v ∧ v ≤ 64
  | 25 => i < fl → 0 ≤ v ∧ v ≤ 64
  | 28 => v = 0 ∨ v = 1
  | 33 => fb_rg 32 v
  | 34 => i < fl → v = 2 ∨ v = 4
  | 36 => i < fr → vp_in v fl
  | 37 => i < fr → 1 ≤ v ∧ v ≤ 4
  | 40 => v = 0 ∨ v = 1
  | 42 => fb_rg 32 v
  | 44 => fb_rg fr v
  | _ => True
def fb_okC (fl fr : Nat) (st : fb_S) : Prop := ∀ F i, fb_rC fl fr F i (st F i)
theorem fb_okC_up {fl fr : Nat} {st : fb_S} {F i : Nat} {v : Int32} (h : fb_okC fl fr st) (hv : fb_rC fl fr F i v) : fb_okC fl fr (fb_up st F i v) := by
  intro G j
  unfold fb_up
  by_cases hG : G = F ∧ j = i
  · rw [if_pos hG]
    obtain ⟨rfl, rfl⟩ := hG
    exact hv
  · rw [if_neg hG]
    exact h G j
/-! the reference's -/
def fb_cM (cA : Nat → ClassId) : fb_C := fun ad st k _ => match k with
  | 0 => .inr (5, [.int (st 0 0), .int (st 1 0), .int (st 2 0), .int (st 3 0), .int (st 4 0), .int (st 5 0), .int (st 6 0), .ref (ad 7 0), .ref (ad 8 0), .ref (ad 9 0), .ref (ad 10 0), .ref (ad 11 0), .ref (ad 12 0), .ref (ad 13 0), .ref (ad 14 0), .int (st 15 0), .ref (ad 16 0), .ref (ad 17 0), .ref (ad 18 0), .ref (ad 19 0), .ref (ad 20 0), .ref (ad 21 0), .ref (ad 22 0), .ref (ad 23 0), .ref (ad 24 0), .ref (ad 25 0), .ref (ad 26 0), .ref (ad 27 0)])
  | 7 => .inl (cA 0, 12, .inl (st 7))
  | 8 => .inl (cA 0, 12, .inl (st 8))
  | 9 => .inl (cA 0, 12, .inl (st 9))
  | 10 => .inl (cA 0, 12, .inl (st 10))
  | 11 => .inl (cA 0, 12, .inl (st 11))
  | 12 => .inl (cA 0, 12, .inl (st 12))
  | 13 => .inl (cA 0, 12, .inl (st 13))
  | 14 => .inl (cA 0, 12, .inl (st 14))
  | 16 => .inl (cA 0, 100, .inl (st 16))
  | 17 => .inl (cA 0, 100, .inl (st 17))
  | 18 => .inl (cA 0, 100, .inl (st 18))
  | 19 => .inl (cA 0, 100, .inl (st 19))
  | 20 => .inl (cA 0, 100, .inl (st 20))
  | 21 => .inl (cA 0, 100, .inl (st 21))
  | 22 => .inl (cA 5, 100, .inl (st 22))
  | 23 => .inl (cA 0, 196, .inl (st 23))
  | 24 => .inl (cA 0, 392, .inl (st 24))
  | 25 => .inl (cA 0, 2, .inl (st 25))
  | 26 => .inl (cA 5, 196, .inl (st 26))
  | 27 => .inl (cA 5, 1764, .inl (st 27))
  | _ => .inr (0, [])
def fb_owM (F : Nat) : Nat := if F < 7 then 0 else if F = 15 then 0 else F
def fb_LM : fb_L := [(0, 0), (7, 0), (8, 0), (9, 0), (10, 0), (11, 0), (12, 0), (13, 0), (14, 0), (16, 0), (17, 0), (18, 0), (19, 0), (20, 0), (21, 0), (22, 0), (23, 0), (24, 0), (25, 0), (26, 0), (27, 0)]
theorem fb_memM {k : Nat} (h : fb_LM.contains (k, 0) = true) : (k, 0) ∈ fb_LM := List.contains_iff_mem.mp h
theorem fb_cM_congr {cA : Nat → ClassId} {ad : Nat → Nat → Nat} {st st' : fb_S} {k i : Nat} (h0 : k = 0 → ∀ F, fb_owM F = 0 → st' F 0 = st F 0) (h : k ≠ 0 → st' k = st k) : fb_cM cA ad st' k i = fb_cM cA ad st k i := by
  by_cases hk : k = 0
  · subst hk
    have h0 := h0 rfl
    simp only [fb_cM]
    rw [h0 0 rfl, h0 1 rfl, h0 2 rfl, h0 3 rfl, h0 4 rfl, h0 5 rfl, h0 6 rfl, h0 15 rfl]
  · have h := h hk
    unfold fb_cM
    split <;> first | rfl | (rw [h]) | (exact absurd rfl hk)
theorem fb_hoM {cA : Nat → ClassId} {ad : Nat → Nat → Nat} (st : fb_S) (F j : Nat) (v : Int32) {k : Nat} (hk : fb_owM F = k) : ∀ k' i' : Nat, (k', i') ∈ fb_LM → ¬ (k' = k ∧ i' = 0) → fb_cM cA ad (fb_up st F j v) k' i' = fb_cM cA ad st k' i' := by
  intro k' i' hm hne
  have hi : i' = 0 := by
    simp only [fb_LM, List.mem_cons, Prod.mk.injEq, List.not_mem_nil, or_false] at hm
    omega
  refine fb_cM_congr (fun hz G hG => ?_) (fun hz => ?_)
  · refine fb_up_F st j 0 v ?_
    rintro rfl
    exact hne ⟨by rw [hz, ← hk, hG], hi⟩
  · funext q
    refine fb_up_F st j q v ?_
    rintro rfl
    have : fb_owM k' = k' := by
      simp only [fb_LM, List.mem_cons, Prod.mk.injEq, List.not_mem_nil, or_false] at hm
      unfold fb_owM
      rw [if_neg (by omega), if_neg (by omega)]
    exact hne ⟨by rw [← hk, this], hi⟩
def fb_rM (fl fr T F i : Nat) (v : Int32) : Prop := match F with
  | 0 => 1 ≤ v ∧ v ≤ 8
  | 1 => 4 ≤ v ∧ v ≤ 40
  | 2 => 0 ≤ v ∧ v ≤ 40
  | 3 => 1 ≤ v ∧ v ≤ 40
  | 4 => i = 0 → v = nI T
  | 6 => i = 0 → v = nI fl
  | 15 => i = 0 → v = nI fr
  | 7 => 0 ≤ v ∧ v ≤ 7
  | 8 => 0 ≤ v ∧ v ≤ 7
  | 9 => v = 0 ∨ v = 1
  | 10 => i < fl → 1 ≤ v ∧ v ≤ 64
  | 11 => i < fl → 1 ≤ v ∧ v ≤ 64
  | 12 => i < fl → 0 ≤ v ∧ v ≤ 64
  | 16 => vp_in v 12 ∧ (i < fr → vp_in v fl)
  | 17 => i < fr → 1 ≤ v ∧ v ≤ 4
  | 22 => v = 0 ∨ v = 1
  | 23 => v = 0 ∨ v = 1
  | 25 => i < 2 → 1 ≤ v ∧ v ≤ 8
  | 26 => v = 0 ∨ v = 1
  | 27 => v = 0 ∨ v = 1
  | _ => True
def fb_okM (fl fr T : Nat) (st : fb_S) : Prop := ∀ F i, fb_rM fl fr T F i (st F i)
theorem fb_okM_up {fl fr T : Nat} {st : fb_S} {F i : Nat} {v : Int32} (h : fb_okM fl fr T st) (hv : fb_rM fl fr T F i v) : fb_okM fl fr T (fb_up st F i v) := by
  intro G j
  unfold fb_up
  by_cases hG : G = F ∧ j = i
  · rw [if_pos hG]
    obtain ⟨rfl, rfl⟩ := hG
    exact hv
  · rw [if_neg hG]
    exact h G j
