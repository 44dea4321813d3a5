/-! small helps for the walks -/
theorem fb_l31 {k n : Nat} (h : k < n) (hn : n ≤ 100) : k < 2 ^ 31 := by omega
theorem fb_w96 {i : Nat} (h : i < 32) : 3 * i + 2 < 96 := by omega
theorem fb_w96p {i j : Nat} (h : i < 32) (hj : j < 2) : 3 * i + j < 96 := by omega
theorem fb_len24 {v : Int32} (h : v = 2 ∨ v = 4) : Int32.ofNat (fb_n v) = v := by
  rcases h with rfl | rfl <;> decide
theorem fb_in24 {v z : Int32} (h : v = 2 ∨ v = 4) (h0 : ¬ z < 0) (h1 : ¬ v ≤ z) : vp_in z (fb_n v) := by
  rcases h with rfl | rfl
  · exact fb_inI (n := 2) h0 h1 (by decide) (by decide) (by decide)
  · exact fb_inI (n := 4) h0 h1 (by decide) (by decide) (by decide)
theorem fb_lt4 {v z : Int32} (h : v = 2 ∨ v = 4) (h0 : ¬ z < 0) (h1 : ¬ v ≤ z) : fb_n z < 4 := by
  rcases h with rfl | rfl
  · exact Nat.lt_trans (fb_inI' (n := 2) h0 h1 (by decide) (by decide)) (by decide)
  · exact fb_inI' (n := 4) h0 h1 (by decide) (by decide)
theorem fb_liv8 {fl fr : Nat} {st : fb_S} {a : Nat → Nat} (h : fb_okC fl fr st) {f : Nat} (hf : f < fl) (h31 : f < 2 ^ 31) : fb_ro a (st 8 (nI f).toNatClampNeg) = some (a f) := by
  have e : st 8 f = nI f := (h 8 f).trans (if_pos hf)
  rw [nI_clamp h31, e, fb_ro_k h31]
theorem fb_liv9 {fl fr : Nat} {st : fb_S} {a : Nat → Nat} (h : fb_okC fl fr st) {f : Nat} (hf : f < fr) (h31 : f < 2 ^ 31) : fb_ro a (st 9 (nI f).toNatClampNeg) = some (a f) := by
  have e : st 9 f = nI f := (h 9 f).trans (if_pos hf)
  rw [nI_clamp h31, e, fb_ro_k h31]
theorem fb_rgi {n i : Nat} {v : Int32} (h : v = if i < n then nI i else -1) (hn : n < 2 ^ 31) : fb_rg n v := by
  by_cases hi : i < n
  · rw [if_pos hi] at h
    exact Or.inr (h ▸ vp_in_nI hi hn)
  · rw [if_neg hi] at h
    exact Or.inl h
theorem rg_pb {s : fb_S} (u v : Int32) : ∀ (d i : Nat), i + d = 32 → fb_rg 32 (cf_pb s u v d i) := by
  intro d
  induction d with
  | zero => exact fun _ _ => Or.inl rfl
  | succ d ih =>
    intro i hi
    simp only [cf_pb]
    split
    · split
      · exact fb_rk (by omega) (by decide)
      · exact ih (i + 1) (by omega)
    · exact ih (i + 1) (by omega)
theorem rg_flowAt {fl fr : Nat} {s : fb_S} (h : fb_okC fl fr s) (hfl : fl ≤ 12) (f : Int32) : fb_rg fl (cf_flowAt s f) := by
  simp only [cf_flowAt]
  split
  · exact Or.inl rfl
  · split
    · exact Or.inl rfl
    · exact fb_rgi (h 8 _) (by omega)
theorem rg_frameAt {fl fr : Nat} {s : fb_S} (h : fb_okC fl fr s) (hfr : fr ≤ 100) (f : Int32) : fb_rg fr (cf_frameAt s f) := by
  simp only [cf_frameAt]
  split
  · exact Or.inl rfl
  · split
    · exact Or.inl rfl
    · exact fb_rgi (h 9 _) (by omega)
theorem rg_portAt {fl fr : Nat} {s : fb_S} (h : fb_okC fl fr s) (f : Nat) (hop : Int32) : fb_rg 32 (cf_portAt s f hop) := by
  simp only [cf_portAt]
  split
  · exact Or.inl rfl
  · split
    · exact Or.inl rfl
    · exact h 33 _
theorem rg_ready {fl fr : Nat} {s : fb_S} (h : fb_okC fl fr s) (i : Nat) (q : Int32) : fb_rg fr (cf_ready s i q) := by
  have h1 := h 19 (3 * i + fb_n q)
  simp only [cf_ready]
  repeat' split
  all_goals first | exact Or.inl rfl | exact h1
theorem fb_prio {q : Int32} (h : cf_prio q = true) : vp_in q 2 := by
  unfold cf_prio at h
  by_cases h0 : q < 0
  · rw [if_pos h0] at h; cases h
  · by_cases h1 : (2 : Int32) ≤ q
    · rw [if_neg h0, if_pos h1] at h; cases h
    · exact fb_inI (n := 2) h0 h1 (by decide) (by decide) (by decide)
theorem fb_ne1 {v : Int32} (h : 1 ≤ v ∧ v ≤ 64) : ¬ v = 0 := by
  rintro rfl
  exact absurd h.1 (by decide)
/-- rates: 1 .. 64, alpha: 0 .. 64 (by trying all) -/
theorem fb_to64 {v : Int32} (h0 : ¬ v < 0) (h : v ≤ 64) : ∃ j : Nat, j ≤ 64 ∧ v = nI j := nI_of2 (M := 64) (n := 64) (by decide) h0 h
theorem fb_pos1 {v : Int32} (h : 1 ≤ v) : ¬ v < 0 := by
  intro q
  have h1 := Int32.le_iff_toInt_le.mp h
  have h2 := Int32.lt_iff_toInt_lt.mp q
  have e1 : (1 : Int32).toInt = 1 := by decide
  have e0 : (0 : Int32).toInt = 0 := by decide
  omega
theorem fb_pos0 {v : Int32} (h : 0 ≤ v) : ¬ v < 0 := by
  intro q
  have h1 := Int32.le_iff_toInt_le.mp h
  have h2 := Int32.lt_iff_toInt_lt.mp q
  have e0 : (0 : Int32).toInt = 0 := by decide
  omega
theorem fb_slowT : ∀ r, r < 65 → ∀ a, a < 65 → 1 ≤ r → (1 ≤ (if 1 < nI r - nI r * nI a / 128 then nI r - nI r * nI a / 128 else 1) ∧ (if 1 < nI r - nI r * nI a / 128 then nI r - nI r * nI a / 128 else 1) ≤ 64) := by decide +kernel
theorem fb_slow1 {r a : Int32} (hr : 1 ≤ r ∧ r ≤ 64) (ha : 0 ≤ a ∧ a ≤ 64) : 1 ≤ (if 1 < r - r * a / 128 then r - r * a / 128 else 1) ∧ (if 1 < r - r * a / 128 then r - r * a / 128 else 1) ≤ 64 := by
  obtain ⟨j, hj, rfl⟩ := fb_to64 (fb_pos1 hr.1) hr.2
  obtain ⟨b, hb, rfl⟩ := fb_to64 (fb_pos0 ha.1) ha.2
  refine fb_slowT j (by omega) b (by omega) ?_
  rcases Nat.eq_zero_or_pos j with rfl | h
  · exact absurd hr.1 (by decide)
  · exact h
theorem fb_slow2 {a : Int32} (ha : 0 ≤ a ∧ a ≤ 64) : 0 ≤ (15 * a + 64) / 16 ∧ (15 * a + 64) / 16 ≤ 64 := by
  obtain ⟨b, hb, rfl⟩ := fb_to64 (fb_pos0 ha.1) ha.2
  exact (show ∀ b, b < 65 → (0 ≤ (15 * nI b + 64) / 16 ∧ (15 * nI b + 64) / 16 ≤ 64) by decide +kernel) b (by omega)
theorem fb_rec1 {a : Int32} (ha : 0 ≤ a ∧ a ≤ 64) : 0 ≤ 15 * a / 16 ∧ 15 * a / 16 ≤ 64 := by
  obtain ⟨b, hb, rfl⟩ := fb_to64 (fb_pos0 ha.1) ha.2
  exact (show ∀ b, b < 65 → (0 ≤ 15 * nI b / 16 ∧ 15 * nI b / 16 ≤ 64) by decide +kernel) b (by omega)
theorem fb_recT : ∀ r, r < 65 → ∀ a, a < 65 → 1 ≤ r → 1 ≤ a → (1 ≤ (nI r + nI a + 1) / 2 ∧ (nI r + nI a + 1) / 2 ≤ 64) := by decide +kernel
theorem fb_rec2 {r a : Int32} (hr : 1 ≤ r ∧ r ≤ 64) (ha : 1 ≤ a ∧ a ≤ 64) : 1 ≤ (r + a + 1) / 2 ∧ (r + a + 1) / 2 ≤ 64 := by
  obtain ⟨j, hj, rfl⟩ := fb_to64 (fb_pos1 hr.1) hr.2
  obtain ⟨b, hb, rfl⟩ := fb_to64 (fb_pos1 ha.1) ha.2
  refine fb_recT j (by omega) b (by omega) ?_ ?_
  · rcases Nat.eq_zero_or_pos j with rfl | h
    · exact absurd hr.1 (by decide)
    · exact h
  · rcases Nat.eq_zero_or_pos b with rfl | h
    · exact absurd ha.1 (by decide)
    · exact h
/-- an int from 1 to 20 -/
theorem fb_to20 {n : Int32} (h1 : ¬ n < 1) (h2 : n ≤ 20) : ∃ t : Nat, t ≤ 20 ∧ n = nI t := by
  refine nI_of2 (M := 20) (n := 20) (by decide) (fun q => h1 ?_) h2
  have h2 := Int32.lt_iff_toInt_lt.mp q
  refine Int32.lt_iff_toInt_lt.mpr ?_
  have e1 : (1 : Int32).toInt = 1 := by decide
  have e0 : (0 : Int32).toInt = 0 := by decide
  omega
