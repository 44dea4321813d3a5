/-! pure: the 32 ports -/
def fb_pU (i : Nat) : Nat := ([8, 8, 9, 9, 10, 10, 11, 11, 0, 1, 12, 13, 2, 3, 12, 13, 4, 5, 12, 13, 6, 7, 12, 13, 8, 9, 10, 11, 8, 9, 10, 11] : List Nat).getD i 0
def fb_pV (i : Nat) : Nat := ([0, 1, 2, 3, 4, 5, 6, 7, 8, 8, 8, 8, 9, 9, 9, 9, 10, 10, 10, 10, 11, 11, 11, 11, 12, 12, 12, 12, 13, 13, 13, 13] : List Nat).getD i 0
def fb_g (i : Nat) : Nat := 14 * fb_pU i + fb_pV i
theorem tb_F : ∀ i, i < 32 → fb_tF i = nI (fb_pU i) := by decide +kernel
theorem tb_T : ∀ i, i < 32 → fb_tT i = nI (fb_pV i) := by decide +kernel
theorem tb_lt : ∀ i, i < 32 → fb_pU i < 14 ∧ fb_pV i < 14 := by decide +kernel
theorem tb_inj : ∀ i, i < 32 → ∀ j, j < 32 → fb_pU i = fb_pU j → fb_pV i = fb_pV j → i = j := by decide +kernel
theorem tb_g : ∀ i, i < 32 → ∀ j, j < 32 → fb_g i = fb_g j → i = j := by decide +kernel
theorem tb_port : ∀ u, u < 14 → ∀ v, v < 14 → mf_port (nI u) (nI v) = (List.range 32).any (fun i => fb_pU i == u && fb_pV i == v) := by decide +kernel
theorem tb_prt : ∀ i, i < 32 → mf_port (nI (fb_pU i)) (nI (fb_pV i)) = true := by decide +kernel
theorem tb_FT {i j : Nat} (hi : i < 32) (hj : j < 32) (hF : fb_tF i = fb_tF j) (hT : fb_tT i = fb_tT j) : i = j := by
  rw [tb_F i hi, tb_F j hj] at hF
  rw [tb_T i hi, tb_T j hj] at hT
  have a := tb_lt i hi
  have b := tb_lt j hj
  exact tb_inj i hi j hj ((nI_eq (by omega) (by omega)).mp hF) ((nI_eq (by omega) (by omega)).mp hT)
/-- a port of the reference is one of the 32 -/
theorem tb_of {u v : Int32} (h : mf_port u v = true) : ∃ i, i < 32 ∧ u = fb_tF i ∧ v = fb_tT i := by
  obtain ⟨hu, hv⟩ := fb_prt h
  obtain ⟨a, ha, rfl⟩ := vp_in_of hu (by decide)
  obtain ⟨b, hb, rfl⟩ := vp_in_of hv (by decide)
  rw [tb_port a ha b hb, List.any_eq_true] at h
  obtain ⟨i, hi, h2⟩ := h
  have hi := List.mem_range.mp hi
  rw [Bool.and_eq_true, beq_iff_eq, beq_iff_eq] at h2
  exact ⟨i, hi, by rw [tb_F i hi, h2.1], by rw [tb_T i hi, h2.2]⟩
theorem tb_is {i : Nat} (hi : i < 32) : mf_port (fb_tF i) (fb_tT i) = true := by
  rw [tb_F i hi, tb_T i hi]
  exact tb_prt i hi
/-- portBetween finds the first that fits -/
theorem pb_some {s : fb_S} {u v : Int32} {j : Nat} (h1 : s 10 j = u) (h2 : s 11 j = v) : ∀ d i, i ≤ j → j < i + d → (∀ k, i ≤ k → k < j → ¬ (s 10 k = u ∧ s 11 k = v)) → cf_pb s u v d i = nI j := by
  intro d
  induction d with
  | zero => intro i a b _; omega
  | succ d ih =>
    intro i a b hn
    simp only [cf_pb]
    by_cases e : i = j
    · subst e
      rw [if_pos h1, if_pos h2]
    · have hr := ih (i + 1) (by omega) (by omega) (fun k k1 k2 => hn k (by omega) k2)
      by_cases c1 : s 10 i = u
      · by_cases c2 : s 11 i = v
        · exact absurd ⟨c1, c2⟩ (hn i (Nat.le_refl _) (by omega))
        · rw [if_pos c1, if_neg c2]
          exact hr
      · rw [if_neg c1]
        exact hr
theorem pb_none {s : fb_S} {u v : Int32} : ∀ d i, (∀ k, i ≤ k → k < i + d → ¬ (s 10 k = u ∧ s 11 k = v)) → cf_pb s u v d i = -1 := by
  intro d
  induction d with
  | zero => intro i _; rfl
  | succ d ih =>
    intro i hn
    simp only [cf_pb]
    have hr := ih (i + 1) (fun k k1 k2 => hn k (by omega) (by omega))
    by_cases c1 : s 10 i = u
    · by_cases c2 : s 11 i = v
      · exact absurd ⟨c1, c2⟩ (hn i (Nat.le_refl _) (by omega))
      · rw [if_pos c1, if_neg c2]
        exact hr
    · rw [if_neg c1]
      exact hr
theorem pb_at {fl fr : Nat} {s : fb_S} (h : fb_okC fl fr s) {i : Nat} (hi : i < 32) : cf_pb s (fb_tF i) (fb_tT i) 32 0 = nI i := by
  refine pb_some (h 10 i hi) (h 11 i hi) 32 0 (Nat.zero_le _) (by omega) (fun k _ k2 hk => ?_)
  have a : s 10 k = fb_tF k := h 10 k (by omega)
  have b : s 11 k = fb_tT k := h 11 k (by omega)
  have := tb_FT (i := k) (j := i) (by omega) hi (a.symm.trans hk.1) (b.symm.trans hk.2)
  omega
theorem pb_spec {fl fr : Nat} {s : fb_S} (h : fb_okC fl fr s) (u v : Int32) : (¬ mf_port u v = true ∧ cf_pb s u v 32 0 = -1) ∨ ∃ i, i < 32 ∧ u = fb_tF i ∧ v = fb_tT i ∧ mf_port u v = true ∧ cf_pb s u v 32 0 = nI i := by
  by_cases hp : mf_port u v = true
  · obtain ⟨i, hi, rfl, rfl⟩ := tb_of hp
    exact Or.inr ⟨i, hi, rfl, rfl, hp, pb_at h hi⟩
  · refine Or.inl ⟨hp, pb_none 32 0 (fun k _ k2 hk => hp ?_)⟩
    have a : s 10 k = fb_tF k := h 10 k (by omega)
    have b : s 11 k = fb_tT k := h 11 k (by omega)
    rw [← hk.1, ← hk.2, a, b]
    exact tb_is (by omega)
