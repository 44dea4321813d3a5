/-! a tick: the coupling between its phases; histories -/
/-- times inside a tick: x = 1 once sending has ended, y = 1 once all has arrived, v = 1 once some may have been received -/
def cp_W (fr T x y v : Nat) (s m : fb_S) : Prop := ∀ k, k < fr → (m 18 k = 2 → ∃ w, m 21 k = nI w ∧ T + x ≤ w ∧ w ≤ T + 4) ∧ (m 18 k = 3 → ∃ w, m 21 k = nI w ∧ w ≤ T ∧ T + y ≤ w + fb_n (s 0 0)) ∧ (m 18 k = 4 → ∃ w, m 21 k = nI w ∧ 1 ≤ w ∧ w + 1 ≤ T + v)
/-- marked frames received now -/
def cp_S (fl fr T : Nat) (s m : fb_S) : Prop := ∀ f, f < fl → (¬ s 28 f = 0 ↔ ∃ k, k < fr ∧ m 16 k = nI f ∧ m 18 k = 4 ∧ ¬ m 22 k = 0 ∧ m 21 k = nI T)
/-- histories up to the tick before -/
def cp_J (fl fr T : Nat) (s m : fb_S) : Prop := (∀ i, i < 32 → ∃ h : Nat, h < 256 ∧ s 15 i = nI h ∧ ∀ j, j < 8 → (h.testBit j = true ↔ j + 1 < T ∧ ¬ m 27 (((T - 1 - j) % 9) * 196 + fb_g i) = 0)) ∧ ∀ f, f < fl → ∃ h : Nat, h < 256 ∧ s 29 f = nI h ∧ ∀ j, j < 8 → (h.testBit j = true ↔ ∃ k, k < fr ∧ m 16 k = nI f ∧ m 18 k = 4 ∧ ¬ m 22 k = 0 ∧ j + 1 < T ∧ m 21 k = nI (T - 1 - j))
def cp_M (fl fr T : Nat) (s m : fb_S) (Q : Nat → List Nat) : Prop := cp_G s m ∧ cp_P s m ∧ cp_F fl s m ∧ cp_R fl s m ∧ cp_K fr s m ∧ cp_C fr s Q ∧ cp_O fr s m Q ∧ cp_N fl fr s m ∧ cp_E fl m ∧ cp_cr s ∧ cp_Z fl fr m ∧ cp_J fl fr T s m
def MID (fl fr T x y v z : Nat) (s m : fb_S) : Prop := fb_okC fl fr s ∧ fb_okM fl fr T m ∧ fl ≤ 12 ∧ fr ≤ 100 ∧ 1 ≤ T ∧ T ≤ 25000 ∧ (∀ i, i < 32 → s 16 i = fb_b (mf_paused m (fb_tF i) (fb_tT i))) ∧ cp_W fr T x y v s m ∧ cp_S fl fr T s m ∧ (∃ o, m 5 0 = nI o ∧ o + 32 ≤ fr + 32 * T + z) ∧ ∃ Q : Nat → List Nat, cp_M fl fr T s m Q
theorem bits_was : ∀ h, h < 256 → ∀ d, d < 8 → decide (((nI h >>> ((nI (d + 1) - 1) &&& 31)) &&& 1) = 1) = h.testBit d := by decide +kernel
theorem bits_l0 : ∀ h, h < 256 → cf_latest (nI h) 0 = nI (2 * h % 256) := by decide +kernel
theorem bits_l1 : ∀ h, h < 256 → ∀ b, b < 2 → cf_latest (nI h) (nI b) = nI ((2 * h + b) % 256) := by decide +kernel
theorem bits_t : ∀ h, h < 256 → ∀ b, b < 2 → ((2 * h + b) % 256).testBit 0 = decide (b = 1) ∧ ∀ j, j < 7 → ((2 * h + b) % 256).testBit (j + 1) = h.testBit j := by decide +kernel
theorem was_bit {s : fb_S} {h d : Nat} (hh : h < 256) (hd : d < 8) (h0 : s 0 0 = nI (d + 1)) : cf_was s (nI h) = h.testBit d := by
  have e := bits_was h hh d hd
  unfold cf_was
  rw [h0, ← e]
  by_cases c : ((nI h >>> ((nI (d + 1) - 1) &&& 31)) &&& 1) = 1
  · rw [if_pos c, decide_eq_true c]
  · rw [if_neg c, decide_eq_false c]
/-- delay as a number -/
theorem dl_of {fl fr : Nat} {s : fb_S} (ok : fb_okC fl fr s) : ∃ d, d < 8 ∧ s 0 0 = nI (d + 1) := by
  have h := ok 0 0
  obtain ⟨j, hj, e⟩ := nI_of2 (x := s 0 0) (M := 8) (n := 8) (by decide) (fb_pos1 h.1) h.2
  rcases Nat.eq_zero_or_pos j with rfl | q
  · rw [e] at h
    exact absurd h.1 (by decide)
  · exact ⟨j - 1, by omega, by rw [e]; congr 1; omega⟩
/-- the reference's paused, as numbers -/
theorem paused_at {m : fb_S} {T d i : Nat} (hi : i < 32) (hT : T ≤ 25000) (h4 : m 4 0 = nI T) (h0 : m 0 0 = nI (d + 1)) (hd : d < 8) : mf_paused m (fb_tF i) (fb_tT i) = true ↔ d + 1 < T ∧ ¬ m 27 (((T - (d + 1)) % 9) * 196 + fb_g i) = 0 := by
  unfold mf_paused
  have hl := tb_lt i hi
  by_cases c : T ≤ d + 1
  · rw [if_pos (by rw [h4, h0]; exact nI_le c (by omega))]
    exact ⟨fun h => (by cases h), fun h => by omega⟩
  · have hidx : fb_n (mf_pidx m (fb_tF i) (fb_tT i)) = ((T - (d + 1)) % 9) * 196 + fb_g i := by
      unfold mf_pidx
      rw [h4, h0, fb_sub (by omega), fb_mod9 (by omega), tb_F i hi, tb_T i hi, show (196 : Int32) = nI 196 from by decide, show (14 : Int32) = nI 14 from by decide, fb_mul, fb_mul, nI_add, nI_add, fb_nI (by omega)]
      unfold fb_g
      omega
    rw [if_neg (by rw [h4, h0]; exact nI_ge (by omega) (by omega)), hidx]
    by_cases c2 : m 27 (((T - (d + 1)) % 9) * 196 + fb_g i) = 0
    · rw [if_pos c2]
      exact ⟨fun h => (by cases h), fun h => absurd c2 h.2⟩
    · rw [if_neg c2]
      exact ⟨fun _ => ⟨by omega, c2⟩, fun _ => rfl⟩
/-- what a loop over ports does that writes one field at its own index -/
theorem it_row {f : Nat → fb_S → fb_S} {F : Nat} {g : Nat → Int32} {n : Nat} {s : fb_S} (hf : ∀ i x, i < n → (∀ G j, (G ≠ F ∨ i ≤ j) → x G j = s G j) → f i x = fb_up x F i (g i)) : ∀ k, k ≤ n → (∀ G j, (G ≠ F ∨ k ≤ j) → fb_it f k s G j = s G j) ∧ ∀ j, j < k → fb_it f k s F j = g j := by
  intro k
  induction k with
  | zero => exact fun _ => ⟨fun _ _ _ => rfl, fun j hj => by omega⟩
  | succ k ih =>
    intro hk
    obtain ⟨h1, h2⟩ := ih (by omega)
    rw [fb_it_s, hf k _ (by omega) h1]
    refine ⟨fun G j hG => ?_, fun j hj => ?_⟩
    · by_cases e : G = F
      · rw [fb_up_i _ _ _ _ (by omega)]
        exact h1 G j (by omega)
      · rw [fb_up_F _ _ _ _ e]
        exact h1 G j (Or.inl e)
    · by_cases e : j = k
      · subst e
        exact fb_up_same _ _ _ _
      · rw [fb_up_i _ _ _ _ e]
        exact h2 j (by omega)
/-- as CO, a little longer -/
def CT (fl fr T : Nat) (s m : fb_S) : Prop := fb_okC fl fr s ∧ fb_okM fl fr T m ∧ fl ≤ 12 ∧ fr ≤ 100 ∧ T ≤ 24000 ∧ CP fl fr T s m
theorem cp_flow_T {fl fr T : Nat} {s m : fb_S} (h : CT fl fr T s m) : m 4 0 = nI T := h.2.1 4 0 rfl
/-- phase 0: the clock, and who is paused -/
theorem ph0 {fl fr T : Nat} {s m : fb_S} (h : CT fl fr T s m) : MID fl fr (T + 1) 0 0 0 0 (fb_it cf_pause1 32 (fb_up s 6 0 (s 6 0 + 1))) (fb_up m 4 0 (m 4 0 + 1)) := by
  have h4 : m 4 0 = nI T := cp_flow_T h
  obtain ⟨ok, okm, hfl, hfr, hTb, Q, hG, hP, hF, hR, hK, hC, hO, hT, hA, hB, hN, hE, hcr, hZ⟩ := h
  obtain ⟨d, hd, hd0⟩ := dl_of ok
  have hm0 : m 0 0 = nI (d + 1) := hG.1 ▸ hd0
  have okm1 := fb_okM_T okm
  have hm : ∀ F j, F ≠ 4 → fb_up m 4 0 (m 4 0 + 1) F j = m F j := fun F j hF => fb_up_F m _ _ _ hF
  have m4 : fb_up m 4 0 (m 4 0 + 1) 4 0 = nI (T + 1) := by rw [fb_up_same, h4, nI_1]
  have hrow := it_row (f := cf_pause1) (F := 16) (g := fun i => fb_b (cf_was s (s 15 i))) (n := 32) (s := fb_up s 6 0 (s 6 0 + 1)) (fun i x hi hx => by
    unfold cf_pause1
    have e0 : x 0 0 = s 0 0 := by rw [hx 0 0 (by omega)]; exact fb_up_F s _ _ _ (by decide)
    have e15 : x 15 i = s 15 i := by rw [hx 15 i (by omega)]; exact fb_up_F s _ _ _ (by decide)
    have ew : cf_was x (x 15 i) = cf_was s (s 15 i) := by simp only [cf_was, e0, e15]
    rw [ew]) 32 (Nat.le_refl _)
  obtain ⟨hro, hrn⟩ := hrow
  have hs : ∀ F j, F ≠ 6 → F ≠ 16 → fb_it cf_pause1 32 (fb_up s 6 0 (s 6 0 + 1)) F j = s F j := fun F j a b => by
    rw [hro F j (Or.inl b)]
    exact fb_up_F s _ _ _ a
  have s6 : fb_it cf_pause1 32 (fb_up s 6 0 (s 6 0 + 1)) 6 0 = nI (T + 1) := by
    rw [hro 6 0 (by omega), fb_up_same, hG.2.2.2.2.1, h4, nI_1]
  have ok2 : fb_okC fl fr (fb_it cf_pause1 32 (fb_up s 6 0 (s 6 0 + 1))) := by
    refine fb_it_inv (I := fun _ x => fb_okC fl fr x) (fb_okC_up ok trivial) (fun i x _ hx => fb_okC_up hx (fb_b01 _))
  generalize fb_it cf_pause1 32 (fb_up s 6 0 (s 6 0 + 1)) = s' at *
  generalize fb_up m 4 0 (m 4 0 + 1) = m' at *
  have nd : ∀ f i, mf_node m' f i = mf_node m f i := node_c (fun j => hm 7 j (by decide)) (fun j => hm 8 j (by decide))
  have en : ∀ f, mf_end m' f = mf_end m f := end_c (fun j => hm 7 j (by decide)) (fun j => hm 8 j (by decide))
  have elc : ∀ k, fb_lc s' k = fb_lc s k := fun k => lc_c (hs 38 k (by decide) (by decide)) (loc_c (fun j => hs 33 j (by decide) (by decide)) (hs 36 k (by decide) (by decide)) (hs 41 k (by decide) (by decide))) (prk_c (fun j => hs 22 j (by decide) (by decide)) (hs 36 k (by decide) (by decide)))
  have ehb : ∀ k, fb_hb s' k = fb_hb s k := fun k => hb_c (hs 38 k (by decide) (by decide)) (hs 42 k (by decide) (by decide)) (prk_c (fun j => hs 22 j (by decide) (by decide)) (hs 36 k (by decide) (by decide)))
  have eln : ∀ k, fb_ln s' k = fb_ln s k := fun k => ln_c (hs 37 k (by decide) (by decide))
  refine ⟨ok2, okm1, hfl, hfr, by omega, by omega, fun i hi => ?_, fun k hk => ?_, fun f hf => ?_, ?_, Q, ?_, ?_, ?_, ?_, ?_, ⟨?_, ?_, ?_, ?_⟩, ?_, ?_, ?_, ?_, ?_, ?_, ?_⟩
  · rw [hrn i hi]
    obtain ⟨-, x, hx, ex, hbits⟩ := hA i hi
    rw [ex, was_bit hx hd hd0]
    congr 1
    have key : x.testBit d = true ↔ mf_paused m' (fb_tF i) (fb_tT i) = true := by
      rw [hbits d hd, paused_at (T := T + 1) hi (by omega) m4 (by rw [hm 0 0 (by decide)]; exact hm0) hd, hm 27 _ (by decide), show T + 1 - (d + 1) = T - d by omega]
      exact ⟨fun ⟨a, b⟩ => ⟨by omega, b⟩, fun ⟨a, b⟩ => ⟨by omega, b⟩⟩
    cases e1 : x.testBit d <;> cases e2 : mf_paused m' (fb_tF i) (fb_tT i) <;> simp_all
  · rw [hm 18 k (by decide), hm 21 k (by decide), hs 0 0 (by decide) (by decide)]
    obtain ⟨a, b, c⟩ := hT.1 k hk
    refine ⟨fun e => ?_, fun e => ?_, fun e => ?_⟩
    · obtain ⟨w, w1, w2, w3⟩ := a e
      exact ⟨w, w1, by omega, by omega⟩
    · obtain ⟨w, w1, w2, w3⟩ := b e
      exact ⟨w, w1, by omega, by omega⟩
    · obtain ⟨w, w1, w0, w2⟩ := c e
      exact ⟨w, w1, w0, by omega⟩
  · rw [hs 28 f (by decide) (by decide), (hB f hf).1]
    refine ⟨fun x => absurd rfl x, fun ⟨k, hk, z1, z2, z3, z4⟩ => ?_⟩
    rw [hm 18 k (by decide)] at z2
    rw [hm 21 k (by decide)] at z4
    obtain ⟨w, w1, w0, w2⟩ := (hT.1 k hk).2.2 z2
    have := (nI_eq (by omega) (by omega)).mp (w1.symm.trans z4)
    omega
  · obtain ⟨o, o1, o2⟩ := hT.2
    exact ⟨o, by rw [hm 5 0 (by decide)]; exact o1, by omega⟩
  · refine ⟨?_, ?_, ?_, ?_, ?_, ?_, ?_⟩
    · rw [hs 0 0 (by decide) (by decide), hm 0 0 (by decide)]; exact hG.1
    · rw [hs 1 0 (by decide) (by decide), hm 1 0 (by decide)]; exact hG.2.1
    · rw [hs 2 0 (by decide) (by decide), hm 2 0 (by decide)]; exact hG.2.2.1
    · rw [hs 3 0 (by decide) (by decide), hm 3 0 (by decide)]; exact hG.2.2.2.1
    · rw [s6, m4]
    · rw [hs 7 0 (by decide) (by decide), hm 25 0 (by decide)]; exact hG.2.2.2.2.2.1
    · rw [hs 7 1 (by decide) (by decide), hm 25 1 (by decide)]; exact hG.2.2.2.2.2.2
  · intro i hi
    rw [hs 12 _ (by decide) (by decide), hs 17 _ (by decide) (by decide), hs 17 _ (by decide) (by decide), hs 14 _ (by decide) (by decide), hm 23 _ (by decide), hm 24 _ (by decide), hm 24 _ (by decide), hm 26 _ (by decide)]
    exact hP i hi
  · intro f hf
    rw [hs 22 f (by decide) (by decide), hs 23 f (by decide) (by decide), hs 24 f (by decide) (by decide), hs 25 f (by decide) (by decide), hs 26 f (by decide) (by decide), hs 27 f (by decide) (by decide), hm 9 f (by decide), hm 10 f (by decide), hm 11 f (by decide), hm 12 f (by decide), hm 13 f (by decide), hm 14 f (by decide)]
    exact hF f hf
  · intro f hf
    simp only [hs 34 _ (show (34 : Nat) ≠ 6 by decide) (show (34 : Nat) ≠ 16 by decide), hs 33 _ (show (33 : Nat) ≠ 6 by decide) (show (33 : Nat) ≠ 16 by decide), nd, en]
    exact hR f hf
  · intro k hk
    simp only [cp_way, hs 36 _ (show (36 : Nat) ≠ 6 by decide) (show (36 : Nat) ≠ 16 by decide), hs 37 _ (show (37 : Nat) ≠ 6 by decide) (show (37 : Nat) ≠ 16 by decide), hs 38 _ (show (38 : Nat) ≠ 6 by decide) (show (38 : Nat) ≠ 16 by decide), hs 40 _ (show (40 : Nat) ≠ 6 by decide) (show (40 : Nat) ≠ 16 by decide), hs 35 _ (show (35 : Nat) ≠ 6 by decide) (show (35 : Nat) ≠ 16 by decide), hs 39 _ (show (39 : Nat) ≠ 6 by decide) (show (39 : Nat) ≠ 16 by decide), hs 41 _ (show (41 : Nat) ≠ 6 by decide) (show (41 : Nat) ≠ 16 by decide), hs 34 _ (show (34 : Nat) ≠ 6 by decide) (show (34 : Nat) ≠ 16 by decide), hs 42 _ (show (42 : Nat) ≠ 6 by decide) (show (42 : Nat) ≠ 16 by decide), hs 33 _ (show (33 : Nat) ≠ 6 by decide) (show (33 : Nat) ≠ 16 by decide), hs 43 _ (show (43 : Nat) ≠ 6 by decide) (show (43 : Nat) ≠ 16 by decide), hm 16 _ (show (16 : Nat) ≠ 4 by decide), hm 17 _ (show (17 : Nat) ≠ 4 by decide), hm 18 _ (show (18 : Nat) ≠ 4 by decide), hm 22 _ (show (22 : Nat) ≠ 4 by decide), hm 19 _ (show (19 : Nat) ≠ 4 by decide), hm 21 _ (show (21 : Nat) ≠ 4 by decide), hm 0 _ (show (0 : Nat) ≠ 4 by decide), nd]
    exact hK k hk
  · exact ci_q_congr hC.1 (fun j => hs 19 j (by decide) (by decide)) (fun j => hs 20 j (by decide) (by decide)) (fun j => hs 44 j (by decide) (by decide)) (fun k _ => elc k)
  · intro j hj
    rw [hs 21 j (by decide) (by decide), hC.2.1 j hj, ci_sum_congr (fun k _ => ⟨elc k, eln k⟩)]
  · intro i hi k hk
    rw [hs 13 i (by decide) (by decide), hC.2.2.1 i hi k hk, elc]
  · intro j hj
    rw [hs 18 j (by decide) (by decide), hC.2.2.2 j hj, ci_sum_congr (fun k _ => ⟨ehb k, eln k⟩)]
  · simp only [cp_O, hm 20 _ (show (20 : Nat) ≠ 4 by decide), hm 5 _ (show (5 : Nat) ≠ 4 by decide), hs 43 _ (show (43 : Nat) ≠ 6 by decide) (show (43 : Nat) ≠ 16 by decide)]
    exact hO
  · intro f hf
    rw [hs 30 f (by decide) (by decide), hs 31 f (by decide) (by decide), hs 32 f (by decide) (by decide), count_c (fun j _ => hm 16 j (by decide)) (fun j _ => hm 18 j (by decide)), count_c (fun j _ => hm 16 j (by decide)) (fun j _ => hm 18 j (by decide)), last_c (hm 6 0 (by decide)) (fun j _ => hm 16 j (by decide)) (fun j _ => hm 18 j (by decide)) (fun j _ => hm 21 j (by decide)) (by omega)]
    exact hN f hf
  · simp only [cp_E, hm 7 _ (show (7 : Nat) ≠ 4 by decide), hm 8 _ (show (8 : Nat) ≠ 4 by decide)]
    exact hE
  · intro j hj
    rw [hs 17 j (by decide) (by decide), hs 12 (j / 2) (by decide) (by decide)]
    exact hcr j hj
  · simp only [cp_Z, hm 13 _ (show (13 : Nat) ≠ 4 by decide), hm 14 _ (show (14 : Nat) ≠ 4 by decide), hm 22 _ (show (22 : Nat) ≠ 4 by decide)]
    exact hZ
  · intro i hi
    obtain ⟨-, x, hx, ex, hbits⟩ := hA i hi
    refine ⟨x, hx, by rw [hs 15 i (by decide) (by decide)]; exact ex, fun j hj => (hbits j hj).trans ?_⟩
    rw [hm 27 _ (by decide), show T + 1 - 1 - j = T - j by omega]
    exact ⟨fun ⟨a, b⟩ => ⟨by omega, b⟩, fun ⟨a, b⟩ => ⟨by omega, b⟩⟩
  · intro f hf
    obtain ⟨-, x, hx, ex, hbits⟩ := hB f hf
    refine ⟨x, hx, by rw [hs 29 f (by decide) (by decide)]; exact ex, fun j hj => (hbits j hj).trans ?_⟩
    simp only [hm 16 _ (show (16 : Nat) ≠ 4 by decide), hm 18 _ (show (18 : Nat) ≠ 4 by decide), hm 22 _ (show (22 : Nat) ≠ 4 by decide), hm 21 _ (show (21 : Nat) ≠ 4 by decide), show T + 1 - 1 - j = T - j by omega, Nat.add_lt_add_iff_right]
