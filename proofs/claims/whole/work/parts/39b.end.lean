/-! a tick's last phase: histories -/
theorem memF_it {s : fb_S} : ∀ n, (∀ G j, ((G ≠ 29 ∧ G ≠ 28) ∨ n ≤ j) → fb_it cf_memF n s G j = s G j) ∧ ∀ j, j < n → fb_it cf_memF n s 29 j = cf_latest (s 29 j) (s 28 j) ∧ fb_it cf_memF n s 28 j = 0 := by
  intro n
  induction n with
  | zero => exact ⟨fun _ _ _ => rfl, fun j hj => by omega⟩
  | succ n ih =>
    obtain ⟨h1, h2⟩ := ih
    rw [fb_it_s]
    generalize fb_it cf_memF n s = x at *
    unfold cf_memF
    refine ⟨fun G j hG => ?_, fun j hj => ?_⟩
    · have e1 : ∀ (y : fb_S) (v : Int32), fb_up y 28 n v G j = y G j := fun y v => by
        by_cases e : G = 28
        · exact fb_up_i y _ _ v (by omega)
        · exact fb_up_F y _ _ v e
      have e2 : ∀ (y : fb_S) (v : Int32), fb_up y 29 n v G j = y G j := fun y v => by
        by_cases e : G = 29
        · exact fb_up_i y _ _ v (by omega)
        · exact fb_up_F y _ _ v e
      simp only [e1, e2]
      exact h1 G j (by omega)
    · by_cases e : j = n
      · subst e
        refine ⟨?_, fb_up_same _ _ _ _⟩
        rw [fb_up_F _ _ _ _ (by decide), fb_up_same, h1 29 j (by omega), h1 28 j (by omega)]
      · have := h2 j (by omega)
        refine ⟨?_, ?_⟩
        · rw [fb_up_F _ _ _ _ (by decide), fb_up_i _ _ _ _ e]
          exact this.1
        · rw [fb_up_i _ _ _ _ e, fb_up_F _ _ _ _ (by decide)]
          exact this.2
theorem rec_it {m : fb_S} {T : Nat} (h4 : m 4 0 = nI T) (hT : T ≤ 25000) : ∀ n, n ≤ 196 → (∀ G j, (G ≠ 27 ∨ j < (T % 9) * 196 ∨ (T % 9) * 196 + n ≤ j) → fb_it mf_rec1 n m G j = m G j) ∧ ∀ q, q < n → fb_it mf_rec1 n m 27 ((T % 9) * 196 + q) = m 26 q := by
  intro n
  induction n with
  | zero => exact fun _ => ⟨fun _ _ _ => rfl, fun j hj => by omega⟩
  | succ n ih =>
    intro hn
    obtain ⟨h1, h2⟩ := ih (by omega)
    rw [fb_it_s]
    generalize fb_it mf_rec1 n m = x at *
    have e4 : x 4 0 = nI T := by rw [h1 4 0 (Or.inl (by decide))]; exact h4
    have ei : fb_n ((x 4 0 - x 4 0 / 9 * 9) * 196 + nI n) = (T % 9) * 196 + n := by
      rw [e4, fb_mod9 (by omega), show (196 : Int32) = nI 196 from by decide, fb_mul, nI_add, fb_nI (by omega)]
    unfold mf_rec1
    rw [ei, h1 26 n (Or.inl (by decide))]
    refine ⟨fun G j hG => ?_, fun q hq => ?_⟩
    · by_cases e : G = 27
      · rw [fb_up_i _ _ _ _ (by omega)]
        exact h1 G j (by omega)
      · rw [fb_up_F _ _ _ _ e]
        exact h1 G j (Or.inl e)
    · by_cases e : q = n
      · subst e
        exact fb_up_same _ _ _ _
      · rw [fb_up_i _ _ _ _ (by omega)]
        exact h2 q (by omega)
theorem fb_g_lt : ∀ i, i < 32 → fb_g i < 196 := by decide +kernel
theorem ph5 {fl fr T z : Nat} {s m : fb_S} (h : MID fl fr T 1 1 1 z s m) (hz : z ≤ 32) : CP fl fr T (cf_remember fl s) (fb_it mf_rec1 196 m) := by
  obtain ⟨ok, okm, hfl, hfr, hT1, hTb, hpa, hW, hSm, ⟨o, o1, o2⟩, Q, hG, hP, hF, hR, hK, hC, hO, hN, hE, hcr, hZ, hJ1, hJ2⟩ := h
  have h4 : m 4 0 = nI T := okm 4 0 rfl
  obtain ⟨d, hd, hd0⟩ := dl_of ok
  have hm0 : m 0 0 = nI (d + 1) := hG.1 ▸ hd0
  obtain ⟨hmo, hmn⟩ := rec_it h4 hTb 196 (Nat.le_refl _)
  have hm : ∀ F j, F ≠ 27 → fb_it mf_rec1 196 m F j = m F j := fun F j h => hmo F j (Or.inl h)
  have hrow := it_row (f := cf_memP) (F := 15) (g := fun i => cf_latest (s 15 i) (s 14 i)) (n := 32) (s := s) (fun i x hi hx => by
    unfold cf_memP
    rw [hx 15 i (by omega), hx 14 i (by omega)]) 32 (Nat.le_refl _)
  obtain ⟨hro, hrn⟩ := hrow
  unfold cf_remember
  generalize fb_it cf_memP 32 s = s1 at *
  obtain ⟨hfo, hfn⟩ := memF_it (s := s1) fl
  generalize fb_it cf_memF fl s1 = s' at *
  generalize fb_it mf_rec1 196 m = m' at *
  have hs : ∀ F j, F ≠ 15 → F ≠ 28 → F ≠ 29 → s' F j = s F j := fun F j a b c => by
    rw [hfo F j (Or.inl ⟨c, b⟩)]
    exact hro F j (Or.inl a)
  have s15 : ∀ i, i < 32 → s' 15 i = cf_latest (s 15 i) (s 14 i) := fun i hi => by
    rw [hfo 15 i (Or.inl ⟨by decide, by decide⟩)]
    exact hrn i hi
  have s29 : ∀ f, f < fl → s' 29 f = cf_latest (s 29 f) (s 28 f) ∧ s' 28 f = 0 := fun f hf => by
    have := hfn f hf
    rw [hro 29 f (Or.inl (by decide)), hro 28 f (Or.inl (by decide))] at this
    exact this
  have nd : ∀ f i, mf_node m' f i = mf_node m f i := node_c (fun j => hm 7 j (by decide)) (fun j => hm 8 j (by decide))
  have en : ∀ f, mf_end m' f = mf_end m f := end_c (fun j => hm 7 j (by decide)) (fun j => hm 8 j (by decide))
  have elc : ∀ k, fb_lc s' k = fb_lc s k := fun k => lc_c (hs 38 k (by decide) (by decide) (by decide)) (loc_c (fun j => hs 33 j (by decide) (by decide) (by decide)) (hs 36 k (by decide) (by decide) (by decide)) (hs 41 k (by decide) (by decide) (by decide))) (prk_c (fun j => hs 22 j (by decide) (by decide) (by decide)) (hs 36 k (by decide) (by decide) (by decide)))
  have ehb : ∀ k, fb_hb s' k = fb_hb s k := fun k => hb_c (hs 38 k (by decide) (by decide) (by decide)) (hs 42 k (by decide) (by decide) (by decide)) (prk_c (fun j => hs 22 j (by decide) (by decide) (by decide)) (hs 36 k (by decide) (by decide) (by decide)))
  have eln : ∀ k, fb_ln s' k = fb_ln s k := fun k => ln_c (hs 37 k (by decide) (by decide) (by decide))
  have q3 : ∀ F, F ≠ 15 → F ≠ 28 → F ≠ 29 → ∀ j, s' F j = s F j := fun F a b c j => hs F j a b c
  have old : ∀ a i, a < 9 → ¬ a = T % 9 → i < 32 → m' 27 (a * 196 + fb_g i) = m 27 (a * 196 + fb_g i) := fun a i ha hne hi => by
    have := fb_g_lt i hi
    refine hmo 27 _ (Or.inr ?_)
    rcases Nat.lt_or_gt_of_ne hne with q | q
    · left
      have : (a + 1) * 196 ≤ (T % 9) * 196 := Nat.mul_le_mul_right _ (by omega)
      omega
    · right
      have : (T % 9 + 1) * 196 ≤ a * 196 := Nat.mul_le_mul_right _ (by omega)
      omega
  refine ⟨Q, ?_, ?_, ?_, ?_, ?_, ⟨?_, ?_, ?_, ?_⟩, ?_, ⟨fun k hk => ?_, o, by rw [hm 5 0 (by decide)]; exact o1, by omega⟩, ?_, ?_, ?_, ?_, ?_, ?_⟩
  · simp only [cp_G, q3 0 (by decide) (by decide) (by decide), q3 1 (by decide) (by decide) (by decide), q3 2 (by decide) (by decide) (by decide), q3 3 (by decide) (by decide) (by decide), q3 6 (by decide) (by decide) (by decide), q3 7 (by decide) (by decide) (by decide), hm 0 0 (by decide), hm 1 0 (by decide), hm 2 0 (by decide), hm 3 0 (by decide), hm 4 0 (by decide), hm 25 0 (by decide), hm 25 1 (by decide)]
    exact hG
  · intro i hi
    rw [q3 12 (by decide) (by decide) (by decide), q3 17 (by decide) (by decide) (by decide), q3 17 (by decide) (by decide) (by decide), q3 14 (by decide) (by decide) (by decide), hm 23 _ (by decide), hm 24 _ (by decide), hm 24 _ (by decide), hm 26 _ (by decide)]
    exact hP i hi
  · intro f hf
    rw [q3 22 (by decide) (by decide) (by decide), q3 23 (by decide) (by decide) (by decide), q3 24 (by decide) (by decide) (by decide), q3 25 (by decide) (by decide) (by decide), q3 26 (by decide) (by decide) (by decide), q3 27 (by decide) (by decide) (by decide), hm 9 f (by decide), hm 10 f (by decide), hm 11 f (by decide), hm 12 f (by decide), hm 13 f (by decide), hm 14 f (by decide)]
    exact hF f hf
  · intro f hf
    simp only [q3 34 (by decide) (by decide) (by decide), q3 33 (by decide) (by decide) (by decide), nd, en]
    exact hR f hf
  · intro k hk
    simp only [cp_way, q3 36 (by decide) (by decide) (by decide), q3 37 (by decide) (by decide) (by decide), q3 38 (by decide) (by decide) (by decide), q3 40 (by decide) (by decide) (by decide), q3 35 (by decide) (by decide) (by decide), q3 39 (by decide) (by decide) (by decide), q3 41 (by decide) (by decide) (by decide), q3 34 (by decide) (by decide) (by decide), q3 42 (by decide) (by decide) (by decide), q3 33 (by decide) (by decide) (by decide), q3 43 (by decide) (by decide) (by decide), hm 16 _ (show (16 : Nat) ≠ 27 by decide), hm 17 _ (show (17 : Nat) ≠ 27 by decide), hm 18 _ (show (18 : Nat) ≠ 27 by decide), hm 22 _ (show (22 : Nat) ≠ 27 by decide), hm 19 _ (show (19 : Nat) ≠ 27 by decide), hm 21 _ (show (21 : Nat) ≠ 27 by decide), hm 0 _ (show (0 : Nat) ≠ 27 by decide), nd]
    exact hK k hk
  · exact ci_q_congr hC.1 (q3 19 (by decide) (by decide) (by decide)) (q3 20 (by decide) (by decide) (by decide)) (q3 44 (by decide) (by decide) (by decide)) (fun k _ => elc k)
  · intro j hj
    rw [q3 21 (by decide) (by decide) (by decide), hC.2.1 j hj, ci_sum_congr (fun k _ => ⟨elc k, eln k⟩)]
  · intro i hi k hk
    rw [q3 13 (by decide) (by decide) (by decide), hC.2.2.1 i hi k hk, elc]
  · intro j hj
    rw [q3 18 (by decide) (by decide) (by decide), hC.2.2.2 j hj, ci_sum_congr (fun k _ => ⟨ehb k, eln k⟩)]
  · simp only [cp_O, hm 20 _ (show (20 : Nat) ≠ 27 by decide), hm 5 _ (show (5 : Nat) ≠ 27 by decide), q3 43 (by decide) (by decide) (by decide)]
    exact hO
  · rw [hm 18 k (by decide), hm 21 k (by decide), q3 0 (by decide) (by decide) (by decide)]
    obtain ⟨a, b, c⟩ := hW k hk
    refine ⟨fun e => ?_, fun e => ?_, fun e => ?_⟩
    · obtain ⟨w, w1, w2, w3⟩ := a e
      exact ⟨w, w1, by omega, w3⟩
    · obtain ⟨w, w1, w2, w3⟩ := b e
      exact ⟨w, w1, by omega, by omega⟩
    · obtain ⟨w, w1, w2, w3⟩ := c e
      exact ⟨w, w1, w2, by omega⟩
  · intro i hi
    have m4' : m' 4 0 = nI T := by rw [hm 4 0 (by decide)]; exact h4
    have m0' : m' 0 0 = nI (d + 1) := by rw [hm 0 0 (by decide)]; exact hm0
    refine ⟨?_, ?_⟩
    · rw [q3 16 (by decide) (by decide) (by decide), hpa i hi]
      congr 1
      have key : mf_paused m (fb_tF i) (fb_tT i) = true ↔ mf_paused m' (fb_tF i) (fb_tT i) = true := by
        rw [paused_at hi hTb h4 hm0 hd, paused_at hi hTb m4' m0' hd]
        constructor
        · rintro ⟨a, b⟩
          exact ⟨a, by rw [old _ i (by omega) (by omega) hi]; exact b⟩
        · rintro ⟨a, b⟩
          rw [old _ i (by omega) (by omega) hi] at b
          exact ⟨a, b⟩
      cases e1 : mf_paused m (fb_tF i) (fb_tT i) <;> cases e2 : mf_paused m' (fb_tF i) (fb_tT i) <;> simp_all
    · obtain ⟨x, hx, ex, hbits⟩ := hJ1 i hi
      obtain ⟨b, hb, eb⟩ := vp_in_of (fb_v01 (ok 14 i)) (by decide)
      obtain ⟨t0, t1⟩ := bits_t x hx b hb
      have e26 : m 26 (fb_g i) = nI b := by rw [← (hP i hi).2.2.2]; exact eb
      refine ⟨(2 * x + b) % 256, by omega, by rw [s15 i hi, ex, eb, bits_l1 x hx b hb], fun j hj => ?_⟩
      rcases Nat.eq_zero_or_pos j with rfl | hp
      · rw [t0, Nat.sub_zero, hmn (fb_g i) (fb_g_lt i hi), e26, decide_eq_true_iff]
        constructor
        · rintro rfl
          exact ⟨by omega, by decide⟩
        · rintro ⟨-, q⟩
          rcases (show b = 0 ∨ b = 1 by omega) with rfl | rfl
          · exact absurd rfl q
          · rfl
      · obtain ⟨j', rfl⟩ : ∃ j', j = j' + 1 := ⟨j - 1, by omega⟩
        rw [t1 j' (by omega), hbits j' (by omega), show T - 1 - j' = T - (j' + 1) by omega]
        constructor
        · rintro ⟨a, b⟩
          exact ⟨a, by rw [old _ i (by omega) (by omega) hi]; exact b⟩
        · rintro ⟨a, b⟩
          rw [old _ i (by omega) (by omega) hi] at b
          exact ⟨a, b⟩
  · intro f hf
    obtain ⟨x, hx, ex, hbits⟩ := hJ2 f hf
    obtain ⟨b, hb, eb⟩ := vp_in_of (fb_v01 (ok 28 f)) (by decide)
    obtain ⟨t0, t1⟩ := bits_t x hx b hb
    refine ⟨(s29 f hf).2, (2 * x + b) % 256, by omega, by rw [(s29 f hf).1, ex, eb, bits_l1 x hx b hb], fun j hj => ?_⟩
    simp only [hm 16 _ (show (16 : Nat) ≠ 27 by decide), hm 18 _ (show (18 : Nat) ≠ 27 by decide), hm 22 _ (show (22 : Nat) ≠ 27 by decide), hm 21 _ (show (21 : Nat) ≠ 27 by decide)]
    rcases Nat.eq_zero_or_pos j with rfl | hp
    · rw [t0, Nat.sub_zero, decide_eq_true_iff]
      have key := hSm f hf
      rw [eb] at key
      constructor
      · rintro rfl
        obtain ⟨k, hk, z1, z2, z3, z4⟩ := key.mp (by decide)
        exact ⟨k, hk, z1, z2, z3, by omega, z4⟩
      · rintro ⟨k, hk, z1, z2, z3, -, z4⟩
        have := key.mpr ⟨k, hk, z1, z2, z3, z4⟩
        rcases (show b = 0 ∨ b = 1 by omega) with rfl | rfl
        · exact absurd rfl this
        · rfl
    · obtain ⟨j', rfl⟩ : ∃ j', j = j' + 1 := ⟨j - 1, by omega⟩
      rw [t1 j' (by omega), hbits j' (by omega), show T - 1 - j' = T - (j' + 1) by omega]
  · intro f hf
    rw [q3 30 (by decide) (by decide) (by decide), q3 31 (by decide) (by decide) (by decide), q3 32 (by decide) (by decide) (by decide), count_c (fun j _ => hm 16 j (by decide)) (fun j _ => hm 18 j (by decide)), count_c (fun j _ => hm 16 j (by decide)) (fun j _ => hm 18 j (by decide)), last_c (hm 6 0 (by decide)) (fun j _ => hm 16 j (by decide)) (fun j _ => hm 18 j (by decide)) (fun j _ => hm 21 j (by decide)) (by omega)]
    exact hN f hf
  · simp only [cp_E, hm 7 _ (show (7 : Nat) ≠ 27 by decide), hm 8 _ (show (8 : Nat) ≠ 27 by decide)]
    exact hE
  · intro j hj
    rw [q3 17 (by decide) (by decide) (by decide), q3 12 (by decide) (by decide) (by decide)]
    exact hcr j hj
  · simp only [cp_Z, hm 13 _ (show (13 : Nat) ≠ 27 by decide), hm 14 _ (show (14 : Nat) ≠ 27 by decide), hm 22 _ (show (22 : Nat) ≠ 27 by decide)]
    exact hZ
