/-! a tick's phase of rates -/
theorem slow_eq (f : Nat) (x : fb_S) : cf_slow f x = fb_up (fb_up (fb_up (fb_up x 24 f (x 23 f)) 23 f (if 1 < x 23 f - x 23 f * x 25 f / 128 then x 23 f - x 23 f * x 25 f / 128 else 1)) 25 f ((15 * x 25 f + 64) / 16)) 26 f 0 := by
  simp only [cf_slow]
  rw [fb_up_F x f f (x 23 f) (show (23 : Nat) ≠ 24 by decide), fb_up_F x f f (x 23 f) (show (25 : Nat) ≠ 24 by decide), fb_up_F _ f f _ (show (25 : Nat) ≠ 23 by decide), fb_up_F x f f (x 23 f) (show (25 : Nat) ≠ 24 by decide)]
theorem rec_eq (f : Nat) (x : fb_S) : cf_recover f x = fb_up (fb_up (fb_up x 26 f 0) 25 f (15 * x 25 f / 16)) 23 f ((x 23 f + x 24 f + 1) / 2) := by
  simp only [cf_recover]
  rw [fb_up_F x f f _ (show (25 : Nat) ≠ 26 by decide), fb_up_F _ f f _ (show (23 : Nat) ≠ 25 by decide), fb_up_F _ f f _ (show (24 : Nat) ≠ 25 by decide), fb_up_F x f f _ (show (23 : Nat) ≠ 26 by decide), fb_up_F x f f _ (show (24 : Nat) ≠ 26 by decide)]
theorem mslow_eq {fr f : Nat} {x : fb_S} (h : mf_told x (nI f) fr = true) : mf_slow fr f x = fb_up (fb_up (fb_up (fb_up x 11 f (x 10 f)) 10 f (if 1 ≤ x 10 f - x 10 f * x 12 f / 128 then x 10 f - x 10 f * x 12 f / 128 else 1)) 12 f ((15 * x 12 f + 64) / 16)) 13 f 0 := by
  simp only [mf_slow, if_pos h]
  rw [fb_up_F x f f (x 10 f) (show (10 : Nat) ≠ 11 by decide), fb_up_F x f f (x 10 f) (show (12 : Nat) ≠ 11 by decide), fb_up_F _ f f _ (show (12 : Nat) ≠ 10 by decide), fb_up_F x f f (x 10 f) (show (12 : Nat) ≠ 11 by decide)]
theorem mrec_eq {fr f : Nat} {x : fb_S} (h : ¬ mf_told x (nI f) fr = true) : mf_slow fr f x = if x 13 f + 1 = 16 then fb_up (fb_up (fb_up (fb_up x 13 f (x 13 f + 1)) 13 f 0) 12 f (15 * x 12 f / 16)) 10 f ((x 10 f + x 11 f + 1) / 2) else fb_up x 13 f (x 13 f + 1) := by
  simp only [mf_slow, if_neg h]
  rw [fb_up_same]
  rw [fb_up_F _ f f 0 (show (12 : Nat) ≠ 13 by decide), fb_up_F x f f _ (show (12 : Nat) ≠ 13 by decide), fb_up_F _ f f _ (show (10 : Nat) ≠ 12 by decide), fb_up_F _ f f _ (show (11 : Nat) ≠ 12 by decide), fb_up_F _ f f 0 (show (10 : Nat) ≠ 13 by decide), fb_up_F x f f _ (show (10 : Nat) ≠ 13 by decide), fb_up_F _ f f 0 (show (11 : Nat) ≠ 13 by decide), fb_up_F x f f _ (show (11 : Nat) ≠ 13 by decide)]
theorem one_le (e : Int32) : (if 1 < e then e else 1) = (if 1 ≤ e then e else 1) := by
  by_cases c : 1 < e
  · have : 1 ≤ e := by
      have a := Int32.lt_iff_toInt_lt.mp c
      exact Int32.le_iff_toInt_le.mpr (by omega)
    rw [if_pos c, if_pos this]
  · rw [if_neg c]
    by_cases d : 1 ≤ e
    · rw [if_pos d]
      have a := Int32.le_iff_toInt_le.mp d
      have b : ¬ (1 : Int32).toInt < e.toInt := fun h => c (Int32.lt_iff_toInt_lt.mpr h)
      exact Int32.toInt_inj.mp (by omega)
    · rw [if_neg d]
theorem told_iff {m : fb_S} {f : Int32} (n : Nat) : mf_told m f n = true ↔ ∃ k, k < n ∧ m 16 k = f ∧ m 18 k = 4 ∧ ¬ m 22 k = 0 ∧ m 21 k = m 4 0 - m 0 0 := by
  induction n with
  | zero => exact ⟨fun h => (by cases h), fun ⟨k, hk, _⟩ => by omega⟩
  | succ n ih =>
    simp only [mf_told]
    by_cases c : mf_told m f n = true
    · rw [if_pos c]
      obtain ⟨k, hk, h⟩ := ih.mp c
      exact ⟨fun _ => ⟨k, by omega, h⟩, fun _ => rfl⟩
    · rw [if_neg c]
      have no : ∀ k, k < n → ¬ (m 16 k = f ∧ m 18 k = 4 ∧ ¬ m 22 k = 0 ∧ m 21 k = m 4 0 - m 0 0) := fun k hk h => c (ih.mpr ⟨k, hk, h⟩)
      have red : (∃ k, k < n + 1 ∧ m 16 k = f ∧ m 18 k = 4 ∧ ¬ m 22 k = 0 ∧ m 21 k = m 4 0 - m 0 0) ↔ (m 16 n = f ∧ m 18 n = 4 ∧ ¬ m 22 n = 0 ∧ m 21 n = m 4 0 - m 0 0) := by
        constructor
        · rintro ⟨k, hk, h⟩
          by_cases e : k = n
          · subst e; exact h
          · exact absurd h (no k (by omega))
        · exact fun h => ⟨n, by omega, h⟩
      rw [red]
      by_cases c1 : m 16 n = f
      · rw [if_pos c1]
        by_cases c2 : m 18 n = 4
        · rw [if_pos c2]
          by_cases c3 : m 22 n = 0
          · rw [if_pos c3]
            exact ⟨fun h => (by cases h), fun h => absurd c3 h.2.2.1⟩
          · rw [if_neg c3]
            by_cases c4 : m 21 n = m 4 0 - m 0 0
            · rw [if_pos c4]
              exact ⟨fun _ => ⟨c1, c2, c3, c4⟩, fun _ => rfl⟩
            · rw [if_neg c4]
              exact ⟨fun h => (by cases h), fun h => absurd h.2.2.2 c4⟩
        · rw [if_neg c2]
          exact ⟨fun h => (by cases h), fun h => absurd h.2.1 c2⟩
      · rw [if_neg c1]
        exact ⟨fun h => (by cases h), fun h => absurd h.1 c1⟩
theorem told_c {m' m : fb_S} {f : Int32} {n : Nat} (h4 : m' 4 0 = m 4 0) (h0 : m' 0 0 = m 0 0) (h16 : ∀ j, m' 16 j = m 16 j) (h18 : ∀ j, m' 18 j = m 18 j) (h22 : ∀ j, m' 22 j = m 22 j) (h21 : ∀ j, m' 21 j = m 21 j) : mf_told m' f n = mf_told m f n := by
  induction n with
  | zero => rfl
  | succ n ih => simp only [mf_told, ih, h4, h0, h16, h18, h22, h21]
def rt_s (F : Nat) : Prop := F = 23 ∨ F = 24 ∨ F = 25 ∨ F = 26
def rt_m (F : Nat) : Prop := F = 10 ∨ F = 11 ∨ F = 12 ∨ F = 13
theorem rates_it {fl fr T x y z : Nat} {s m : fb_S} (h : MID fl fr T x y 0 z s m) : ∀ n, n ≤ fl → (∀ F j, (¬ rt_s F ∨ n ≤ j) → fb_it cf_rate1 n s F j = s F j) ∧ (∀ F j, (¬ rt_m F ∨ n ≤ j) → fb_it (mf_slow fr) n m F j = m F j) ∧ (∀ f, f < fl → fb_it cf_rate1 n s 23 f = fb_it (mf_slow fr) n m 10 f ∧ fb_it cf_rate1 n s 24 f = fb_it (mf_slow fr) n m 11 f ∧ fb_it cf_rate1 n s 25 f = fb_it (mf_slow fr) n m 12 f ∧ fb_it cf_rate1 n s 26 f = fb_it (mf_slow fr) n m 13 f) ∧ fb_okC fl fr (fb_it cf_rate1 n s) ∧ fb_okM fl fr T (fb_it (mf_slow fr) n m) := by
  obtain ⟨ok, okm, hfl, hfr, hT1, hTb, hpa, hW, hSm, -, Q, hG, hP, hF, hR, hK, hC, hO, hN, hE, hcr, hZ, hJ1, hJ2⟩ := h
  have h4 : m 4 0 = nI T := okm 4 0 rfl
  obtain ⟨d, hd, hd0⟩ := dl_of ok
  have hm0 : m 0 0 = nI (d + 1) := hG.1 ▸ hd0
  intro n
  induction n with
  | zero => exact fun _ => ⟨fun _ _ _ => rfl, fun _ _ _ => rfl, fun f hf => ⟨(hF f hf).2.1, (hF f hf).2.2.1, (hF f hf).2.2.2.1, (hF f hf).2.2.2.2.1⟩, ok, okm⟩
  | succ n ih =>
    intro hn
    obtain ⟨i1, i2, i3, i4, i5⟩ := ih (by omega)
    rw [fb_it_s, fb_it_s]
    generalize fb_it cf_rate1 n s = a at *
    generalize fb_it (mf_slow fr) n m = b at *
    have nf : n < fl := by omega
    obtain ⟨e23, e24, e25, e26⟩ := i3 n nf
    have ns : ∀ F, F ≠ 23 → F ≠ 24 → F ≠ 25 → F ≠ 26 → ¬ rt_s F := fun F a b c d h => by unfold rt_s at h; omega
    have nm : ∀ F, F ≠ 10 → F ≠ 11 → F ≠ 12 → F ≠ 13 → ¬ rt_m F := fun F a b c d h => by unfold rt_m at h; omega
    have bm : ∀ F, F ≠ 10 → F ≠ 11 → F ≠ 12 → F ≠ 13 → ∀ j, b F j = m F j := fun F q1 q2 q3 q4 j => i2 F j (Or.inl (nm F q1 q2 q3 q4))
    have as : ∀ F, F ≠ 23 → F ≠ 24 → F ≠ 25 → F ≠ 26 → ∀ j, a F j = s F j := fun F q1 q2 q3 q4 j => i1 F j (Or.inl (ns F q1 q2 q3 q4))
    -- told alike
    have ht : cf_was a (a 29 n) = mf_told b (nI n) fr := by
      obtain ⟨x, hx, ex, hbits⟩ := hJ2 n nf
      have e0 : a 0 0 = nI (d + 1) := (as 0 (by decide) (by decide) (by decide) (by decide) 0).trans hd0
      rw [as 29 (by decide) (by decide) (by decide) (by decide) n, ex, was_bit hx hd e0, told_c (bm 4 (by decide) (by decide) (by decide) (by decide) 0) (bm 0 (by decide) (by decide) (by decide) (by decide) 0) (bm 16 (by decide) (by decide) (by decide) (by decide)) (bm 18 (by decide) (by decide) (by decide) (by decide)) (bm 22 (by decide) (by decide) (by decide) (by decide)) (bm 21 (by decide) (by decide) (by decide) (by decide))]
      have key : x.testBit d = true ↔ mf_told m (nI n) fr = true := by
        rw [hbits d hd, told_iff fr]
        constructor
        · rintro ⟨k, hk, z1, z2, z3, z4, z5⟩
          refine ⟨k, hk, z1, z2, z3, ?_⟩
          rw [z5, h4, hm0, fb_sub (by omega)]
          congr 1
          omega
        · rintro ⟨k, hk, z1, z2, z3, z5⟩
          obtain ⟨w, w1, w0, w2⟩ := (hW k hk).2.2 z2
          rw [w1, h4, hm0] at z5
          by_cases c : d + 1 ≤ T
          · rw [fb_sub c] at z5
            have := (nI_eq (by omega) (by omega)).mp z5
            refine ⟨k, hk, z1, z2, z3, by omega, ?_⟩
            rw [w1]
            congr 1
            omega
          · exfalso
            have e1 : nI T = nI (w + (d + 1)) := by
              rw [← nI_add, z5]
              exact (Int32.sub_add_cancel _ _).symm
            have := (nI_eq (by omega) (by omega)).mp e1
            omega
      cases e1 : x.testBit d <;> cases e2 : mf_told m (nI n) fr <;> simp_all
    have upS : ∀ (G : Nat) (v : Int32) (y : fb_S), rt_s G → ∀ F j, (¬ rt_s F ∨ n + 1 ≤ j) → fb_up y G n v F j = y F j := fun G v y hG F j hFj => by
      by_cases e : F = G
      · subst e
        exact fb_up_i _ _ _ _ (by rcases hFj with q | q; exact absurd hG q; omega)
      · exact fb_up_F _ _ _ _ e
    have upM : ∀ (G : Nat) (v : Int32) (y : fb_S), rt_m G → ∀ F j, (¬ rt_m F ∨ n + 1 ≤ j) → fb_up y G n v F j = y F j := fun G v y hG F j hFj => by
      by_cases e : F = G
      · subst e
        exact fb_up_i _ _ _ _ (by rcases hFj with q | q; exact absurd hG q; omega)
      · exact fb_up_F _ _ _ _ e
    have r23 : rt_s 23 := Or.inl rfl
    have r24 : rt_s 24 := Or.inr (Or.inl rfl)
    have r25 : rt_s 25 := Or.inr (Or.inr (Or.inl rfl))
    have r26 : rt_s 26 := Or.inr (Or.inr (Or.inr rfl))
    have r10 : rt_m 10 := Or.inl rfl
    have r11 : rt_m 11 := Or.inr (Or.inl rfl)
    have r12 : rt_m 12 := Or.inr (Or.inr (Or.inl rfl))
    have r13 : rt_m 13 := Or.inr (Or.inr (Or.inr rfl))
    have wk : ∀ {F j : Nat}, (¬ rt_s F ∨ n + 1 ≤ j) → (¬ rt_s F ∨ n ≤ j) := fun h => h.imp id (fun q => by omega)
    have wkm : ∀ {F j : Nat}, (¬ rt_m F ∨ n + 1 ≤ j) → (¬ rt_m F ∨ n ≤ j) := fun h => h.imp id (fun q => by omega)
    unfold cf_rate1
    rw [ht]
    by_cases ct : mf_told b (nI n) fr = true
    · rw [mslow_eq ct]
      have e1 : ¬ fb_b (mf_told b (nI n) fr) = 0 := by rw [ct]; decide
      unfold cf_adjust
      rw [if_neg e1, slow_eq]
      refine ⟨fun F j h => ?_, fun F j h => ?_, fun f hf => ?_, ?_, ?_⟩
      · rw [upS 26 _ _ r26 F j h, upS 25 _ _ r25 F j h, upS 23 _ _ r23 F j h, upS 24 _ _ r24 F j h]
        exact i1 F j (wk h)
      · rw [upM 13 _ _ r13 F j h, upM 12 _ _ r12 F j h, upM 10 _ _ r10 F j h, upM 11 _ _ r11 F j h]
        exact i2 F j (wkm h)
      · by_cases e : f = n
        · subst e
          refine ⟨?_, ?_, ?_, ?_⟩
          · rw [fb_up_F _ _ _ _ (by decide), fb_up_F _ _ _ _ (by decide), fb_up_same, fb_up_F _ _ _ _ (by decide), fb_up_F _ _ _ _ (by decide), fb_up_same, e23, e25]
            exact one_le _
          · rw [fb_up_F _ _ _ _ (by decide), fb_up_F _ _ _ _ (by decide), fb_up_F _ _ _ _ (by decide), fb_up_same, fb_up_F _ _ _ _ (by decide), fb_up_F _ _ _ _ (by decide), fb_up_F _ _ _ _ (by decide), fb_up_same, e23]
          · rw [fb_up_F _ _ _ _ (by decide), fb_up_same, fb_up_F _ _ _ _ (by decide), fb_up_same, e25]
          · rw [fb_up_same, fb_up_same]
        · simp only [fb_up_i _ _ _ _ e]
          exact i3 f hf
      · exact fb_okC_up (fb_okC_up (fb_okC_up (fb_okC_up i4 (fun _ => i4 23 _ nf)) (fun _ => fb_slow1 (i4 23 _ nf) (i4 25 _ nf))) (fun _ => fb_slow2 (i4 25 _ nf))) trivial
      · refine fb_okM_up (fb_okM_up (fb_okM_up (fb_okM_up i5 (fun _ => i5 10 _ nf)) (fun _ => ?_)) (fun _ => fb_slow2 (i5 12 _ nf))) trivial
        rw [← one_le]
        exact fb_slow1 (i5 10 _ nf) (i5 12 _ nf)
    · rw [mrec_eq ct]
      have e1 : fb_b (mf_told b (nI n) fr) = 0 := by rw [Bool.eq_false_iff.mpr ct]; rfl
      unfold cf_adjust
      rw [if_pos e1]
      simp only [fb_up_same]
      rw [e26]
      by_cases c16 : b 13 n + 1 = 16
      · rw [if_pos c16, if_pos c16, rec_eq, fb_up_F a n n _ (show (25 : Nat) ≠ 26 by decide), fb_up_F a n n _ (show (23 : Nat) ≠ 26 by decide), fb_up_F a n n _ (show (24 : Nat) ≠ 26 by decide)]
        refine ⟨fun F j h => ?_, fun F j h => ?_, fun f hf => ?_, ?_, ?_⟩
        · rw [upS 23 _ _ r23 F j h, upS 25 _ _ r25 F j h, upS 26 _ _ r26 F j h, upS 26 _ _ r26 F j h]
          exact i1 F j (wk h)
        · rw [upM 10 _ _ r10 F j h, upM 12 _ _ r12 F j h, upM 13 _ _ r13 F j h, upM 13 _ _ r13 F j h]
          exact i2 F j (wkm h)
        · by_cases e : f = n
          · subst e
            refine ⟨?_, ?_, ?_, ?_⟩
            · rw [fb_up_same, fb_up_same, e23, e24]
            · rw [fb_up_F _ _ _ _ (by decide), fb_up_F _ _ _ _ (by decide), fb_up_F _ _ _ _ (by decide), fb_up_F _ _ _ _ (by decide), fb_up_F _ _ _ _ (by decide), fb_up_F _ _ _ _ (by decide), fb_up_F _ _ _ _ (by decide), fb_up_F _ _ _ _ (by decide), e24]
            · rw [fb_up_F _ _ _ _ (by decide), fb_up_same, fb_up_F _ _ _ _ (by decide), fb_up_same, e25]
            · rw [fb_up_F _ _ _ _ (by decide), fb_up_F _ _ _ _ (by decide), fb_up_same, fb_up_F _ _ _ _ (by decide), fb_up_F _ _ _ _ (by decide), fb_up_same]
          · simp only [fb_up_i _ _ _ _ e]
            exact i3 f hf
        · exact fb_okC_up (fb_okC_up (fb_okC_up (fb_okC_up i4 trivial) trivial) (fun _ => fb_rec1 (i4 25 _ nf))) (fun _ => fb_rec2 (i4 23 _ nf) (i4 24 _ nf))
        · exact fb_okM_up (fb_okM_up (fb_okM_up (fb_okM_up i5 trivial) trivial) (fun _ => fb_rec1 (i5 12 _ nf))) (fun _ => fb_rec2 (i5 10 _ nf) (i5 11 _ nf))
      · rw [if_neg c16, if_neg c16]
        refine ⟨fun F j h => ?_, fun F j h => ?_, fun f hf => ?_, fb_okC_up i4 trivial, fb_okM_up i5 trivial⟩
        · rw [upS 26 _ _ r26 F j h]
          exact i1 F j (wk h)
        · rw [upM 13 _ _ r13 F j h]
          exact i2 F j (wkm h)
        · by_cases e : f = n
          · subst e
            rw [fb_up_F _ _ _ _ (by decide), fb_up_F _ _ _ _ (by decide), fb_up_F _ _ _ _ (by decide), fb_up_F _ _ _ _ (by decide), fb_up_F _ _ _ _ (by decide), fb_up_F _ _ _ _ (by decide), fb_up_same, fb_up_same]
            exact ⟨e23, e24, e25, rfl⟩
          · simp only [fb_up_i _ _ _ _ e]
            exact i3 f hf
