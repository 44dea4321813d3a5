/-! the phase of rates keeps the coupling -/
theorem ph2 {fl fr T x y z : Nat} {s m : fb_S} (h : MID fl fr T x y 0 z s m) : MID fl fr T x y 0 z (fb_it cf_rate1 fl s) (fb_it (mf_slow fr) fl m) := by
  obtain ⟨i1, i2, i3, i4, i5⟩ := rates_it h fl (Nat.le_refl _)
  obtain ⟨ok, okm, hfl, hfr, hT1, hTb, hpa, hW, hSm, ⟨o, o1, o2⟩, Q, hG, hP, hF, hR, hK, hC, hO, hN, hE, hcr, hZ, hJ1, hJ2⟩ := h
  generalize fb_it cf_rate1 fl s = s' at *
  generalize fb_it (mf_slow fr) fl m = m' at *
  have q3 : ∀ F, (F ≠ 23 ∧ F ≠ 24 ∧ F ≠ 25 ∧ F ≠ 26) → ∀ j, s' F j = s F j := fun F a j => i1 F j (Or.inl (fun h => by unfold rt_s at h; omega))
  have hm : ∀ F, (F ≠ 10 ∧ F ≠ 11 ∧ F ≠ 12 ∧ F ≠ 13) → ∀ j, m' F j = m F j := fun F a j => i2 F j (Or.inl (fun h => by unfold rt_m at h; omega))
  have nd : ∀ f i, mf_node m' f i = mf_node m f i := node_c (hm 7 (by decide)) (hm 8 (by decide))
  have en : ∀ f, mf_end m' f = mf_end m f := end_c (hm 7 (by decide)) (hm 8 (by decide))
  have elc : ∀ k, fb_lc s' k = fb_lc s k := fun k => lc_c (q3 38 (by decide) k) (loc_c (q3 33 (by decide)) (q3 36 (by decide) k) (q3 41 (by decide) k)) (prk_c (q3 22 (by decide)) (q3 36 (by decide) k))
  have ehb : ∀ k, fb_hb s' k = fb_hb s k := fun k => hb_c (q3 38 (by decide) k) (q3 42 (by decide) k) (prk_c (q3 22 (by decide)) (q3 36 (by decide) k))
  have eln : ∀ k, fb_ln s' k = fb_ln s k := fun k => ln_c (q3 37 (by decide) k)
  refine ⟨i4, i5, hfl, hfr, hT1, hTb, fun i hi => ?_, fun k hk => ?_, fun f hf => ?_, ⟨o, by rw [hm 5 (by decide)]; exact o1, o2⟩, Q, ?_, ?_, ?_, ?_, ?_, ⟨?_, ?_, ?_, ?_⟩, ?_, ?_, ?_, ?_, ?_, ?_, ?_⟩
  · rw [q3 16 (by decide), paused_c (hm 0 (by decide) 0) (hm 4 (by decide) 0) _ _ (hm 27 (by decide) _)]
    exact hpa i hi
  · rw [hm 18 (by decide), hm 21 (by decide), q3 0 (by decide)]
    exact hW k hk
  · simp only [q3 28 (by decide), hm 16 (by decide), hm 18 (by decide), hm 22 (by decide), hm 21 (by decide)]
    exact hSm f hf
  · simp only [cp_G, q3 0 (by decide), q3 1 (by decide), q3 2 (by decide), q3 3 (by decide), q3 6 (by decide), q3 7 (by decide), hm 0 (by decide), hm 1 (by decide), hm 2 (by decide), hm 3 (by decide), hm 4 (by decide), hm 25 (by decide)]
    exact hG
  · intro i hi
    rw [q3 12 (by decide), q3 17 (by decide), q3 17 (by decide), q3 14 (by decide), hm 23 (by decide), hm 24 (by decide), hm 24 (by decide), hm 26 (by decide)]
    exact hP i hi
  · intro f hf
    obtain ⟨a, b, c, d⟩ := i3 f hf
    rw [q3 22 (by decide), q3 27 (by decide), hm 9 (by decide), hm 14 (by decide)]
    exact ⟨(hF f hf).1, a, b, c, d, (hF f hf).2.2.2.2.2⟩
  · intro f hf
    simp only [q3 34 (by decide), q3 33 (by decide), nd, en]
    exact hR f hf
  · intro k hk
    simp only [cp_way, q3 36 (by decide), q3 37 (by decide), q3 38 (by decide), q3 40 (by decide), q3 35 (by decide), q3 39 (by decide), q3 41 (by decide), q3 34 (by decide), q3 42 (by decide), q3 33 (by decide), q3 43 (by decide), hm 16 (by decide), hm 17 (by decide), hm 18 (by decide), hm 22 (by decide), hm 19 (by decide), hm 21 (by decide), hm 0 (by decide), nd]
    exact hK k hk
  · exact ci_q_congr hC.1 (q3 19 (by decide)) (q3 20 (by decide)) (q3 44 (by decide)) (fun k _ => elc k)
  · intro j hj
    rw [q3 21 (by decide), hC.2.1 j hj, ci_sum_congr (fun k _ => ⟨elc k, eln k⟩)]
  · intro i hi k hk
    rw [q3 13 (by decide), hC.2.2.1 i hi k hk, elc]
  · intro j hj
    rw [q3 18 (by decide), hC.2.2.2 j hj, ci_sum_congr (fun k _ => ⟨ehb k, eln k⟩)]
  · simp only [cp_O, hm 20 (by decide), hm 5 (by decide), q3 43 (by decide)]
    exact hO
  · intro f hf
    rw [q3 30 (by decide), q3 31 (by decide), q3 32 (by decide), count_c (fun j _ => hm 16 (by decide) j) (fun j _ => hm 18 (by decide) j), count_c (fun j _ => hm 16 (by decide) j) (fun j _ => hm 18 (by decide) j), last_c (hm 6 (by decide) 0) (fun j _ => hm 16 (by decide) j) (fun j _ => hm 18 (by decide) j) (fun j _ => hm 21 (by decide) j) (by omega)]
    exact hN f hf
  · simp only [cp_E, hm 7 (by decide), hm 8 (by decide)]
    exact hE
  · intro j hj
    rw [q3 17 (by decide), q3 12 (by decide)]
    exact hcr j hj
  · refine ⟨fun f hf => ?_, fun k hk => ?_⟩
    · rw [i2 13 f (Or.inr hf), hm 14 (by decide)]
      exact hZ.1 f hf
    · rw [hm 22 (by decide)]
      exact hZ.2 k hk
  · intro i hi
    simp only [q3 15 (by decide), hm 27 (by decide)]
    exact hJ1 i hi
  · intro f hf
    simp only [q3 29 (by decide), hm 16 (by decide), hm 18 (by decide), hm 22 (by decide), hm 21 (by decide)]
    exact hJ2 f hf
