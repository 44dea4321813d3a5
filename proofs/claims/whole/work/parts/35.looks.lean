/-! the calls that only look -/
theorem frameAt_spec {fl fr T : Nat} {s m : fb_S} (ok : fb_okC fl fr s) (okm : fb_okM fl fr T m) (hfr : fr ≤ 100) (k : Int32) : (mf_isK m k = true ∧ ∃ j, j < fr ∧ k = nI j ∧ cf_frameAt s k = nI j) ∨ (¬ mf_isK m k = true ∧ cf_frameAt s k = -1) := by
  have h5 : s 5 0 = nI fr := ok 5 0 rfl
  have h15 : m 15 0 = nI fr := okm 15 0 rfl
  unfold mf_isK cf_frameAt
  rw [h5, h15]
  by_cases c0 : k < 0
  · rw [if_pos c0, if_pos c0]
    exact Or.inr ⟨by decide, rfl⟩
  · rw [if_neg c0, if_neg c0]
    by_cases c1 : nI fr ≤ k
    · rw [if_pos c1, if_pos c1]
      exact Or.inr ⟨by decide, rfl⟩
    · rw [if_neg c1, if_neg c1]
      obtain ⟨j, hj, rfl⟩ := nI_of c0
      have hjf : j < fr := by
        rcases Nat.lt_or_ge j fr with q | q
        · exact q
        · exact absurd (nI_le q hj) c1
      refine Or.inl ⟨rfl, j, hjf, rfl, ?_⟩
      rw [fb_nI hj]
      exact (ok 9 j).trans (if_pos hjf)
theorem flowAt_spec {fl fr T : Nat} {s m : fb_S} (ok : fb_okC fl fr s) (okm : fb_okM fl fr T m) (hfl : fl ≤ 12) (k : Int32) : (mf_isF m k = true ∧ ∃ j, j < fl ∧ k = nI j ∧ cf_flowAt s k = nI j) ∨ (¬ mf_isF m k = true ∧ cf_flowAt s k = -1) := by
  have h5 : s 4 0 = nI fl := ok 4 0 rfl
  have h15 : m 6 0 = nI fl := okm 6 0 rfl
  unfold mf_isF cf_flowAt
  rw [h5, h15]
  by_cases c0 : k < 0
  · rw [if_pos c0, if_pos c0]
    exact Or.inr ⟨by decide, rfl⟩
  · rw [if_neg c0, if_neg c0]
    by_cases c1 : nI fl ≤ k
    · rw [if_pos c1, if_pos c1]
      exact Or.inr ⟨by decide, rfl⟩
    · rw [if_neg c1, if_neg c1]
      obtain ⟨j, hj, rfl⟩ := nI_of c0
      have hjf : j < fl := by
        rcases Nat.lt_or_ge j fl with q | q
        · exact q
        · exact absurd (nI_le q hj) c1
      refine Or.inl ⟨rfl, j, hjf, rfl, ?_⟩
      rw [fb_nI hj]
      exact (ok 8 j).trans (if_pos hjf)
theorem co_K {fl fr T : Nat} {s m : fb_S} (h : CO fl fr T s m) : cp_K fr s m := by
  obtain ⟨-, -, -, -, -, Q, -, -, -, -, hK, -⟩ := h
  exact hK
theorem co_state {fl fr T : Nat} {s m : fb_S} (h : CO fl fr T s m) (k : Int32) : cf_qK s 38 k = mf_state m k := by
  have hK := co_K h
  obtain ⟨ok, okm, hfl, hfr, -, -⟩ := h
  unfold cf_qK mf_state
  rcases frameAt_spec ok okm hfr k with ⟨h1, j, hj, rfl, h2⟩ | ⟨h1, h2⟩
  · rw [h2, if_neg (nI_pos (by omega)), if_pos h1, fb_nI (by omega)]
    exact (hK j hj).2.2.1
  · rw [h2, if_pos fb_m1, if_neg h1]
theorem co_node {fl fr T : Nat} {s m : fb_S} (h : CO fl fr T s m) (k : Int32) : cf_qK s 39 k = mf_nodeQ m k := by
  have hK := co_K h
  obtain ⟨ok, okm, hfl, hfr, -, -⟩ := h
  unfold cf_qK mf_nodeQ
  rcases frameAt_spec ok okm hfr k with ⟨h1, j, hj, rfl, h2⟩ | ⟨h1, h2⟩
  · rw [h2, if_neg (nI_pos (by omega)), if_pos h1, fb_nI (by omega)]
    exact (hK j hj).2.2.2.2.2.1
  · rw [h2, if_pos fb_m1, if_neg h1]
theorem co_marked {fl fr T : Nat} {s m : fb_S} (h : CO fl fr T s m) (k : Int32) : cf_qM s k = mf_marked m k := by
  have hK := co_K h
  obtain ⟨ok, okm, hfl, hfr, -, -⟩ := h
  unfold cf_qM mf_marked
  rcases frameAt_spec ok okm hfr k with ⟨h1, j, hj, rfl, h2⟩ | ⟨h1, h2⟩
  · rw [h2, if_neg (nI_pos (by omega)), if_pos h1, fb_nI (by omega), (hK j hj).2.2.2.1]
  · rw [h2, if_pos fb_m1, if_neg h1]
theorem co_Fl {fl fr T : Nat} {s m : fb_S} (h : CO fl fr T s m) : cp_F fl s m ∧ cp_N fl fr s m := by
  obtain ⟨-, -, -, -, -, Q, -, -, hF, -, -, -, -, -, -, -, hN, -⟩ := h
  exact ⟨hF, hN⟩
theorem co_rate {fl fr T : Nat} {s m : fb_S} (h : CO fl fr T s m) (f : Int32) : cf_qF s 23 f 0 = mf_rate m 10 f := by
  have hF := (co_Fl h).1
  obtain ⟨ok, okm, hfl, hfr, -, -⟩ := h
  unfold cf_qF mf_rate
  rcases flowAt_spec ok okm hfl f with ⟨h1, j, hj, rfl, h2⟩ | ⟨h1, h2⟩
  · rw [h2, if_neg (nI_pos (by omega)), if_pos h1, fb_nI (by omega)]
    exact (hF j hj).2.1
  · rw [h2, if_pos fb_m1, if_neg h1]
theorem co_alpha {fl fr T : Nat} {s m : fb_S} (h : CO fl fr T s m) (f : Int32) : cf_qF s 25 f 0 = mf_rate m 12 f := by
  have hF := (co_Fl h).1
  obtain ⟨ok, okm, hfl, hfr, -, -⟩ := h
  unfold cf_qF mf_rate
  rcases flowAt_spec ok okm hfl f with ⟨h1, j, hj, rfl, h2⟩ | ⟨h1, h2⟩
  · rw [h2, if_neg (nI_pos (by omega)), if_pos h1, fb_nI (by omega)]
    exact (hF j hj).2.2.2.1
  · rw [h2, if_pos fb_m1, if_neg h1]
theorem co_received {fl fr T : Nat} {s m : fb_S} (h : CO fl fr T s m) (f : Int32) : cf_qF s 30 f 0 = mf_cnt m fr f 4 := by
  have hN := (co_Fl h).2
  obtain ⟨ok, okm, hfl, hfr, -, -⟩ := h
  unfold cf_qF mf_cnt
  rcases flowAt_spec ok okm hfl f with ⟨h1, j, hj, rfl, h2⟩ | ⟨h1, h2⟩
  · rw [h2, if_neg (nI_pos (by omega)), if_pos h1, fb_nI (by omega)]
    exact (hN j hj).1
  · rw [h2, if_pos fb_m1, if_neg h1]
theorem co_dropped {fl fr T : Nat} {s m : fb_S} (h : CO fl fr T s m) (f : Int32) : cf_qF s 31 f 0 = mf_cnt m fr f 5 := by
  have hN := (co_Fl h).2
  obtain ⟨ok, okm, hfl, hfr, -, -⟩ := h
  unfold cf_qF mf_cnt
  rcases flowAt_spec ok okm hfl f with ⟨h1, j, hj, rfl, h2⟩ | ⟨h1, h2⟩
  · rw [h2, if_neg (nI_pos (by omega)), if_pos h1, fb_nI (by omega)]
    exact (hN j hj).2.1
  · rw [h2, if_pos fb_m1, if_neg h1]
theorem co_last {fl fr T : Nat} {s m : fb_S} (h : CO fl fr T s m) (f : Int32) : cf_qF s 32 f (-1) = mf_last m f fr := by
  have hN := (co_Fl h).2
  obtain ⟨ok, okm, hfl, hfr, -, -⟩ := h
  unfold cf_qF
  rcases flowAt_spec ok okm hfl f with ⟨h1, j, hj, rfl, h2⟩ | ⟨h1, h2⟩
  · rw [h2, if_neg (nI_pos (by omega)), fb_nI (by omega)]
    exact (hN j hj).2.2
  · rw [h2, if_pos fb_m1, fb_last0 h1]
theorem tb_gi : ∀ i, i < 32 → fb_n (14 * fb_tF i + fb_tT i) = fb_g i := by decide +kernel
theorem co_asks {fl fr T : Nat} {s m : fb_S} (h : CO fl fr T s m) (u v : Int32) : cf_qP s 14 u v = mf_asks m u v := by
  obtain ⟨ok, okm, hfl, hfr, -, Q, -, hP, -⟩ := h
  unfold cf_qP mf_asks
  rcases pb_spec ok u v with ⟨h1, h2⟩ | ⟨i, hi, rfl, rfl, h1, h2⟩
  · rw [h2, if_pos fb_m1, if_neg h1]
  · rw [h2, if_neg (nI_pos (by omega)), if_pos h1, fb_nI (by omega), tb_gi i hi, (hP i hi).2.2.2]
theorem co_paused {fl fr T : Nat} {s m : fb_S} (h : CO fl fr T s m) (u v : Int32) : cf_qP s 16 u v = mf_pausedQ m u v := by
  obtain ⟨ok, okm, hfl, hfr, -, Q, -, -, -, -, -, -, -, -, hA, -⟩ := h
  unfold cf_qP mf_pausedQ
  rcases pb_spec ok u v with ⟨h1, h2⟩ | ⟨i, hi, rfl, rfl, h1, h2⟩
  · rw [h2, if_pos fb_m1, if_neg h1]
  · rw [h2, if_neg (nI_pos (by omega)), if_pos h1, fb_nI (by omega), (hA i hi).1]
    by_cases c : mf_paused m (fb_tF i) (fb_tT i) = true
    · rw [if_pos c, c, if_neg (by decide)]
    · rw [if_neg c, Bool.eq_false_iff.mpr c, if_pos (by decide)]
section LOOK
variable {fl fr : Nat} {s m : fb_S}
/-- the priority of a frame as a number -/
theorem cp_pr (ok : fb_okC fl fr s) (k : Nat) : ∃ q, q < 2 ∧ fb_prk s k = nI q := by
  obtain ⟨q, hq, e⟩ := vp_in_of (fb_v01 (show fb_prk s k = 0 ∨ fb_prk s k = 1 from ok 22 _)) (by decide)
  exact ⟨q, hq, e⟩
theorem lc_q (ok : fb_okC fl fr s) (hfl : fl ≤ 12) (hR : cp_R fl s m) (hK : cp_K fr s m) {k i q : Nat} (hk : k < fr) (hi : i < 32) (hq : q < 2) : fb_lc s k = 3 * i + q ↔ (s 38 k = 1 ∧ fb_prk s k = nI q ∧ fb_loc s k = nI i) := by
  have e38 := (hK k hk).2.2.1
  obtain ⟨p, hp, ep⟩ := cp_pr ok k
  have loc : m 18 k < 4 → ∃ i0, i0 < 32 ∧ fb_loc s k = nI i0 := fun h4 => by
    obtain ⟨h, hw⟩ := (hK k hk).2.2.2.2.2.2.2 h4
    obtain ⟨i0, hi0, e0, -⟩ := cp_at ok hfl hR hK hk hw
    exact ⟨i0, hi0, e0⟩
  unfold fb_lc
  by_cases c1 : s 38 k = 1
  · obtain ⟨i0, hi0, e0⟩ := loc (by rw [← e38, c1]; decide)
    rw [if_pos c1, e0, ep, fb_nI (by omega), fb_nI (by omega), nI_eq (by omega) (by omega), nI_eq (by omega) (by omega)]
    constructor
    · intro h
      exact ⟨c1, by omega, by omega⟩
    · rintro ⟨-, h1, h2⟩
      omega
  · rw [if_neg c1]
    by_cases c2 : s 38 k = 2
    · rw [if_pos c2]
      exact ⟨fun h => by omega, fun h => absurd h.1 c1⟩
    · rw [if_neg c2]
      by_cases c3 : s 38 k = 3
      · rw [if_pos c3]
        exact ⟨fun h => by omega, fun h => absurd h.1 c1⟩
      · rw [if_neg c3]
        exact ⟨fun h => by omega, fun h => absurd h.1 c1⟩
theorem hb_q (ok : fb_okC fl fr s) (hK : cp_K fr s m) {k i q : Nat} (hk : k < fr) (hi : i < 32) (hq : q < 2) : fb_hb s k = 2 * i + q ↔ ((m 18 k = 1 ∨ m 18 k = 2) ∧ fb_prk s k = nI q ∧ s 42 k = nI i) := by
  have e38 := (hK k hk).2.2.1
  obtain ⟨p, hp, ep⟩ := cp_pr ok k
  rw [← e38]
  unfold fb_hb
  by_cases c0 : s 42 k < 0
  · rw [if_pos c0]
    refine ⟨fun h => by omega, fun h => ?_⟩
    rw [h.2.2] at c0
    exact absurd c0 (nI_pos (by omega))
  · rw [if_neg c0]
    obtain ⟨i0, hi0, e0⟩ : ∃ i0, i0 < 32 ∧ s 42 k = nI i0 := by
      rcases ok 42 k with e | e
      · rw [e] at c0
        exact absurd fb_m1 c0
      · exact vp_in_of e (by decide)
    have key : 2 * fb_n (s 42 k) + fb_n (fb_prk s k) = 2 * i + q ↔ (fb_prk s k = nI q ∧ s 42 k = nI i) := by
      rw [e0, ep, fb_nI (by omega), fb_nI (by omega), nI_eq (by omega) (by omega), nI_eq (by omega) (by omega)]
      constructor
      · intro h
        exact ⟨by omega, by omega⟩
      · rintro ⟨h1, h2⟩
        omega
    by_cases c1 : s 38 k = 1
    · rw [if_pos c1, key]
      exact ⟨fun h => ⟨Or.inl c1, h⟩, fun h => h.2⟩
    · rw [if_neg c1]
      by_cases c2 : s 38 k = 2
      · rw [if_pos c2, key]
        exact ⟨fun h => ⟨Or.inr c2, h⟩, fun h => h.2⟩
      · rw [if_neg c2]
        exact ⟨fun h => by omega, fun h => absurd h.1 (by rintro (a | a); exact c1 a; exact c2 a)⟩
theorem cp_q_sum (ok : fb_okC fl fr s) (hfl : fl ≤ 12) (hR : cp_R fl s m) (hK : cp_K fr s m) {i q : Nat} (hi : i < 32) (hq : q < 2) : cp_q s i (nI q) fr = ci_sum (fb_lc s) (fb_ln s) (3 * i + q) fr := by
  refine fb_sum_congr (fun k hk => ?_)
  have h := lc_q ok hfl hR hK hk hi hq
  by_cases c : fb_lc s k = 3 * i + q
  · rw [if_pos c, if_pos (h.mp c)]
  · rw [if_neg c, if_neg (fun h2 => c (h.mpr h2))]
theorem cp_h_sum (ok : fb_okC fl fr s) (hK : cp_K fr s m) {i q : Nat} (hi : i < 32) (hq : q < 2) : cp_h s m i (nI q) fr = ci_sum (fb_hb s) (fb_ln s) (2 * i + q) fr := by
  refine fb_sum_congr (fun k hk => ?_)
  have h := hb_q ok hK hk hi hq
  by_cases c : fb_hb s k = 2 * i + q
  · rw [if_pos c, if_pos (h.mp c)]
  · rw [if_neg c, if_neg (fun h2 => c (h.mpr h2))]
/-- nobody is held for a port that ends at a host -/
theorem hb_host (ok : fb_okC fl fr s) (hfl : fl ≤ 12) (hR : cp_R fl s m) (hK : cp_K fr s m) {k i : Nat} (hk : k < fr) (hi : i < 32) (hs : m 18 k = 1 ∨ m 18 k = 2) (hc : s 42 k = nI i) : 8 ≤ fb_tT i := by
  have h4 : m 18 k < 4 := by rcases hs with e | e <;> rw [e] <;> decide
  have h3 : m 18 k < 3 := by rcases hs with e | e <;> rw [e] <;> decide
  obtain ⟨h, hh4, h19, h41, hlt, h42, -⟩ := (hK k hk).2.2.2.2.2.2.2 h4
  obtain ⟨f, hf, e, en⟩ := cp_flow ok hfl hk
  have h42 := h42 h3
  rw [en] at hlt h42
  rcases Nat.eq_zero_or_pos h with rfl | hp
  · rw [if_pos rfl, hc] at h42
    exact absurd (h42 ▸ fb_m1) (nI_pos (by omega))
  · obtain ⟨g, rfl⟩ : ∃ g, h = g + 1 := ⟨h - 1, by omega⟩
    rw [if_neg (by omega), Nat.add_sub_cancel] at h42
    obtain ⟨hl0, hr⟩ := hR f hf
    have hltg : nI g < s 34 f := by
      have a := Int32.lt_iff_toInt_lt.mp hlt
      refine Int32.lt_iff_toInt_lt.mpr ?_
      rw [nI_toInt (by omega)] at a ⊢
      omega
    obtain ⟨j, hj, e1, e2, e3, e4, -⟩ := hr g (by omega) hltg
    have : j = i := (nI_eq (by omega) (by omega)).mp (e1.symm.trans (h42.symm.trans hc))
    subst this
    exact e4.mpr hlt
end LOOK
theorem prio_iff (q : Int32) : cf_prio q = true ↔ (q = 0 ∨ q = 1) := by
  constructor
  · exact fb_prio01
  · rintro (rfl | rfl) <;> decide
theorem co_queued {fl fr T : Nat} {s m : fb_S} (h : CO fl fr T s m) (u v q : Int32) : cf_queued s u v q = mf_queued m fr u v q := by
  obtain ⟨ok, okm, hfl, hfr, -, Q, -, -, hF, hR, hK, hC, -⟩ := h
  unfold cf_queued mf_queued
  rcases pb_spec ok u v with ⟨h1, h2⟩ | ⟨i, hi, rfl, rfl, h1, h2⟩
  · rw [h2, if_pos fb_m1, if_neg h1]
  · rw [h2, if_neg (nI_pos (by omega)), if_pos h1, fb_nI (by omega)]
    have key : ∀ p, p < 2 → s 21 (3 * i + p) = mf_qlen m (fb_tF i) (fb_tT i) (nI p) fr := fun p hp => by
      rw [hC.2.1 (3 * i + p) (by omega), cp_qlen ok hfl hF hR hK (nI p) hi fr (Nat.le_refl _), cp_q_sum ok hfl hR hK hi hp]
    by_cases c0 : q = 0
    · subst c0
      rw [if_pos (by decide), if_pos rfl]
      exact key 0 (by omega)
    · rw [if_neg c0]
      by_cases c1 : q = 1
      · subst c1
        rw [if_pos (by decide), if_pos rfl]
        exact key 1 (by omega)
      · rw [if_neg c1, if_neg (fun hp => ((prio_iff q).mp hp).elim c0 c1)]
theorem fb_sum0 {g : Nat → Nat} {n : Nat} (h : ∀ k, k < n → g k = 0) : fb_sum g n = 0 := by
  induction n with
  | zero => rfl
  | succ n ih => simp only [fb_sum]; rw [ih (fun k hk => h k (by omega)), h n (by omega)]
theorem co_held {fl fr T : Nat} {s m : fb_S} (h : CO fl fr T s m) (u v q : Int32) : cf_held s u v q = mf_held m fr u v q := by
  obtain ⟨ok, okm, hfl, hfr, -, Q, -, -, hF, hR, hK, hC, -⟩ := h
  unfold cf_held mf_held
  rcases pb_spec ok u v with ⟨h1, h2⟩ | ⟨i, hi, rfl, rfl, h1, h2⟩
  · rw [h2, if_pos fb_m1, if_neg h1]
  · rw [h2, if_neg (nI_pos (by omega)), if_pos h1, fb_nI (by omega)]
    have key : ∀ p, p < 2 → s 18 (2 * i + p) = if 8 ≤ fb_tT i then mf_holds m (fb_tF i) (fb_tT i) (nI p) fr else 0 := fun p hp => by
      rw [hC.2.2.2 (2 * i + p) (by omega)]
      by_cases c : 8 ≤ fb_tT i
      · rw [if_pos c, cp_holds ok hfl hF hR hK (m' := m) (fun _ _ _ _ => rfl) (fun _ _ x => x) (nI p) hi fr (Nat.le_refl _), cp_h_sum ok hK hi hp]
      · rw [if_neg c]
        have : ci_sum (fb_hb s) (fb_ln s) (2 * i + p) fr = 0 := fb_sum0 (fun k hk => if_neg (fun e => by
          obtain ⟨a, -, b⟩ := (hb_q ok hK hk hi hp).mp e
          exact c (hb_host ok hfl hR hK hk hi a b)))
        rw [this]
        rfl
    by_cases c : cf_prio q = true
    · rw [if_pos c]
      rcases (prio_iff q).mp c with rfl | rfl
      · rw [if_neg (by decide), if_pos (by decide)]
        exact key 0 (by omega)
      · rw [if_neg (by decide), if_pos (by decide)]
        exact key 1 (by omega)
    · rw [if_neg c]
      by_cases c0 : q < 0
      · rw [if_pos c0]
      · rw [if_neg c0]
        by_cases c1 : q ≤ 1
        · exfalso
          refine c ((prio_iff q).mpr (fb_01 c0 ?_))
          exact Int32.not_lt.mpr c1
        · rw [if_neg c1]
