/-! choose: what is ready -/
theorem cpC_same {fr : Nat} {s s' : fb_S} {Q : Nat → List Nat} (h : cp_C fr s Q) (hs : ∀ F, (F ≠ 12 ∧ F ≠ 17) → ∀ j, s' F j = s F j) : cp_C fr s' Q := by
  have elc : ∀ k, fb_lc s' k = fb_lc s k := fun k => lc_c (hs 38 (by decide) k) (loc_c (hs 33 (by decide)) (hs 36 (by decide) k) (hs 41 (by decide) k)) (prk_c (hs 22 (by decide)) (hs 36 (by decide) k))
  have ehb : ∀ k, fb_hb s' k = fb_hb s k := fun k => hb_c (hs 38 (by decide) k) (hs 42 (by decide) k) (prk_c (hs 22 (by decide)) (hs 36 (by decide) k))
  have eln : ∀ k, fb_ln s' k = fb_ln s k := fun k => ln_c (hs 37 (by decide) k)
  refine ⟨ci_q_congr h.1 (hs 19 (by decide)) (hs 20 (by decide)) (hs 44 (by decide)) (fun k _ => elc k), fun j hj => ?_, fun i hi k hk => ?_, fun j hj => ?_⟩
  · rw [hs 21 (by decide), h.2.1 j hj, ci_sum_congr (fun k _ => ⟨elc k, eln k⟩)]
  · rw [hs 13 (by decide), h.2.2.1 i hi k hk, elc]
  · rw [hs 18 (by decide), h.2.2.2 j hj, ci_sum_congr (fun k _ => ⟨ehb k, eln k⟩)]
theorem mid_same {fl fr T x y v z : Nat} {s m s' m' : fb_S} (h : MID fl fr T x y v z s m) (hs : ∀ F, (F ≠ 12 ∧ F ≠ 17) → ∀ j, s' F j = s F j) (hm : ∀ F, (F ≠ 23 ∧ F ≠ 24) → ∀ j, m' F j = m F j) (ok' : fb_okC fl fr s') (okm' : fb_okM fl fr T m') (hP' : cp_P s' m') (hcr' : cp_cr s') : MID fl fr T x y v z s' m' := by
  have h0 := h
  obtain ⟨ok, okm, hfl, hfr, hT1, hTb, hpa, hW, hSm, ⟨o, o1, o2⟩, Q, hG, hP, hF, hR, hK, hC, hO, hN, hE, hcr, hZ, hJ1, hJ2⟩ := h
  have fs : FS fr s m s' m' := ⟨fun F hF j => hs F (by omega) j, fun F hF j => hm F (by omega) j, fun F hF j _ => hs F (by omega) j, fun F hF j _ => hm F (by omega) j⟩
  have nd := fs_nd fs
  refine fs_M (k := fr) (Q' := Q) h0 fs (fun j _ => hm 22 (by decide) j) ok' okm' ?_ ?_ ⟨o, by rw [hm 5 (by decide)]; exact o1, o2⟩ hP' ?_ (fun f _ => hm 14 (by decide) f) ?_ (cpC_same hC hs) ?_ ?_ hcr' (fun q => by omega) (fun q => by omega)
  · intro k hk
    rw [hm 18 (by decide), hm 21 (by decide), hs 0 (by decide)]
    exact hW k hk
  · intro f hf
    rw [hs 28 (by decide)]
    simp only [hm 16 (by decide), hm 18 (by decide), hm 22 (by decide), hm 21 (by decide)]
    exact hSm f hf
  · intro f hf
    rw [hs 27 (by decide), hm 14 (by decide)]
    exact (hF f hf).2.2.2.2.2
  · intro k hk
    simp only [cp_way, hs 36 (by decide), hs 37 (by decide), hs 38 (by decide), hs 40 (by decide), hs 35 (by decide), hs 39 (by decide), hs 41 (by decide), hs 34 (by decide), hs 42 (by decide), hs 33 (by decide), hs 43 (by decide), hm 16 (by decide), hm 17 (by decide), hm 18 (by decide), hm 22 (by decide), hm 19 (by decide), hm 21 (by decide), hm 0 (by decide), nd]
    exact hK k hk
  · simp only [cp_O, hm 20 (by decide), hm 5 (by decide), hs 43 (by decide)]
    exact hO
  · intro f hf
    rw [hs 30 (by decide), hs 31 (by decide), hs 32 (by decide), count_c (fun j _ => hm 16 (by decide) j) (fun j _ => hm 18 (by decide) j), count_c (fun j _ => hm 16 (by decide) j) (fun j _ => hm 18 (by decide) j), last_c (hm 6 (by decide) 0) (fun j _ => hm 16 (by decide) j) (fun j _ => hm 18 (by decide) j) (fun j _ => hm 21 (by decide) j) (by omega)]
    exact hN f hf
theorem tb_hostF : ∀ i, i < 32 → (cf_host (fb_tF i) = true ↔ ¬ (7 : Int32) < fb_tF i) := by decide +kernel
section RDY
variable {fl fr T x y v z i q : Nat} {s m : fb_S}
theorem first_eq (h : MID fl fr T x y v z s m) (hi : i < 32) (hq : q < 2) : mf_first m (fb_tF i) (fb_tT i) (nI q) fr = s 19 (3 * i + q) := by
  obtain ⟨ok, okm, hfl, hfr, hT1, hTb, hpa, hW, hSm, -, Q, hG, hP, hF, hR, hK, hC, hO, hN, hE, hcr, hZ, hJ1, hJ2⟩ := h
  obtain ⟨a1, a2, a3⟩ := hC.1 (3 * i + q) (by omega)
  rw [a1.2.1]
  rcases cp_first ok hfl hF hR hK (nI q) hi hfr fr (Nat.le_refl _) with ⟨e, hno⟩ | ⟨k, hk, e, hp, hmin⟩
  · rw [e]
    cases hQ : Q (3 * i + q) with
    | nil => rfl
    | cons b L =>
      obtain ⟨b1, b2⟩ := (a3 b).mp (by rw [hQ]; simp)
      exact absurd ((lc_q ok hfl hR hK b1 hi hq).mp b2) (hno b b1)
  · rw [e]
    have mem := (a3 k).mpr ⟨hk, (lc_q ok hfl hR hK hk hi hq).mpr hp⟩
    have srt := hO.2.1 i q hi hq
    cases hQ : Q (3 * i + q) with
    | nil =>
      rw [hQ] at mem
      cases mem
    | cons b L =>
      obtain ⟨b1, b2⟩ := (a3 b).mp (by rw [hQ]; simp)
      rw [hQ] at mem srt
      rcases List.mem_cons.mp mem with e2 | e2
      · rw [e2]
        rfl
      · exfalso
        have lt := (List.pairwise_cons.mp srt).1 k e2
        exact Int32.not_le.mpr lt (hmin b b1 ((lc_q ok hfl hR hK b1 hi hq).mp b2))
theorem ready_eq (h : MID fl fr T x y v z s m) (hi : i < 32) (hq : q < 2) : (mf_ready m fr (fb_tF i) (fb_tT i) (nI q) = true ∧ ∃ k, k < fr ∧ s 19 (3 * i + q) = nI k ∧ cf_ready s i (nI q) = nI k) ∨ (mf_ready m fr (fb_tF i) (fb_tT i) (nI q) = false ∧ cf_ready s i (nI q) = -1) := by
  have e1 := first_eq h hi hq
  obtain ⟨ok, okm, hfl, hfr, hT1, hTb, hpa, hW, hSm, -, Q, hG, hP, hF, hR, hK, hC, hO, hN, hE, hcr, hZ, hJ1, hJ2⟩ := h
  simp only [mf_ready, cf_ready]
  rw [e1, fb_nI (show q < 2 ^ 31 by omega), show s 10 i = fb_tF i from ok 10 i hi, hpa i hi, hG.2.2.2.2.1]
  by_cases c : s 19 (3 * i + q) < 0
  · rw [if_pos c, if_pos c]
    exact Or.inr ⟨rfl, rfl⟩
  · rw [if_neg c, if_neg c]
    have hk := fb_rl (ok 19 (3 * i + q)) c
    obtain ⟨k, hk31, ek⟩ := nI_of c
    rw [ek, fb_nI hk31] at hk ⊢
    obtain ⟨f, hf, ef, enf⟩ := cp_flow ok hfl hk
    have e16 : m 16 k = nI f := (hK k hk).1.symm.trans ef
    rw [enf, e16, fb_nI (by omega), (hF f hf).2.2.2.2.2]
    have fin : ((if (7 : Int32) < fb_tF i then true else if m 4 0 < m 14 f then false else true) = true ∧ (if cf_host (fb_tF i) = true then (if m 14 f ≤ m 4 0 then nI k else -1) else nI k) = nI k) ∨ ((if (7 : Int32) < fb_tF i then true else if m 4 0 < m 14 f then false else true) = false ∧ (if cf_host (fb_tF i) = true then (if m 14 f ≤ m 4 0 then nI k else -1) else nI k) = -1) := by
      by_cases c7 : (7 : Int32) < fb_tF i
      · rw [if_pos c7, if_neg (fun e => (tb_hostF i hi).mp e c7)]
        exact Or.inl ⟨rfl, rfl⟩
      · rw [if_neg c7, if_pos ((tb_hostF i hi).mpr c7)]
        by_cases c8 : m 4 0 < m 14 f
        · rw [if_pos c8, if_neg (Int32.not_le.mpr c8)]
          exact Or.inr ⟨rfl, rfl⟩
        · rw [if_neg c8, if_pos (Int32.not_lt.mp c8)]
          exact Or.inl ⟨rfl, rfl⟩
    generalize (if (7 : Int32) < fb_tF i then true else if m 4 0 < m 14 f then false else true) = r1 at *
    generalize (if cf_host (fb_tF i) = true then (if m 14 f ≤ m 4 0 then nI k else -1) else nI k) = r2 at *
    have fin2 : (r1 = true ∧ ∃ k', k' < fr ∧ nI k = nI k' ∧ r2 = nI k') ∨ (r1 = false ∧ r2 = -1) := by
      rcases fin with ⟨a, b⟩ | ⟨a, b⟩
      · exact Or.inl ⟨a, k, hk, rfl, b⟩
      · exact Or.inr ⟨a, b⟩
    by_cases c0 : nI q = 0
    · rw [if_pos c0, if_pos c0]
      by_cases cp : mf_paused m (fb_tF i) (fb_tT i) = true
      · rw [if_pos cp, cp, if_neg (show ¬ fb_b true = 0 by decide)]
        exact Or.inr ⟨rfl, rfl⟩
      · rw [if_neg cp, Bool.eq_false_iff.mpr cp, if_pos (show fb_b false = 0 by decide)]
        exact fin2
    · rw [if_neg c0, if_neg c0]
      exact fin2
end RDY
/-- mf_ready does not look at turns and credits -/
theorem ready_c {m' m : fb_S} {fr : Nat} {u v q : Int32} (hm : ∀ F, (F ≠ 23 ∧ F ≠ 24) → ∀ j, m' F j = m F j) : mf_ready m' fr u v q = mf_ready m fr u v q := by
  have hf : ∀ n, mf_first m' u v q n = mf_first m u v q n := by
    intro n
    induction n with
    | zero => rfl
    | succ n ih => simp only [mf_first, ih, here_c (hm 7 (by decide)) (hm 8 (by decide)) (hm 9 (by decide)) (hm 16 (by decide) n) (hm 18 (by decide) n) (hm 19 (by decide) n), hm 20 (by decide)]
  have hp : mf_paused m' u v = mf_paused m u v := paused_c (hm 0 (by decide) 0) (hm 4 (by decide) 0) u v (hm 27 (by decide) _)
  simp only [mf_ready, hf, hp, hm 4 (by decide), hm 14 (by decide), hm 16 (by decide)]
