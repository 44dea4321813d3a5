/-! choose: sending begins -/
theorem tb_host8 : ∀ i, i < 32 → (cf_host (fb_tF i) = true ↔ ¬ (8 : Int32) ≤ fb_tF i) := by decide +kernel
section BEGIN
variable {fl fr T z i t k : Nat} {s m : fb_S}
theorem begin_c {f : Nat} {W : Int32} (hfr : k < 2 ^ 31) (e19 : s 19 (3 * i + t) = nI k) (ef : fb_n (s 36 k) = f) (ep : s 22 f = nI t) (ht : t < 2) (e10 : s 10 i = fb_tF i) (eW : s 6 0 + ((64 * s 37 k + s 23 f) - 1) / s 23 f = W) : (∀ F, (F ≠ 19 ∧ F ≠ 20 ∧ F ≠ 21 ∧ F ≠ 44 ∧ F ≠ 17 ∧ F ≠ 13 ∧ F ≠ 38 ∧ F ≠ 43 ∧ F ≠ 27) → ∀ j, cf_begin i k s F j = s F j) ∧ (∀ F, (F = 19 ∨ F = 20 ∨ F = 21 ∨ F = 44) → ∀ j, cf_begin i k s F j = cf_rem (3 * i + t) s F j) ∧ (∀ j, cf_begin i k s 17 j = if j = 2 * i + t then s 17 j - s 37 k else s 17 j) ∧ (∀ j, cf_begin i k s 13 j = if j = i then nI k else s 13 j) ∧ (∀ j, cf_begin i k s 38 j = if j = k then 2 else s 38 j) ∧ (∀ j, cf_begin i k s 43 j = if j = k then s 6 0 + s 37 k else s 43 j) ∧ ∀ j, cf_begin i k s 27 j = if j = f ∧ cf_host (fb_tF i) = true then W else s 27 j := by
  have nt : fb_n (nI t) = t := fb_nI (by omega)
  have q0 : ∀ F, (F ≠ 44 ∧ F ≠ 19 ∧ F ≠ 20 ∧ F ≠ 21) → ∀ j, cf_rem (3 * i + t) s F j = s F j := fun F hF j => rem_k hF
  have e5 : cf_begin i k s = if cf_host (fb_tF i) = true then fb_up (fb_up (fb_up (fb_up (fb_up (cf_rem (3 * i + t) s) 17 (2 * i + t) (s 17 (2 * i + t) - s 37 k)) 13 i (nI k)) 38 k 2) 43 k (s 6 0 + s 37 k)) 27 f W else fb_up (fb_up (fb_up (fb_up (cf_rem (3 * i + t) s) 17 (2 * i + t) (s 17 (2 * i + t) - s 37 k)) 13 i (nI k)) 38 k 2) 43 k (s 6 0 + s 37 k) := by
    have g0 : ∀ F, (F ≠ 44 ∧ F ≠ 19 ∧ F ≠ 20 ∧ F ≠ 21 ∧ F ≠ 17 ∧ F ≠ 13 ∧ F ≠ 38 ∧ F ≠ 43) → ∀ a b j, fb_up (fb_up (fb_up (fb_up (cf_rem (3 * i + t) s) 17 (2 * i + t) a) 13 i (nI k)) 38 k 2) 43 k b F j = s F j := fun F hF a b j => by
      rw [fb_up_F _ _ _ _ hF.2.2.2.2.2.2.2, fb_up_F _ _ _ _ hF.2.2.2.2.2.2.1, fb_up_F _ _ _ _ hF.2.2.2.2.2.1, fb_up_F _ _ _ _ hF.2.2.2.2.1, q0 F (by omega)]
    have g1 : ∀ F, (F ≠ 44 ∧ F ≠ 19 ∧ F ≠ 20 ∧ F ≠ 21 ∧ F ≠ 17 ∧ F ≠ 13 ∧ F ≠ 38) → ∀ a j, fb_up (fb_up (fb_up (cf_rem (3 * i + t) s) 17 (2 * i + t) a) 13 i (nI k)) 38 k 2 F j = s F j := fun F hF a j => by
      rw [fb_up_F _ _ _ _ hF.2.2.2.2.2.2, fb_up_F _ _ _ _ hF.2.2.2.2.2.1, fb_up_F _ _ _ _ hF.2.2.2.2.1, q0 F (by omega)]
    simp only [cf_begin, cf_waitFrom, ef, ep, nt, q0 22 (by decide), q0 17 (by decide), q0 37 (by decide), g1 6 (by decide), g1 37 (by decide), g0 10 (by decide), g0 6 (by decide), g0 37 (by decide), g0 23 (by decide), e10, eW]
  rw [e5]
  have b0 : ∀ F, (F ≠ 17 ∧ F ≠ 13 ∧ F ≠ 38 ∧ F ≠ 43) → ∀ j, fb_up (fb_up (fb_up (fb_up (cf_rem (3 * i + t) s) 17 (2 * i + t) (s 17 (2 * i + t) - s 37 k)) 13 i (nI k)) 38 k 2) 43 k (s 6 0 + s 37 k) F j = cf_rem (3 * i + t) s F j := fun F hF j => by
    rw [fb_up_F _ _ _ _ hF.2.2.2, fb_up_F _ _ _ _ hF.2.2.1, fb_up_F _ _ _ _ hF.2.1, fb_up_F _ _ _ _ hF.1]
  have b17 : ∀ j, fb_up (fb_up (fb_up (fb_up (cf_rem (3 * i + t) s) 17 (2 * i + t) (s 17 (2 * i + t) - s 37 k)) 13 i (nI k)) 38 k 2) 43 k (s 6 0 + s 37 k) 17 j = if j = 2 * i + t then s 17 j - s 37 k else s 17 j := fun j => by
    rw [fb_up_F _ _ _ _ (by decide), fb_up_F _ _ _ _ (by decide), fb_up_F _ _ _ _ (by decide)]
    by_cases e : j = 2 * i + t
    · rw [if_pos e, e, fb_up_same]
    · rw [if_neg e, fb_up_i _ _ _ _ e, q0 17 (by decide)]
  have b13 : ∀ j, fb_up (fb_up (fb_up (fb_up (cf_rem (3 * i + t) s) 17 (2 * i + t) (s 17 (2 * i + t) - s 37 k)) 13 i (nI k)) 38 k 2) 43 k (s 6 0 + s 37 k) 13 j = if j = i then nI k else s 13 j := fun j => by
    rw [fb_up_F _ _ _ _ (by decide), fb_up_F _ _ _ _ (by decide)]
    by_cases e : j = i
    · rw [if_pos e, e, fb_up_same]
    · rw [if_neg e, fb_up_i _ _ _ _ e, fb_up_F _ _ _ _ (by decide), q0 13 (by decide)]
  have b38 : ∀ j, fb_up (fb_up (fb_up (fb_up (cf_rem (3 * i + t) s) 17 (2 * i + t) (s 17 (2 * i + t) - s 37 k)) 13 i (nI k)) 38 k 2) 43 k (s 6 0 + s 37 k) 38 j = if j = k then 2 else s 38 j := fun j => by
    rw [fb_up_F _ _ _ _ (by decide)]
    by_cases e : j = k
    · rw [if_pos e, e, fb_up_same]
    · rw [if_neg e, fb_up_i _ _ _ _ e, fb_up_F _ _ _ _ (by decide), fb_up_F _ _ _ _ (by decide), q0 38 (by decide)]
  have b43 : ∀ j, fb_up (fb_up (fb_up (fb_up (cf_rem (3 * i + t) s) 17 (2 * i + t) (s 17 (2 * i + t) - s 37 k)) 13 i (nI k)) 38 k 2) 43 k (s 6 0 + s 37 k) 43 j = if j = k then s 6 0 + s 37 k else s 43 j := fun j => by
    by_cases e : j = k
    · rw [if_pos e, e, fb_up_same]
    · rw [if_neg e, fb_up_i _ _ _ _ e, fb_up_F _ _ _ _ (by decide), fb_up_F _ _ _ _ (by decide), fb_up_F _ _ _ _ (by decide), q0 43 (by decide)]
  generalize fb_up (fb_up (fb_up (fb_up (cf_rem (3 * i + t) s) 17 (2 * i + t) (s 17 (2 * i + t) - s 37 k)) 13 i (nI k)) 38 k 2) 43 k (s 6 0 + s 37 k) = B at *
  by_cases c : cf_host (fb_tF i) = true
  · rw [if_pos c]
    have u : ∀ F, F ≠ 27 → ∀ j, fb_up B 27 f W F j = B F j := fun F hF j => fb_up_F _ _ _ _ hF
    refine ⟨fun F hF j => (u F (by omega) j).trans ((b0 F (by omega) j).trans (q0 F (by omega) j)), fun F hF j => (u F (by omega) j).trans (b0 F (by omega) j), fun j => (u 17 (by decide) j).trans (b17 j), fun j => (u 13 (by decide) j).trans (b13 j), fun j => (u 38 (by decide) j).trans (b38 j), fun j => (u 43 (by decide) j).trans (b43 j), fun j => ?_⟩
    by_cases e : j = f
    · rw [if_pos ⟨e, c⟩, e, fb_up_same]
    · rw [if_neg (fun q => e q.1), fb_up_i _ _ _ _ e, b0 27 (by decide), q0 27 (by decide)]
  · rw [if_neg c]
    refine ⟨fun F hF j => (b0 F (by omega) j).trans (q0 F (by omega) j), fun F hF j => b0 F (by omega) j, b17, b13, b38, b43, fun j => ?_⟩
    rw [if_neg (fun q => c q.2), b0 27 (by decide), q0 27 (by decide)]
theorem last1_f {f : Nat} {W : Int32} (hi : i < 32) (hk31 : k < 2 ^ 31) (ht : t < 2) (h23 : m 23 (fb_g i) = nI t) (hf1 : mf_first m (fb_tF i) (fb_tT i) (nI t) fr = nI k) (ef : fb_n (m 16 k) = f) (eW : m 4 0 + ((64 * m 17 k + m 10 f) - 1) / m 10 f = W) : (∀ F, (F ≠ 18 ∧ F ≠ 21 ∧ F ≠ 14 ∧ F ≠ 24) → ∀ j, mf_last1 fr (fb_tF i) (fb_tT i) m F j = m F j) ∧ (∀ j, mf_last1 fr (fb_tF i) (fb_tT i) m 18 j = if j = k then 2 else m 18 j) ∧ (∀ j, mf_last1 fr (fb_tF i) (fb_tT i) m 21 j = if j = k then m 4 0 + m 17 k else m 21 j) ∧ (∀ j, mf_last1 fr (fb_tF i) (fb_tT i) m 14 j = if j = f ∧ ¬ (8 : Int32) ≤ fb_tF i then W else m 14 j) ∧ ∀ j, mf_last1 fr (fb_tF i) (fb_tT i) m 24 j = if j = 2 * fb_g i + t then m 24 j - m 17 k else m 24 j := by
  have nk : fb_n (nI k) = k := fb_nI hk31
  have g1 : ∀ F, F ≠ 18 → ∀ j, fb_up m 18 k 2 F j = m F j := fun F hF j => fb_up_F _ _ _ _ hF
  have g2 : ∀ F, (F ≠ 18 ∧ F ≠ 21) → ∀ j, fb_up (fb_up m 18 k 2) 21 k (m 4 0 + m 17 k) F j = m F j := fun F hF j => by rw [fb_up_F _ _ _ _ hF.2, fb_up_F _ _ _ _ hF.1]
  have b18 : ∀ j, fb_up (fb_up m 18 k 2) 21 k (m 4 0 + m 17 k) 18 j = if j = k then 2 else m 18 j := fun j => by
    rw [fb_up_F _ _ _ _ (by decide)]
    by_cases e : j = k
    · rw [if_pos e, e, fb_up_same]
    · rw [if_neg e, fb_up_i _ _ _ _ e]
  have b21 : ∀ j, fb_up (fb_up m 18 k 2) 21 k (m 4 0 + m 17 k) 21 j = if j = k then m 4 0 + m 17 k else m 21 j := fun j => by
    by_cases e : j = k
    · rw [if_pos e, e, fb_up_same]
    · rw [if_neg e, fb_up_i _ _ _ _ e, fb_up_F _ _ _ _ (by decide)]
  have eB : mf_begin (nI k) (fb_tF i) m = if (8 : Int32) ≤ fb_tF i then fb_up (fb_up m 18 k 2) 21 k (m 4 0 + m 17 k) else fb_up (fb_up (fb_up m 18 k 2) 21 k (m 4 0 + m 17 k)) 14 f W := by
    simp only [mf_begin, nk, ef, g1 4 (by decide), g1 17 (by decide), g2 4 (by decide), g2 17 (by decide), g2 10 (by decide), eW]
  generalize fb_up (fb_up m 18 k 2) 21 k (m 4 0 + m 17 k) = B at *
  have hB : ∃ B1 : fb_S, mf_begin (nI k) (fb_tF i) m = B1 ∧ (∀ F, F ≠ 14 → ∀ j, B1 F j = B F j) ∧ ∀ j, B1 14 j = if j = f ∧ ¬ (8 : Int32) ≤ fb_tF i then W else m 14 j := by
    refine ⟨_, rfl, ?_, ?_⟩
    · rw [eB]
      intro F hF j
      by_cases c : (8 : Int32) ≤ fb_tF i
      · rw [if_pos c]
      · rw [if_neg c, fb_up_F _ _ _ _ hF]
    · rw [eB]
      intro j
      by_cases c : (8 : Int32) ≤ fb_tF i
      · rw [if_pos c, if_neg (fun q => q.2 c), g2 14 (by decide)]
      · rw [if_neg c]
        by_cases e : j = f
        · rw [if_pos ⟨e, c⟩, e, fb_up_same]
        · rw [if_neg (fun q => e q.1), fb_up_i _ _ _ _ e, g2 14 (by decide)]
  obtain ⟨B1, e1, c0, c14⟩ := hB
  have eL : mf_last1 fr (fb_tF i) (fb_tT i) m = fb_up B1 24 (2 * fb_g i + t) (m 24 (2 * fb_g i + t) - m 17 k) := by
    simp only [mf_last1, tb_gi i hi, h23, tb_gt i hi t ht, hf1, e1, nk, c0 24 (by decide), c0 17 (by decide), g2 24 (by decide), g2 17 (by decide)]
  rw [eL]
  have u : ∀ F, F ≠ 24 → ∀ j, fb_up B1 24 (2 * fb_g i + t) (m 24 (2 * fb_g i + t) - m 17 k) F j = B1 F j := fun F hF j => fb_up_F _ _ _ _ hF
  refine ⟨fun F hF j => (u F (by omega) j).trans ((c0 F (by omega) j).trans (g2 F (by omega) j)), fun j => (u 18 (by decide) j).trans ((c0 18 (by decide) j).trans (b18 j)), fun j => (u 21 (by decide) j).trans ((c0 21 (by decide) j).trans (b21 j)), fun j => (u 14 (by decide) j).trans (c14 j), fun j => ?_⟩
  by_cases e : j = 2 * fb_g i + t
  · rw [if_pos e, e, fb_up_same]
  · rw [if_neg e, fb_up_i _ _ _ _ e, c0 24 (by decide), g2 24 (by decide)]
theorem ok_last1 {u v : Int32} (okm : fb_okM fl fr T m) : fb_okM fl fr T (mf_last1 fr u v m) := by
  simp only [mf_last1, mf_begin]
  split
  · exact fb_okM_up (fb_okM_up (fb_okM_up okm trivial) trivial) trivial
  · exact fb_okM_up (fb_okM_up (fb_okM_up (fb_okM_up okm trivial) trivial) trivial) trivial
theorem mid_begin (h : MID fl fr T 1 1 1 z s m) (hi : i < 32) (ht : t < 2) (h12 : s 12 i = nI t) (h13 : s 13 i < 0) (hk : k < fr) (e19 : s 19 (3 * i + t) = nI k) (hge : ¬ s 17 (2 * i + t) < s 37 k) : MID fl fr T 1 1 1 z (cf_begin i k s) (mf_last1 fr (fb_tF i) (fb_tT i) m) ∧ ∀ j, (mf_last1 fr (fb_tF i) (fb_tT i) m 18 j = 4 ↔ m 18 j = 4) := by
  have h0 := h
  have hf1 := first_eq h hi ht
  obtain ⟨ok, okm, hfl, hfr, hT1, hTb, hpa, hW, hSm, ⟨o, o1, o2⟩, Q, hG, hP, hF, hR, hK, hC, hO, hN, hE, hcr, hZ, hJ1, hJ2⟩ := h
  rw [e19] at hf1
  obtain ⟨L, hL⟩ := q_head hC.1 hfr (j := 3 * i + t) (by omega) hk e19
  have clc : fb_lc s k = 3 * i + t := (((hC.1 _ (by omega)).2.2 k).mp (by rw [hL]; simp)).2
  obtain ⟨k38, kp, kl⟩ := (lc_q ok hfl hR hK hk hi ht).mp clc
  have e18 : m 18 k = 1 := (hK k hk).2.2.1.symm.trans k38
  obtain ⟨f, hf, ef, enf⟩ := cp_flow ok hfl hk
  have e16 : m 16 k = nI f := (hK k hk).1.symm.trans ef
  have em16 : fb_n (m 16 k) = f := by rw [e16, fb_nI (by omega)]
  have ep : s 22 f = nI t := by
    unfold fb_prk at kp
    rw [enf] at kp
    exact kp
  have h23 : m 23 (fb_g i) = nI t := (hP i hi).1.symm.trans h12
  have e37 : s 37 k = m 17 k := (hK k hk).2.1
  have hs6 : s 6 0 = m 4 0 := hG.2.2.2.2.1
  have hm4 : m 4 0 = nI T := okm 4 0 rfl
  obtain ⟨l1, l2, l3⟩ := fb_lnI ok hk
  obtain ⟨r0, rq, r17, r13, r38, r43, r27⟩ := begin_c (i := i) (t := t) (k := k) (f := f) (W := m 4 0 + ((64 * m 17 k + m 10 f) - 1) / m 10 f) (by omega) e19 enf ep ht (ok 10 i hi) (by rw [hs6, e37, (hF f hf).2.1])
  obtain ⟨t0, t18, t21, t14, t24⟩ := last1_f (f := f) (fr := fr) (W := m 4 0 + ((64 * m 17 k + m 10 f) - 1) / m 10 f) hi (show k < 2 ^ 31 by omega) ht h23 hf1 em16 rfl
  have okD : fb_okC fl fr (cf_begin i k s) := ok_begin ok hk hfr
  have okM' : fb_okM fl fr T (mf_last1 fr (fb_tF i) (fb_tT i) m) := ok_last1 okm
  generalize m 4 0 + ((64 * m 17 k + m 10 f) - 1) / m 10 f = W at *
  generalize cf_begin i k s = s' at *
  generalize mf_last1 fr (fb_tF i) (fb_tT i) m = m' at *
  have fs : FS k s m s' m' := ⟨fun F hF j => r0 F (by omega) j, fun F hF j => t0 F (by omega) j, fun F hF j hj => by
      by_cases e1 : F = 38
      · subst e1
        rw [r38, if_neg hj]
      · by_cases e2 : F = 43
        · subst e2
          rw [r43, if_neg hj]
        · exact r0 F (by omega) j, fun F hF j hj => by
      by_cases e1 : F = 18
      · subst e1
        rw [t18, if_neg hj]
      · by_cases e2 : F = 21
        · subst e2
          rw [t21, if_neg hj]
        · exact t0 F (by omega) j⟩
  have k2 : s' 38 k = 2 := (r38 k).trans (if_pos rfl)
  have m2 : m' 18 k = 2 := (t18 k).trans (if_pos rfl)
  have s18 : ∀ j, (m' 18 j = 4 ↔ m 18 j = 4) := fun j => by
    by_cases e : j = k
    · rw [e, m2, e18]
      decide
    · rw [t18, if_neg e]
  refine ⟨?_, s18⟩
  have loc' : fb_loc s' k = nI i := (loc_c (r0 33 (by decide)) (r0 36 (by decide) k) (r0 41 (by decide) k)).trans kl
  have lc' : fb_lc s' k = 96 + i := by
    unfold fb_lc
    rw [if_neg (by rw [k2]; decide), if_pos k2, loc', fb_nI (by omega)]
  have hb' : fb_hb s' k = fb_hb s k := by
    unfold fb_hb
    rw [r0 42 (by decide), k2, k38, fs_prk fs k, if_neg (show ¬ (2 : Int32) = 1 by decide), if_pos (show (2 : Int32) = 2 from rfl), if_pos (show (1 : Int32) = 1 from rfl)]
  have hlt0 : ∀ a, a < fr → ¬ fb_lc s a = 96 + i := fun a ha e => by
    rw [(hC.2.2.1 i hi a ha).mpr e] at h13
    exact nI_pos (by omega) h13
  refine fs_M (k := k) (Q' := fb_Qu Q (3 * i + t) L) h0 fs (fun j _ => t0 22 (by omega) j) okD okM' ?_ ?_ ⟨o, by rw [t0 5 (by omega)]; exact o1, o2⟩ ?_ ?_ ?_ ?_ ?_ ?_ ?_ ?_ (fun _ => by rw [e18]; decide) (fun _ e => by rw [m2] at e; exact absurd e (by decide))
  · refine fs_W fs hW ⟨fun _ => ⟨T + fb_ln s k, ?_, by omega, by omega⟩, fun e => by rw [m2] at e; exact absurd e (by decide), fun e => by rw [m2] at e; exact absurd e (by decide)⟩
    rw [t21, if_pos rfl, hm4, ← e37, l1, nI_add]
  · exact fs_S fs hSm (r0 28 (by omega)) (by rw [e18]; decide) (by rw [m2]; decide)
  · intro c hc
    obtain ⟨p1, p2, p3, p4⟩ := hP c hc
    rw [r0 12 (by omega), r0 14 (by omega), t0 23 (by omega), t0 26 (by omega)]
    by_cases e : c = i
    · subst e
      have ec : ∀ q, q < 2 → s 17 (2 * c + q) = m 24 (2 * fb_g c + q) := fun q hq => by
        rcases (show q = 0 ∨ q = 1 by omega) with rfl | rfl
        · exact p2
        · exact p3
      have key : ∀ q, q < 2 → s' 17 (2 * c + q) = m' 24 (2 * fb_g c + q) := fun q hq => by
        rw [r17, t24, ec q hq, e37]
        by_cases eq : q = t
        · rw [if_pos (by omega), if_pos (by omega)]
        · rw [if_neg (by omega), if_neg (by omega)]
      exact ⟨p1, key 0 (by omega), key 1 (by omega), p4⟩
    · have eg : ¬ fb_g c = fb_g i := fun q => e (tb_g c hc i hi q)
      rw [r17, r17, t24, t24, if_neg (show ¬ 2 * c = 2 * i + t by omega), if_neg (show ¬ 2 * c + 1 = 2 * i + t by omega), if_neg (show ¬ 2 * fb_g c = 2 * fb_g i + t by omega), if_neg (show ¬ 2 * fb_g c + 1 = 2 * fb_g i + t by omega)]
      exact ⟨p1, p2, p3, p4⟩
  · intro g hg
    rw [r27, t14]
    have e8 := tb_host8 i hi
    by_cases c : cf_host (fb_tF i) = true
    · by_cases e : g = f
      · rw [if_pos ⟨e, c⟩, if_pos ⟨e, e8.mp c⟩]
      · rw [if_neg (fun q => e q.1), if_neg (fun q => e q.1)]
        exact (hF g hg).2.2.2.2.2
    · rw [if_neg (fun q => c q.2), if_neg (fun q => c (e8.mpr q.2))]
      exact (hF g hg).2.2.2.2.2
  · intro g hg
    rw [t14, if_neg (fun q => by omega)]
  · obtain ⟨hh, w1, w2, w3, w4, w5, w6, w7⟩ := (hK k hk).2.2.2.2.2.2.2 (by rw [e18]; decide)
    refine fs_K fs hK (k2.trans m2.symm) ?_ ?_ (Or.inr (Or.inl m2)) (fun _ => ⟨hh, w1, ?_, ?_, ?_, fun _ => ?_, fun _ => ?_, fun e => by rw [m2] at e; exact absurd e (by decide)⟩)
    · rw [r0 40 (by decide), t0 22 (by decide)]
      exact (hK k hk).2.2.2.1
    · rw [r0 39 (by decide), t0 19 (by decide)]
      exact (hK k hk).2.2.2.2.2.1
    · rw [t0 19 (by decide)]
      exact w2
    · rw [r0 41 (by decide)]
      exact w3
    · rw [r0 36 (by decide), r0 34 (by decide)]
      exact w4
    · rw [r0 42 (by decide), r0 33 (by decide), r0 36 (by decide)]
      exact w5 (by rw [e18]; decide)
    · rw [r43, if_pos rfl, t21, if_pos rfl, hs6, e37]
  · unfold cp_C
    rw [fs_lc fs lc', fs_hb fs hb', fs_ln fs, cu_id rfl]
    refine ⟨ci_q_rem hC.1 hfr (by omega) hL (by omega) (rq 19 (by omega)) (rq 20 (by omega)) (rq 44 (by omega)), fun j hj => ?_, fun c hc a ha => ?_, fun j hj => ?_⟩
    · refine sm_mv hk (hC.2.1 j hj) (fun e => by omega) ?_
      rw [rq 21 (by omega), cf_rem_21 e19 (by omega), ← l1, clc, if_neg (show ¬ 96 + i = j by omega)]
      by_cases e : j = 3 * i + t
      · rw [if_pos e, if_pos e.symm, e]
      · rw [if_neg e, if_neg (Ne.symm e)]
    · rw [r13]
      unfold fb_cu
      by_cases ec : c = i
      · rw [if_pos ec]
        by_cases ea : a = k
        · rw [if_pos ea, ea, ec]
          exact ⟨fun _ => rfl, fun _ => rfl⟩
        · rw [if_neg ea, ec]
          exact ⟨fun q => absurd ((nI_eq (by omega) (by omega)).mp q).symm ea, fun q => absurd q (hlt0 a ha)⟩
      · rw [if_neg ec, hC.2.2.1 c hc a ha]
        by_cases ea : a = k
        · rw [if_pos ea, ea, clc]
          exact ⟨fun e => by omega, fun e => by omega⟩
        · rw [if_neg ea]
    · rw [r0 18 (by decide)]
      exact hC.2.2.2 j hj
  · refine ⟨fun a ha => by rw [t0 20 (by decide), t0 5 (by decide)]; exact hO.1 a ha, fun c q hc hq => ?_, fun c hc => ?_⟩
    · by_cases e : 3 * c + q = 3 * i + t
      · have e2 : fb_Qu Q (3 * i + t) L (3 * c + q) = L := if_pos e
        rw [e2]
        have := hO.2.1 c q hc hq
        rw [e, hL] at this
        exact pw_c (fun a _ => t0 20 (by decide) a) (List.pairwise_cons.mp this).2
      · have e2 : fb_Qu Q (3 * i + t) L (3 * c + q) = Q (3 * c + q) := if_neg e
        rw [e2]
        exact pw_c (fun a _ => t0 20 (by decide) a) (hO.2.1 c q hc hq)
    · have e2 : fb_Qu Q (3 * i + t) L (3 * c + 2) = Q (3 * c + 2) := if_neg (by omega)
      rw [e2]
      refine pw_c (fun a ha => ?_) (hO.2.2 c hc)
      have := (((hC.1 (3 * c + 2) (by omega)).2.2 a).mp ha).2
      rw [r43, if_neg (fun e => by rw [e, clc] at this; omega)]
  · exact fs_N fs hfr hN (r0 30 (by omega)) (r0 31 (by omega)) (r0 32 (by omega)) (by rw [e18]; decide) (by rw [m2]; decide)
  · intro j hj
    rw [r17, r0 12 (by decide)]
    by_cases e : j = 2 * i + t
    · obtain ⟨c, ec, c11, c3⟩ := cr_of hcr (j := j) hj
      rw [← e, ec, l1] at hge
      have : fb_ln s k ≤ c := by
        rcases Nat.lt_or_ge c (fb_ln s k) with q | q
        · exact absurd (nI_lt q (by omega)) hge
        · exact q
      rw [if_pos e, ec, l1, fb_sub this]
      refine ⟨nI_pos' (by omega), (show nI (c - fb_ln s k) ≤ nI 11 from nI_le (by omega) (by omega)), fun q => absurd ?_ q⟩
      rw [show j / 2 = i by omega, show j % 2 = t by omega]
      exact h12
    · rw [if_neg e]
      exact hcr j hj
end BEGIN
