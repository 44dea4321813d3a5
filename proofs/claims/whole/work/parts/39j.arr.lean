/-! arrivals: what is due at a port -/
theorem cf_rem_21 {a k : Nat} {s : fb_S} (h19 : s 19 a = nI k) (hk : k < 2 ^ 31) (i : Nat) : cf_rem a s 21 i = if i = a then s 21 a - s 37 k else s 21 i := by
  simp only [cf_rem]
  rw [h19, if_neg (nI_pos hk), fb_nI hk]
  by_cases e : i = a
  · subst e
    rw [if_pos rfl, fb_up_same]
    congr 1
    · rw [fb_up_F _ _ _ _ (by decide)]
      split
      · rw [fb_up_F _ _ _ _ (by decide), fb_up_F _ _ _ _ (by decide)]
      · rw [fb_up_F _ _ _ _ (by decide)]
    · rw [fb_up_F _ _ _ _ (by decide)]
      split
      · rw [fb_up_F _ _ _ _ (by decide), fb_up_F _ _ _ _ (by decide)]
      · rw [fb_up_F _ _ _ _ (by decide)]
  · rw [if_neg e, fb_up_i _ _ _ _ e, fb_up_F _ _ _ _ (by decide)]
    split
    · rw [fb_up_F _ _ _ _ (by decide), fb_up_F _ _ _ _ (by decide)]
    · rw [fb_up_F _ _ _ _ (by decide)]
theorem rem_k {a : Nat} {s : fb_S} {F i : Nat} (h : F ≠ 44 ∧ F ≠ 19 ∧ F ≠ 20 ∧ F ≠ 21) : cf_rem a s F i = s F i := cf_rem_keep h.1 (fun e => absurd e h.2.1) (fun e => absurd e h.2.2.1) (fun e => absurd e h.2.2.2)
theorem add_k {a k : Nat} {s : fb_S} {F i : Nat} (h : F ≠ 44 ∧ F ≠ 19 ∧ F ≠ 20 ∧ F ≠ 21) : cf_add a k s F i = s F i := cf_add_keep h.1 (fun e => absurd e h.2.1) (fun e => absurd e h.2.2.1) (fun e => absurd e h.2.2.2)
theorem q_head {fr : Nat} {s : fb_S} {c : Nat → Nat} {Q : Nat → List Nat} {j k : Nat} (h : ci_q fr s c Q) (hfr : fr ≤ 100) (hj : j < 96) (hk : k < fr) (e : s 19 j = nI k) : ∃ L, Q j = k :: L := by
  obtain ⟨a, b, d⟩ := h j hj
  have e2 := a.2.1
  cases hq : Q j with
  | nil =>
    rw [hq, e] at e2
    exact absurd (show nI k < 0 by rw [show nI k = -1 from e2]; exact fb_m1) (nI_pos (by omega))
  | cons y L =>
    have hy : y < fr := ((d y).mp (by rw [hq]; simp)).1
    rw [hq, e] at e2
    have : k = y := (nI_eq (by omega) (by omega)).mp e2
    exact ⟨L, by rw [this]⟩
theorem cu_cu (c : Nat → Nat) (k a b : Nat) : fb_cu (fb_cu c k a) k b = fb_cu c k b := by
  funext x
  unfold fb_cu
  by_cases e : x = k
  · rw [if_pos e, if_pos e]
  · rw [if_neg e, if_neg e, if_neg e]
theorem cu_id {c : Nat → Nat} {k b : Nat} (h : c k = b) : fb_cu c k b = c := by
  funext x
  unfold fb_cu
  by_cases e : x = k
  · rw [if_pos e, e, h]
  · rw [if_neg e]
section ARR
variable {fl fr T y v z n k : Nat} {x M : fb_S}
theorem dv_pre (h : MID fl fr T 1 y v z x M) (hn : n < 32) (hk : k < fr) (e19 : x 19 (3 * n + 2) = nI k) : x 38 k = 3 ∧ M 18 k = 3 ∧ fb_loc x k = nI n ∧ fb_lc x k = 3 * n + 2 ∧ fb_hb x k = 200 ∧ x 43 k = M 21 k + M 0 0 ∧ ∃ f hh, f < fl ∧ x 36 k = nI f ∧ fb_n (x 36 k) = f ∧ M 16 k = nI f ∧ hh < 4 ∧ M 19 k = nI hh ∧ x 41 k = nI hh ∧ nI hh < x 34 f ∧ x 33 (4 * f + hh) = nI n ∧ mf_node M (nI f) (nI (hh + 1)) = fb_tT n ∧ (8 ≤ fb_tT n ↔ nI (hh + 1) < x 34 f) := by
  obtain ⟨ok, okm, hfl, hfr, hT1, hTb, hpa, hW, hSm, -, Q, hG, hP, hF, hR, hK, hC, hO, hN, hE, hcr, hZ, hJ1, hJ2⟩ := h
  obtain ⟨L, hL⟩ := q_head hC.1 hfr (j := 3 * n + 2) (by omega) hk e19
  have clc : fb_lc x k = 3 * n + 2 := (((hC.1 _ (by omega)).2.2 k).mp (by rw [hL]; simp)).2
  obtain ⟨h38, hloc⟩ := (lc_w ok hfl hR hK hk hn).mp clc
  have e18 : M 18 k = 3 := (hK k hk).2.2.1.symm.trans h38
  obtain ⟨hh, w1, w2, w3, w4, w5, w6, w7⟩ := (hK k hk).2.2.2.2.2.2.2 (by rw [e18]; decide)
  obtain ⟨f, hf, ef, enf⟩ := cp_flow ok hfl hk
  rw [enf] at w4
  obtain ⟨j, hj, e1, e2, e3, e4, -⟩ := (hR f hf).2 hh w1 w4
  have ej : j = n := by
    unfold fb_loc at hloc
    rw [enf, w3, fb_nI (by omega), e1] at hloc
    exact (nI_eq (by omega) (by omega)).mp hloc
  subst ej
  exact ⟨h38, e18, hloc, clc, hb_no (Or.inl h38), w7 e18, f, hh, hf, ef, enf, (hK k hk).1.symm.trans ef, w1, w2, w3, w4, e1, e3, e4⟩
/-- what is due is the wire's first -/
theorem dv_due (h : MID fl fr T 1 y v z x M) (hn : n < 32) (hk : k < fr) (e18 : M 18 k = 3) (hl : fb_loc x k = nI n) (hd : M 21 k + M 0 0 = nI T) : x 19 (3 * n + 2) = nI k ∧ x 43 k = x 6 0 := by
  obtain ⟨ok, okm, hfl, hfr, hT1, hTb, hpa, hW, hSm, -, Q, hG, hP, hF, hR, hK, hC, hO, hN, hE, hcr, hZ, hJ1, hJ2⟩ := h
  have hm4 : M 4 0 = nI T := okm 4 0 rfl
  have hs6 : x 6 0 = nI T := hG.2.2.2.2.1.trans hm4
  obtain ⟨d, hd8, hd0⟩ := dl_of ok
  have due : ∀ a, a < fr → M 18 a = 3 → x 43 a = M 21 a + M 0 0 ∧ ∃ w, x 43 a = nI w ∧ T ≤ w ∧ w ≤ T + 8 := fun a ha a3 => by
    obtain ⟨hh, w1, w2, w3, w4, w5, w6, w7⟩ := (hK a ha).2.2.2.2.2.2.2 (by rw [a3]; decide)
    obtain ⟨w, e1, e2, e3⟩ := (hW a ha).2.1 a3
    refine ⟨w7 a3, w + (d + 1), ?_, ?_, by omega⟩
    · rw [w7 a3, e1, ← hG.1, hd0, nI_add]
    · rw [hd0, fb_nI (by omega)] at e3
      omega
  have k38 : x 38 k = 3 := (hK k hk).2.2.1.trans e18
  have clc := (lc_w ok hfl hR hK hk hn).mpr ⟨k38, hl⟩
  obtain ⟨a1, a2, a3⟩ := hC.1 (3 * n + 2) (by omega)
  have mem := (a3 k).mpr ⟨hk, clc⟩
  have e43 : x 43 k = x 6 0 := by rw [(due k hk e18).1, hd, hs6]
  refine ⟨?_, e43⟩
  rw [a1.2.1]
  have srt := hO.2.2 n hn
  cases hq : Q (3 * n + 2) with
  | nil =>
    rw [hq] at mem
    cases mem
  | cons b L =>
    rw [hq] at mem srt
    rcases List.mem_cons.mp mem with e | e
    · rw [e]
      rfl
    · exfalso
      obtain ⟨b1, b2⟩ := (a3 b).mp (by rw [hq]; simp)
      obtain ⟨b3, b4⟩ := (lc_w ok hfl hR hK b1 hn).mp b2
      have lt := (List.pairwise_cons.mp srt).1 k e
      obtain ⟨-, w, e1, e2, e3⟩ := due b b1 ((hK b b1).2.2.1.symm.trans b3)
      rw [e43, hs6, e1] at lt
      have := (nI_ltI (by omega) (by omega)).mp lt
      omega
/-- the reference's loop over the frames at one port -/
theorem arr_none {u w : Int32} (hno : ∀ a, a < fr → M 18 a = 3 → M 21 a + M 0 0 = M 4 0 → ¬ mf_btw M a u w = true) : fb_it (mf_arrK fr u w) fr M = M := by
  refine fb_it_inv (I := fun _ q => q = M) rfl (fun i q hi hq => ?_)
  subst hq
  simp only [mf_arrK]
  by_cases c0 : mf_port u w = true
  · rw [if_pos c0]
    by_cases c1 : q 18 i = 3
    · rw [if_pos c1]
      by_cases c2 : q 21 i + q 0 0 = q 4 0
      · rw [if_pos c2, if_neg (hno i hi c1 c2)]
      · rw [if_neg c2]
    · rw [if_neg c1]
  · rw [if_neg c0]
theorem arr_keep {u w : Int32} {F j : Nat} (hF : (F ≠ 5 ∧ F ≠ 26) ∧ (F < 18 ∨ 22 < F ∨ j ≠ k)) : mf_arrive fr k u w M F j = M F j := by
  have key : ∀ (q : fb_S) (G : Nat) (a : Int32), 18 ≤ G → G ≤ 22 → fb_up q G k a F j = q F j := fun q G a g1 g2 => by
    by_cases e : F = G
    · exact fb_up_i q _ _ a (by omega)
    · exact fb_up_F q _ _ a e
  simp only [mf_arrive, mf_enq]
  split
  · rw [key _ 21 _ (by omega) (by omega), key _ 18 _ (by omega) (by omega), key _ 19 _ (by omega) (by omega)]
  · split
    · rw [key _ 18 _ (by omega) (by omega), key _ 19 _ (by omega) (by omega)]
    · rw [fb_up_F _ _ _ _ hF.1.2, key _ 22 _ (by omega) (by omega), fb_up_F _ _ _ _ hF.1.1, key _ 20 _ (by omega) (by omega), key _ 18 _ (by omega) (by omega), key _ 19 _ (by omega) (by omega)]
theorem arr_one {u w : Int32} (hk : k < fr) (hp : mf_port u w = true) (h18 : M 18 k = 3) (hd : M 21 k + M 0 0 = M 4 0) (hb : mf_btw M k u w = true) (hno : ∀ a, a < fr → a ≠ k → M 18 a = 3 → M 21 a + M 0 0 = M 4 0 → ¬ mf_btw M a u w = true) : fb_it (mf_arrK fr u w) fr M = mf_arrive fr k u w M := by
  have key : ∀ j, j ≤ fr → fb_it (mf_arrK fr u w) j M = if k < j then mf_arrive fr k u w M else M := by
    intro j
    induction j with
    | zero => exact fun _ => (if_neg (by omega)).symm
    | succ j ih =>
      intro hj
      rw [fb_it_s, ih (by omega)]
      by_cases e : j = k
      · subst e
        rw [if_neg (by omega), if_pos (by omega)]
        simp only [mf_arrK]
        rw [if_pos hp, if_pos h18, if_pos hd, if_pos hb]
      · have stay : ∀ R : fb_S, (R 18 j = M 18 j) → R 21 j = M 21 j → R 0 0 = M 0 0 → R 4 0 = M 4 0 → mf_btw R j u w = mf_btw M j u w → mf_arrK fr u w j R = R := fun R e18 e21 e0 e4 eb => by
          simp only [mf_arrK, e18, e21, e0, e4, eb]
          rw [if_pos hp]
          by_cases c1 : M 18 j = 3
          · rw [if_pos c1]
            by_cases c2 : M 21 j + M 0 0 = M 4 0
            · rw [if_pos c2, if_neg (hno j (by omega) e c1 c2)]
            · rw [if_neg c2]
          · rw [if_neg c1]
        by_cases c : k < j
        · rw [if_pos c, if_pos (by omega)]
          have nd : ∀ f i, mf_node (mf_arrive fr k u w M) f i = mf_node M f i := node_c (fun j => arr_keep (by omega)) (fun j => arr_keep (by omega))
          refine stay _ (arr_keep (by omega)) (arr_keep (by omega)) (arr_keep (by omega)) (arr_keep (by omega)) ?_
          have q18 : mf_arrive fr k u w M 18 j = M 18 j := arr_keep (by omega)
          have q19 : mf_arrive fr k u w M 19 j = M 19 j := arr_keep (by omega)
          have q16 : mf_arrive fr k u w M 16 j = M 16 j := arr_keep (by omega)
          simp only [mf_btw, q18, q19, q16, nd]
        · rw [if_neg c, if_neg (by omega)]
          exact stay M rfl rfl rfl rfl rfl
  have := key fr (Nat.le_refl _)
  rw [if_pos hk] at this
  exact this
end ARR
