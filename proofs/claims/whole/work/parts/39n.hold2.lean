/-! arrivals: a frame is held at the next switch; both sides -/
theorem here_c {R M : fb_S} {u v q : Int32} {k : Nat} (h7 : ∀ j, R 7 j = M 7 j) (h8 : ∀ j, R 8 j = M 8 j) (h9 : ∀ j, R 9 j = M 9 j) (h16 : R 16 k = M 16 k) (h18 : R 18 k = M 18 k) (h19 : R 19 k = M 19 k) : mf_here R u v q k = mf_here M u v q k := by
  have nd := node_c h7 h8
  have eb : mf_btw R k u v = mf_btw M k u v := by simp only [mf_btw, h16, h18, h19, nd]
  simp only [mf_here, eb, h9, h16, h18]
theorem qlen_c {R M : fb_S} {u v q : Int32} (h7 : ∀ j, R 7 j = M 7 j) (h8 : ∀ j, R 8 j = M 8 j) (h9 : ∀ j, R 9 j = M 9 j) (h16 : ∀ j, R 16 j = M 16 j) (h17 : ∀ j, R 17 j = M 17 j) (h18 : ∀ j, R 18 j = M 18 j) (h19 : ∀ j, R 19 j = M 19 j) : ∀ n, mf_qlen R u v q n = mf_qlen M u v q n := by
  intro n
  induction n with
  | zero => rfl
  | succ n ih => simp only [mf_qlen, ih, h17, here_c h7 h8 h9 (h16 n) (h18 n) (h19 n)]
section HOLD
variable {fl fr T z n k : Nat} {x M : fb_S}
theorem dv_hold (h : MID fl fr T 1 0 1 z x M) (hn : n < 32) (hk : k < fr) (e19 : x 19 (3 * n + 2) = nI k) (e43 : x 43 k = x 6 0) (hh : (8 : Int32) ≤ fb_tT n) (hp : cf_place (fb_up (cf_rem (3 * n + 2) x) 39 k (fb_tT n)) n k = true) (hz : z ≤ 32) : FS k x M (cf_deliver n x) (mf_arrive fr k (fb_tF n) (fb_tT n) M) ∧ mf_arrive fr k (fb_tF n) (fb_tT n) M 18 k = 1 ∧ MID fl fr T 1 0 1 (z + 1) (cf_deliver n x) (mf_arrive fr k (fb_tF n) (fb_tT n) M) ∧ cf_deliverA n x = 0 := by
  have h0 := h
  have hmuch : ¬ mf_much M fr k (fb_tF n) (fb_tT n) = true := (dv_much h hn hk).mp hp
  obtain ⟨k38, e18, hloc, clc, chb, h43, f, ht, hf, ef, enf, e16, ht4, w2, w3, w4, e33, ndT, h8⟩ := dv_pre h hn hk e19
  obtain ⟨ok, okm, hfl, hfr, hT1, hTb, hpa, hW, hSm, ⟨o, o1, o2⟩, Q, hG, hP, hF, hR, hK, hC, hO, hN, hE, hcr, hZ, hJ1, hJ2⟩ := h
  obtain ⟨L, hL⟩ := q_head hC.1 hfr (j := 3 * n + 2) (by omega) hk e19
  have nk : fb_n (nI k) = k := fb_nI (by omega)
  have x11 : x 11 n = fb_tT n := ok 11 n hn
  have hhost : ¬ cf_host (fb_tT n) = true := fun q => (tb_host n hn).mp q hh
  have e34 : nI (ht + 1) < x 34 f := h8.mp hh
  have ht3 : ht + 1 < 4 := by
    have hc : ∀ t, t < 4 → ∀ u : Int32, (u = 2 ∨ u = 4) → nI (t + 1) < u → t + 1 < 4 := by
      intro t ht u hu
      rcases hu with rfl | rfl
      · revert t; decide
      · revert t; decide
    exact hc ht ht4 _ (ok 34 f hf) e34
  have eend : ¬ M 19 k + 1 = mf_end M (M 16 k) := fun q => by
    rw [w2, nI_1, e16, ← (hR f hf).1] at q
    rw [q] at e34
    exact Int32.lt_irrefl e34
  obtain ⟨n2, hn2, e332, ndF2, ndT2, -⟩ := (hR f hf).2 (ht + 1) ht3 e34
  have eTF : fb_tT n = fb_tF n2 := ndT.symm.trans ndF2
  obtain ⟨p, hp2, ep⟩ := cp_pr ok k
  have e9 : M 9 (fb_n (M 16 k)) = nI p := (cp_e9 ok hfl hF hK hk).trans ep
  have okD := ok_deliver (i := n) hn ok hfr
  have eD : cf_deliver n x = cf_hold n k (fb_up (cf_rem (3 * n + 2) x) 39 k (fb_tT n)) := by
    simp only [cf_deliver]
    rw [e19, if_neg (nI_pos (by omega)), nk, if_pos e43, fb_up_F (cf_rem (3 * n + 2) x) _ _ _ (show (11 : Nat) ≠ 39 by decide), rem_k (by decide), x11, if_neg hhost, if_pos hp]
  have eA : cf_deliverA n x = 0 := by
    simp only [cf_deliverA]
    rw [e19, if_neg (nI_pos (by omega)), nk, if_pos e43, fb_up_F (cf_rem (3 * n + 2) x) _ _ _ (show (11 : Nat) ≠ 39 by decide), rem_k (by decide), x11, if_neg hhost]
  have hd := hold_step (n := n) (w := fb_tT n) e19 (by omega) ep hp2 w3 ht4 enf e34 e332 hn2
  rw [eD] at okD
  rw [eD]
  generalize cf_hold n k (fb_up (cf_rem (3 * n + 2) x) 39 k (fb_tT n)) = x' at *
  obtain ⟨r0, r18, r14, r42, r41, r38, r39, r40, r19, r20, r44, r21⟩ := hd
  have k1 : x' 38 k = 1 := (r38 k).trans (if_pos rfl)
  -- the reference up to its mark
  have m2_0 : ∀ F, (F ≠ 18 ∧ F ≠ 19 ∧ F ≠ 20 ∧ F ≠ 5) → ∀ j, mf_enq k (fb_up M 19 k (nI (ht + 1))) F j = M F j := fun F hF j => by
    simp only [mf_enq]
    rw [fb_up_F _ _ _ _ hF.2.2.2, fb_up_F _ _ _ _ hF.2.2.1, fb_up_F _ _ _ _ hF.1, fb_up_F _ _ _ _ hF.2.1]
  have m2_k : ∀ F, F ≠ 5 → ∀ j, j ≠ k → mf_enq k (fb_up M 19 k (nI (ht + 1))) F j = M F j := fun F hF j hj => by
    simp only [mf_enq]
    rw [fb_up_F _ _ _ _ hF, fb_up_i _ _ _ _ hj, fb_up_i _ _ _ _ hj, fb_up_i _ _ _ _ hj]
  have m2_18 : mf_enq k (fb_up M 19 k (nI (ht + 1))) 18 k = 1 := by
    simp only [mf_enq]
    rw [fb_up_F _ _ _ _ (by decide), fb_up_F _ _ _ _ (by decide), fb_up_same]
  have m2_19 : mf_enq k (fb_up M 19 k (nI (ht + 1))) 19 k = nI (ht + 1) := by
    simp only [mf_enq]
    rw [fb_up_F _ _ _ _ (by decide), fb_up_F _ _ _ _ (by decide), fb_up_F _ _ _ _ (by decide), fb_up_same]
  have m2_20 : mf_enq k (fb_up M 19 k (nI (ht + 1))) 20 k = nI o := by
    simp only [mf_enq]
    rw [fb_up_F _ _ _ _ (by decide), fb_up_same, fb_up_F _ _ _ _ (by decide), fb_up_F _ _ _ _ (by decide), o1]
  have m2_5 : mf_enq k (fb_up M 19 k (nI (ht + 1))) 5 0 = nI (o + 1) := by
    simp only [mf_enq]
    rw [fb_up_same, fb_up_F _ _ _ _ (by decide), fb_up_F _ _ _ _ (by decide), fb_up_F _ _ _ _ (by decide), o1, nI_1]
  have okm2 : fb_okM fl fr T (mf_enq k (fb_up M 19 k (nI (ht + 1)))) := fb_okM_up (fb_okM_up (fb_okM_up (fb_okM_up okm trivial) trivial) trivial) trivial
  have eM0 : mf_arrive fr k (fb_tF n) (fb_tT n) M = fb_up (fb_up (mf_enq k (fb_up M 19 k (nI (ht + 1)))) 22 k (fb_b (mf_mark (mf_enq k (fb_up M 19 k (nI (ht + 1)))) fr k (fb_tT n) (mf_node (mf_enq k (fb_up M 19 k (nI (ht + 1)))) (M 16 k) (mf_enq k (fb_up M 19 k (nI (ht + 1))) 19 k + 1)) (nI p)))) 26 (fb_g n) (fb_b (mf_ask (fb_up (mf_enq k (fb_up M 19 k (nI (ht + 1)))) 22 k (fb_b (mf_mark (mf_enq k (fb_up M 19 k (nI (ht + 1)))) fr k (fb_tT n) (mf_node (mf_enq k (fb_up M 19 k (nI (ht + 1)))) (M 16 k) (mf_enq k (fb_up M 19 k (nI (ht + 1))) 19 k + 1)) (nI p)))) fr (fb_tF n) (fb_tT n) (nI p))) := by
    simp only [mf_arrive]
    rw [if_neg eend, if_neg hmuch, w2, nI_1, e9, tb_gi n hn]
  rw [eM0]
  generalize mf_enq k (fb_up M 19 k (nI (ht + 1))) = m2 at *
  -- a store with x's marks
  have M3o : ∀ F, F ≠ 22 → ∀ j, fb_up m2 22 k (x' 40 k) F j = m2 F j := fun F hF j => fb_up_F _ _ _ _ hF
  have M3k : fb_up m2 22 k (x' 40 k) 22 k = x' 40 k := fb_up_same _ _ _ _
  have M3n : ∀ j, j ≠ k → fb_up m2 22 k (x' 40 k) 22 j = m2 22 j := fun j hj => fb_up_i _ _ _ _ hj
  have okM3 : fb_okM fl fr T (fb_up m2 22 k (x' 40 k)) := fb_okM_up okm2 (show x' 40 k = 0 ∨ x' 40 k = 1 from okD 40 k)
  have FSR : ∀ R : fb_S, (∀ F, (F ≠ 22 ∧ F ≠ 26) → ∀ j, R F j = m2 F j) → (∀ j, j ≠ k → R 22 j = m2 22 j) → FS k x M x' R := fun R ra rb => by
    refine ⟨fun F hF j => r0 F (by omega) j, fun F hF j => (ra F (by omega) j).trans (m2_0 F (by omega) j), fun F hF j hj => ?_, fun F hF j hj => ?_⟩
    · have hF : F = 38 ∨ F = 39 ∨ F = 40 ∨ F = 41 ∨ F = 42 ∨ F = 43 := by omega
      rcases hF with e | e | e | e | e | e
      · subst e; rw [r38, if_neg hj]
      · subst e; rw [r39, if_neg hj]
      · subst e; rw [r40, if_neg (fun q => hj q.1)]
      · subst e; rw [r41, if_neg hj]
      · subst e; rw [r42, if_neg hj]
      · subst e; exact r0 43 (by omega) j
    · by_cases e : F = 22
      · subst e
        rw [rb j hj, m2_k 22 (by omega) j hj]
      · rw [ra F (by omega) j, m2_k F (by omega) j hj]
  have KR : ∀ R : fb_S, FS k x M x' R → R 18 k = 1 → R 19 k = nI (ht + 1) → R 22 k = x' 40 k → cp_K fr x' R := fun R fs q18 q19 q22 => by
    refine fs_K fs hK (k1.trans q18.symm) q22.symm ?_ (Or.inl q18) (fun _ => ⟨ht + 1, ht3, q19, (r41 k).trans (if_pos rfl), ?_, fun _ => ?_, fun e => ?_, fun e => ?_⟩)
    · rw [r39, if_pos rfl, q19, e16, ndF2]
      exact ok 10 n2 hn2
    · rw [r0 36 (by omega), r0 34 (by omega), enf]
      exact e34
    · rw [if_neg (by omega), r42, if_pos rfl, r0 33 (by omega), r0 36 (by omega), enf, Nat.add_sub_cancel]
      exact e33.symm
    · rw [q18] at e; exact absurd e (by decide)
    · rw [q18] at e; exact absurd e (by decide)
  have fs3 : FS k x M x' (fb_up m2 22 k (x' 40 k)) := FSR _ (fun F hF j => M3o F hF.1 j) M3n
  have K3 := KR _ fs3 ((M3o 18 (by decide) k).trans m2_18) ((M3o 19 (by decide) k).trans m2_19) M3k
  have R3 := fs_R fs3 hR
  have F3 : cp_F fl x' (fb_up m2 22 k (x' 40 k)) := fs_F fs3 hF (fun g hg => by
    rw [r0 27 (by omega), M3o 14 (by decide), m2_0 14 (by decide)]
    exact (hF g hg).2.2.2.2.2)
  -- the class's queues
  have loc' : fb_loc x' k = nI n2 := by
    unfold fb_loc
    rw [r0 36 (by omega), enf, r41, if_pos rfl, fb_nI (by omega), r0 33 (by omega)]
    exact e332
  have prk' : fb_prk x' k = nI p := (fs_prk fs3 k).trans ep
  have lc' : fb_lc x' k = 3 * n2 + p := by
    unfold fb_lc
    rw [if_pos k1, loc', prk', fb_nI (by omega), fb_nI (by omega)]
  have hb' : fb_hb x' k = 2 * n + p := by
    unfold fb_hb
    rw [r42, if_pos rfl, if_neg (nI_pos (by omega)), if_pos k1, prk', fb_nI (by omega), fb_nI (by omega)]
  have ln := fb_lnI ok hk
  have C' : cp_C fr x' (fb_Qu (fb_Qu Q (3 * n + 2) L) (3 * n2 + p) (fb_Qu Q (3 * n + 2) L (3 * n2 + p) ++ [k])) := by
    unfold cp_C
    rw [fs_lc fs3 lc', fs_hb fs3 hb', fs_ln fs3]
    have q1 : ci_q fr (cf_rem (3 * n + 2) x) (fb_cu (fb_lc x) k 200) (fb_Qu Q (3 * n + 2) L) := ci_q_rem hC.1 hfr (by omega) hL (by omega) (fun _ => rfl) (fun _ => rfl) (fun _ => rfl)
    have q2 := ci_q_add (t := x') (k := k) (b := 3 * n2 + p) q1 hfr (by omega) hk (by simp only [fb_cu, if_pos]; omega) r19 r20 r44
    rw [cu_cu] at q2
    refine ⟨q2, fun j hj => ?_, fun i hi a ha => ?_, fun j hj => ?_⟩
    · refine sm_mv hk (hC.2.1 j hj) (fun e => by omega) ?_
      rw [r21, ← ln.1, clc]
      by_cases e : j = 3 * n2 + p
      · rw [if_pos e, if_neg (show ¬ 3 * n + 2 = j by omega), if_pos e.symm]
      · rw [if_neg e]
        by_cases e2 : j = 3 * n + 2
        · rw [if_pos e2, if_pos e2.symm]
        · rw [if_neg e2, if_neg (Ne.symm e2), if_neg (Ne.symm e)]
    · rw [r0 13 (by omega), hC.2.2.1 i hi a ha]
      unfold fb_cu
      by_cases e : a = k
      · rw [if_pos e, e, clc]
        exact ⟨fun e => by omega, fun e => by omega⟩
      · rw [if_neg e]
    · refine sm_mv hk (hC.2.2.2 j hj) (fun e => by omega) ?_
      rw [r18, ← ln.1, chb, if_neg (show ¬ 200 = j by omega)]
      by_cases e : j = 2 * n + p
      · rw [if_pos e, if_pos e.symm]
      · rw [if_neg e, if_neg (Ne.symm e)]
  -- its mark
  have eq3 : mf_qlen m2 (fb_tT n) (fb_tT n2) (nI p) fr = x' 21 (3 * n2 + p) := by
    rw [C'.2.1 (3 * n2 + p) (by omega), ← cp_q_sum okD hfl R3 K3 hn2 hp2, ← cp_qlen okD hfl F3 R3 K3 (nI p) hn2 fr (Nat.le_refl _), eTF]
    exact (qlen_c (fun j => M3o 7 (by decide) j) (fun j => M3o 8 (by decide) j) (fun j => M3o 9 (by decide) j) (fun j => M3o 16 (by decide) j) (fun j => M3o 17 (by decide) j) (fun j => M3o 18 (by decide) j) (fun j => M3o 19 (by decide) j) fr).symm
  have x40 : x 40 k = M 22 k := (hK k hk).2.2.2.1
  have emark : fb_b (mf_mark m2 fr k (fb_tT n) (mf_node m2 (M 16 k) (m2 19 k + 1)) (nI p)) = x' 40 k := by
    rw [m2_19, nI_1, e16, node_c (fun j => m2_0 7 (by decide) j) (fun j => m2_0 8 (by decide) j), ndT2]
    simp only [mf_mark]
    rw [eq3, m2_0 22 (by decide), m2_0 3 (by decide), ← hG.2.2.2.1, ← x40, r40]
    by_cases c : x' 21 (3 * n2 + p) ≤ x 3 0
    · rw [if_pos c, if_neg (show ¬ (k = k ∧ ¬ x' 21 (3 * n2 + p) ≤ x 3 0) from fun q => q.2 c)]
      rcases (show x 40 k = 0 ∨ x 40 k = 1 from ok 40 k) with e | e
      · rw [e, if_pos rfl]; rfl
      · rw [e, if_neg (by decide)]; rfl
    · rw [if_neg c, if_pos (show k = k ∧ ¬ x' 21 (3 * n2 + p) ≤ x 3 0 from ⟨rfl, c⟩)]
      by_cases c2 : x 40 k = 0
      · rw [if_pos c2]; rfl
      · rw [if_neg c2]; rfl
  rw [emark]
  -- its ask
  have eask : fb_b (mf_ask (fb_up m2 22 k (x' 40 k)) fr (fb_tF n) (fb_tT n) (nI p)) = x' 14 n := by
    have eh : mf_holds (fb_up m2 22 k (x' 40 k)) (fb_tF n) (fb_tT n) (nI 0) fr = x' 18 (2 * n + 0) := by
      rw [C'.2.2.2 (2 * n + 0) (by omega), ← cp_h_sum okD K3 hn (by omega), ← cp_holds okD hfl F3 R3 K3 (m' := fb_up m2 22 k (x' 40 k)) (fun _ _ _ _ => rfl) (fun _ _ q => q) (nI 0) hn fr (Nat.le_refl _)]
    rw [nI_0, Nat.add_zero] at eh
    simp only [mf_ask]
    rw [eh, tb_gi n hn, M3o 26 (by decide), m2_0 26 (by decide), ← (hP n hn).2.2.2, M3o 1 (by decide), m2_0 1 (by decide), ← hG.2.1, r14, r18]
    rcases (show x 14 n = 0 ∨ x 14 n = 1 from ok 14 n) with e | e
    · rw [e, if_pos rfl]
      rcases (show p = 0 ∨ p = 1 by omega) with hp0 | hp1
      · subst hp0
        rw [if_pos nI_0, if_pos (show 2 * n = 2 * n + 0 by omega)]
        by_cases c : x 18 (2 * n) + x 37 k < x 1 0
        · rw [if_pos c, if_neg (fun q => q.2.2 c)]; rfl
        · rw [if_neg c, if_pos ⟨rfl, rfl, c⟩]; rfl
      · subst hp1
        rw [if_neg (show ¬ nI 1 = 0 by decide), if_neg (fun q => absurd q.2.1 (by decide))]; rfl
    · rw [e, if_neg (by decide)]
      split <;> rfl
  rw [eask]
  have okM' : fb_okM fl fr T (fb_up (fb_up m2 22 k (x' 40 k)) 26 (fb_g n) (x' 14 n)) := fb_okM_up okM3 (show x' 14 n = 0 ∨ x' 14 n = 1 from okD 14 n)
  have M4o : ∀ F, F ≠ 26 → ∀ j, fb_up (fb_up m2 22 k (x' 40 k)) 26 (fb_g n) (x' 14 n) F j = fb_up m2 22 k (x' 40 k) F j := fun F hF j => fb_up_F _ _ _ _ hF
  have M4s : fb_up (fb_up m2 22 k (x' 40 k)) 26 (fb_g n) (x' 14 n) 26 (fb_g n) = x' 14 n := fb_up_same _ _ _ _
  have M4n : ∀ j, j ≠ fb_g n → fb_up (fb_up m2 22 k (x' 40 k)) 26 (fb_g n) (x' 14 n) 26 j = M 26 j := fun j hj => by
    rw [fb_up_i _ _ _ _ hj, M3o 26 (by decide), m2_0 26 (by decide)]
  generalize fb_up m2 22 k (x' 40 k) = M3 at *
  generalize fb_up M3 26 (fb_g n) (x' 14 n) = M' at *
  have t2 : ∀ F, (F ≠ 22 ∧ F ≠ 26) → ∀ j, M' F j = m2 F j := fun F hF j => (M4o F hF.2 j).trans (M3o F hF.1 j)
  have t0 : ∀ F, (F ≠ 18 ∧ F ≠ 19 ∧ F ≠ 20 ∧ F ≠ 5 ∧ F ≠ 22 ∧ F ≠ 26) → ∀ j, M' F j = M F j := fun F hF j => (t2 F (by omega) j).trans (m2_0 F (by omega) j)
  have fs : FS k x M x' M' := FSR M' t2 (fun j hj => (M4o 22 (by decide) j).trans (M3n j hj))
  have t18 : M' 18 k = 1 := (t2 18 (by decide) k).trans m2_18
  have t19 : M' 19 k = nI (ht + 1) := (t2 19 (by decide) k).trans m2_19
  have t20 : M' 20 k = nI o := (t2 20 (by decide) k).trans m2_20
  have t5 : M' 5 0 = nI (o + 1) := (t2 5 (by decide) 0).trans m2_5
  have t22 : M' 22 k = x' 40 k := (M4o 22 (by decide) k).trans M3k
  have a20 : ∀ j, j ≠ k → M' 20 j = M 20 j := fun j hj => (t2 20 (by decide) j).trans (m2_k 20 (by decide) j hj)
  refine ⟨fs, t18, ?_, eA⟩
  refine fs_M (k := k) h0 fs (fun j hj => ?_) okD okM' ?_ ?_ ⟨o + 1, t5, by omega⟩ ?_ ?_ (fun f _ => t0 14 (by omega) f) (KR M' fs t18 t19 t22) C' ?_ ?_ ?_ (fun _ => by rw [e18]; decide) (fun _ e => by rw [t18] at e; exact absurd e (by decide))
  · rw [M4o 22 (by decide), M3n j (by omega), m2_0 22 (by decide)]
  · exact fs_W fs hW ⟨fun e => by rw [t18] at e; exact absurd e (by decide), fun e => by rw [t18] at e; exact absurd e (by decide), fun e => by rw [t18] at e; exact absurd e (by decide)⟩
  · exact fs_S fs hSm (r0 28 (by omega)) (by rw [e18]; decide) (by rw [t18]; decide)
  · intro c hc
    rw [r0 12 (by omega), r0 17 (by omega), r0 17 (by omega), t0 23 (by omega), t0 24 (by omega), t0 24 (by omega)]
    refine ⟨(hP c hc).1, (hP c hc).2.1, (hP c hc).2.2.1, ?_⟩
    by_cases e : c = n
    · rw [e, M4s]
    · rw [M4n _ (fun q => e (tb_g c hc n hn q)), r14, if_neg (fun q => e q.1)]
      exact (hP c hc).2.2.2
  · intro g hg
    rw [r0 27 (by omega), t0 14 (by omega)]
    exact (hF g hg).2.2.2.2.2
  · refine ⟨fun a ha => ?_, fun i q hi hq => ?_, fun i hi => ?_⟩
    · by_cases e : a = k
      · rw [e, t20, t5]
        exact ⟨nI_pos (by omega), nI_lt (by omega) (by omega)⟩
      · rw [a20 a e, t5]
        obtain ⟨b1, b2⟩ := hO.1 a ha
        refine ⟨b1, ?_⟩
        obtain ⟨w, hw, ew⟩ := nI_of b1
        rw [ew, o1] at b2
        rw [ew]
        have := (nI_ltI hw (by omega)).mp b2
        exact nI_lt (by omega) (by omega)
    · have mem : ∀ a, a ∈ Q (3 * i + q) → a < fr ∧ a ≠ k := fun a ha => by
        have := ((hC.1 (3 * i + q) (by omega)).2.2 a).mp ha
        refine ⟨this.1, fun e => ?_⟩
        rw [e, clc] at this
        omega
      have e1 : fb_Qu Q (3 * n + 2) L (3 * i + q) = Q (3 * i + q) := if_neg (by omega)
      by_cases e : 3 * i + q = 3 * n2 + p
      · have e2 : fb_Qu (fb_Qu Q (3 * n + 2) L) (3 * n2 + p) (fb_Qu Q (3 * n + 2) L (3 * n2 + p) ++ [k]) (3 * i + q) = Q (3 * i + q) ++ [k] := by
          rw [← e]
          exact (if_pos rfl).trans (by rw [e1])
        rw [e2]
        refine pw_snoc (pw_c (fun a ha => a20 a (mem a ha).2) (hO.2.1 i q hi hq)) (fun a ha => ?_)
        rw [a20 a (mem a ha).2, t20, ← o1]
        exact (hO.1 a (mem a ha).1).2
      · have e2 : fb_Qu (fb_Qu Q (3 * n + 2) L) (3 * n2 + p) (fb_Qu Q (3 * n + 2) L (3 * n2 + p) ++ [k]) (3 * i + q) = Q (3 * i + q) := (if_neg e).trans e1
        rw [e2]
        exact pw_c (fun a ha => a20 a (mem a ha).2) (hO.2.1 i q hi hq)
    · have e2 : fb_Qu (fb_Qu Q (3 * n + 2) L) (3 * n2 + p) (fb_Qu Q (3 * n + 2) L (3 * n2 + p) ++ [k]) (3 * i + 2) = fb_Qu Q (3 * n + 2) L (3 * i + 2) := if_neg (by omega)
      rw [e2]
      by_cases ei : i = n
      · subst ei
        have e : fb_Qu Q (3 * i + 2) L (3 * i + 2) = L := if_pos rfl
        rw [e]
        have := hO.2.2 i hi
        rw [hL] at this
        exact pw_c (fun a _ => r0 43 (by omega) a) (List.pairwise_cons.mp this).2
      · have e : fb_Qu Q (3 * n + 2) L (3 * i + 2) = Q (3 * i + 2) := if_neg (by omega)
        rw [e]
        exact pw_c (fun a _ => r0 43 (by omega) a) (hO.2.2 i hi)
  · exact fs_N fs hfr hN (r0 30 (by omega)) (r0 31 (by omega)) (r0 32 (by omega)) (by rw [e18]; decide) (by rw [t18]; decide)
  · intro j hj
    rw [r0 17 (by omega), r0 12 (by omega)]
    exact hcr j hj
end HOLD
