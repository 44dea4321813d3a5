/-! what the functions look at -/
theorem end_c {m' m : fb_S} (h7 : ∀ j, m' 7 j = m 7 j) (h8 : ∀ j, m' 8 j = m 8 j) (f : Int32) : mf_end m' f = mf_end m f := by
  simp only [mf_end, h7, h8]
theorem node_c {m' m : fb_S} (h7 : ∀ j, m' 7 j = m 7 j) (h8 : ∀ j, m' 8 j = m 8 j) (f i : Int32) : mf_node m' f i = mf_node m f i := by
  simp only [mf_node, end_c h7 h8, h7, h8]
theorem count_c {m' m : fb_S} {n : Nat} (h16 : ∀ j, j < n → m' 16 j = m 16 j) (h18 : ∀ j, j < n → m' 18 j = m 18 j) (f x : Int32) : mf_count m' f x n = mf_count m f x n := by
  induction n with
  | zero => rfl
  | succ n ih => simp only [mf_count, h16 n (by omega), h18 n (by omega), ih (fun j hj => h16 j (by omega)) (fun j hj => h18 j (by omega))]
theorem last_c {m' m : fb_S} {n : Nat} (h6 : m' 6 0 = m 6 0) (h16 : ∀ j, j < n → m' 16 j = m 16 j) (h18 : ∀ j, j < n → m' 18 j = m 18 j) (h21 : ∀ j, j < n → m' 21 j = m 21 j) (hn : n < 2 ^ 31) (f : Int32) : mf_last m' f n = mf_last m f n := by
  induction n with
  | zero => rfl
  | succ n ih =>
    have ih := ih (fun j hj => h16 j (by omega)) (fun j hj => h18 j (by omega)) (fun j hj => h21 j (by omega)) (by omega)
    have hF : mf_isF m' f = mf_isF m f := by simp only [mf_isF, h6]
    have hr : mf_rcv m' f n = mf_rcv m f n := by simp only [mf_rcv, h16 n (by omega), h18 n (by omega)]
    simp only [mf_last, hF, hr, ih, h21 n (by omega)]
    by_cases c : mf_last m f n < 0
    · rw [if_pos c]
      simp only [if_pos c]
    · have := fb_rl (rg_last m f n (by omega)) c
      rw [h21 _ (by omega)]
theorem paused_c {m' m : fb_S} (h0 : m' 0 0 = m 0 0) (h4 : m' 4 0 = m 4 0) (u v : Int32) (h27 : m' 27 (fb_n (mf_pidx m u v)) = m 27 (fb_n (mf_pidx m u v))) : mf_paused m' u v = mf_paused m u v := by
  have e : mf_pidx m' u v = mf_pidx m u v := by simp only [mf_pidx, h0, h4]
  unfold mf_paused
  rw [e, h0, h4, h27]
theorem loc_c {s' s : fb_S} {k : Nat} (h33 : ∀ j, s' 33 j = s 33 j) (h36 : s' 36 k = s 36 k) (h41 : s' 41 k = s 41 k) : fb_loc s' k = fb_loc s k := by
  simp only [fb_loc, h33, h36, h41]
theorem prk_c {s' s : fb_S} {k : Nat} (h22 : ∀ j, s' 22 j = s 22 j) (h36 : s' 36 k = s 36 k) : fb_prk s' k = fb_prk s k := by
  simp only [fb_prk, h22, h36]
theorem lc_c {s' s : fb_S} {k : Nat} (h38 : s' 38 k = s 38 k) (hl : fb_loc s' k = fb_loc s k) (hp : fb_prk s' k = fb_prk s k) : fb_lc s' k = fb_lc s k := by
  simp only [fb_lc, h38, hl, hp]
theorem hb_c {s' s : fb_S} {k : Nat} (h38 : s' 38 k = s 38 k) (h42 : s' 42 k = s 42 k) (hp : fb_prk s' k = fb_prk s k) : fb_hb s' k = fb_hb s k := by
  simp only [fb_hb, h38, h42, hp]
theorem ln_c {s' s : fb_S} {k : Nat} (h37 : s' 37 k = s 37 k) : fb_ln s' k = fb_ln s k := by
  simp only [fb_ln, h37]
theorem cpC_congr {fr : Nat} {s s' : fb_S} {Q : Nat → List Nat} (h : cp_C fr s Q) (hs : ∀ F j, F ≠ 7 → s' F j = s F j) : cp_C fr s' Q := by
  obtain ⟨hq, hl, hz, hh⟩ := h
  have elc : ∀ k, fb_lc s' k = fb_lc s k := fun k => lc_c (hs 38 k (by decide)) (loc_c (fun j => hs 33 j (by decide)) (hs 36 k (by decide)) (hs 41 k (by decide))) (prk_c (fun j => hs 22 j (by decide)) (hs 36 k (by decide)))
  have ehb : ∀ k, fb_hb s' k = fb_hb s k := fun k => hb_c (hs 38 k (by decide)) (hs 42 k (by decide)) (prk_c (fun j => hs 22 j (by decide)) (hs 36 k (by decide)))
  have eln : ∀ k, fb_ln s' k = fb_ln s k := fun k => ln_c (hs 37 k (by decide))
  refine ⟨ci_q_congr hq (fun j => hs 19 j (by decide)) (fun j => hs 20 j (by decide)) (fun j => hs 44 j (by decide)) (fun k _ => elc k), fun j hj => ?_, fun i hi k hk => ?_, fun j hj => ?_⟩
  · rw [hs 21 j (by decide), hl j hj, ci_sum_congr (fun k _ => ⟨elc k, eln k⟩)]
  · rw [hs 13 i (by decide), hz i hi k hk, elc]
  · rw [hs 18 j (by decide), hh j hj, ci_sum_congr (fun k _ => ⟨ehb k, eln k⟩)]
theorem co_share {fl fr T : Nat} {s m : fb_S} (h : CO fl fr T s m) (q x : Int32) : cf_shareA q x = mf_shareA q x ∧ CP fl fr T (cf_share q x s) (mf_share q x m) := by
  obtain ⟨ok, okm, hfl, hfr, hTb, hCP⟩ := h
  have hcases : (cf_prio q = true ∧ ¬ q < 0 ∧ ¬ 1 < q) ∨ (¬ cf_prio q = true ∧ (q < 0 ∨ (¬ q < 0 ∧ 1 < q))) := by
    by_cases c : cf_prio q = true
    · refine Or.inl ⟨c, fb_vp (fb_prio c), ?_⟩
      rcases fb_prio01 c with rfl | rfl <;> decide
    · refine Or.inr ⟨c, ?_⟩
      by_cases c0 : q < 0
      · exact Or.inl c0
      · refine Or.inr ⟨c0, ?_⟩
        by_cases c1 : 1 < q
        · exact c1
        · exact absurd ((prio_iff q).mpr (fb_01 c0 c1)) c
  unfold cf_shareA mf_shareA cf_share mf_share
  rcases hcases with ⟨a, b, c⟩ | ⟨a, b | ⟨b, c⟩⟩
  · rw [if_pos a, if_pos a, if_neg b, if_neg b, if_neg c, if_neg c]
    refine ⟨rfl, ?_⟩
    by_cases x1 : x < 1
    · rw [if_pos x1, if_pos x1]; exact hCP
    · rw [if_neg x1, if_neg x1]
      by_cases x8 : x ≤ 8
      · rw [if_pos x8, if_pos x8]
        obtain ⟨Q, hG, hP, hF, hR, hK, hC, hO, hT, hA, hB, hN, hE, hcr, hZ⟩ := hCP
        have hs : ∀ F j, F ≠ 7 → fb_up s 7 (fb_n q) x F j = s F j := fun F j hF => fb_up_F s _ _ x hF
        have hm : ∀ F j, F ≠ 25 → fb_up m 25 (fb_n q) x F j = m F j := fun F j hF => fb_up_F m _ _ x hF
        generalize hs' : fb_up s 7 (fb_n q) x = s' at *
        generalize hm' : fb_up m 25 (fb_n q) x = m' at *
        have g7 : s' 7 0 = m' 25 0 ∧ s' 7 1 = m' 25 1 := by
          rw [← hs', ← hm']
          rcases fb_prio01 a with rfl | rfl
          · refine ⟨?_, ?_⟩
            · rw [show fb_n 0 = 0 from rfl, fb_up_same, fb_up_same]
            · rw [show fb_n 0 = 0 from rfl, fb_up_i _ _ _ _ (by decide), fb_up_i _ _ _ _ (by decide)]
              exact hG.2.2.2.2.2.2
          · refine ⟨?_, ?_⟩
            · rw [show fb_n 1 = 1 from rfl, fb_up_i _ _ _ _ (by decide), fb_up_i _ _ _ _ (by decide)]
              exact hG.2.2.2.2.2.1
            · rw [show fb_n 1 = 1 from rfl, fb_up_same, fb_up_same]
        have nd : ∀ f i, mf_node m' f i = mf_node m f i := node_c (fun j => hm 7 j (by decide)) (fun j => hm 8 j (by decide))
        have en : ∀ f, mf_end m' f = mf_end m f := end_c (fun j => hm 7 j (by decide)) (fun j => hm 8 j (by decide))
        refine ⟨Q, ⟨?_, ?_, ?_, ?_, ?_, g7.1, g7.2⟩, ?_, ?_, ?_, ?_, cpC_congr hC hs, ?_, ?_, ?_, ?_, ?_, ?_, ?_, ?_⟩
        · rw [hs 0 0 (by decide), hm 0 0 (by decide)]; exact hG.1
        · rw [hs 1 0 (by decide), hm 1 0 (by decide)]; exact hG.2.1
        · rw [hs 2 0 (by decide), hm 2 0 (by decide)]; exact hG.2.2.1
        · rw [hs 3 0 (by decide), hm 3 0 (by decide)]; exact hG.2.2.2.1
        · rw [hs 6 0 (by decide), hm 4 0 (by decide)]; exact hG.2.2.2.2.1
        · intro i hi
          rw [hs 12 _ (by decide), hs 17 _ (by decide), hs 17 _ (by decide), hs 14 _ (by decide), hm 23 _ (by decide), hm 24 _ (by decide), hm 24 _ (by decide), hm 26 _ (by decide)]
          exact hP i hi
        · intro f hf
          rw [hs 22 _ (by decide), hs 23 _ (by decide), hs 24 _ (by decide), hs 25 _ (by decide), hs 26 _ (by decide), hs 27 _ (by decide), hm 9 _ (by decide), hm 10 _ (by decide), hm 11 _ (by decide), hm 12 _ (by decide), hm 13 _ (by decide), hm 14 _ (by decide)]
          exact hF f hf
        · intro f hf
          simp only [hs 34 _ (by decide), hs 33 _ (by decide), nd, en]
          exact hR f hf
        · intro k hk
          simp only [cp_way, hs 36 _ (by decide), hs 37 _ (by decide), hs 38 _ (by decide), hs 40 _ (by decide), hs 35 _ (by decide), hs 39 _ (by decide), hs 41 _ (by decide), hs 34 _ (by decide), hs 42 _ (by decide), hs 33 _ (by decide), hs 43 _ (by decide), hm 16 _ (by decide), hm 17 _ (by decide), hm 18 _ (by decide), hm 22 _ (by decide), hm 19 _ (by decide), hm 21 _ (by decide), hm 0 _ (by decide), nd]
          exact hK k hk
        · simp only [cp_O, hm 20 _ (by decide), hm 5 _ (by decide), hs 43 _ (by decide)]
          exact hO
        · simp only [cp_T, hm 18 _ (by decide), hm 21 _ (by decide), hm 5 _ (by decide), hs 0 _ (by decide)]
          exact hT
        · intro i hi
          rw [paused_c (hm 0 0 (by decide)) (hm 4 0 (by decide)) _ _ (hm 27 _ (by decide))]
          simp only [hs 16 _ (by decide), hs 15 _ (by decide), hm 27 _ (by decide)]
          exact hA i hi
        · simp only [cp_B, hs 28 _ (by decide), hs 29 _ (by decide), hm 16 _ (by decide), hm 18 _ (by decide), hm 22 _ (by decide), hm 21 _ (by decide)]
          exact hB
        · intro f hf
          rw [hs 30 _ (by decide), hs 31 _ (by decide), hs 32 _ (by decide), count_c (fun j _ => hm 16 j (by decide)) (fun j _ => hm 18 j (by decide)), count_c (fun j _ => hm 16 j (by decide)) (fun j _ => hm 18 j (by decide)), last_c (hm 6 0 (by decide)) (fun j _ => hm 16 j (by decide)) (fun j _ => hm 18 j (by decide)) (fun j _ => hm 21 j (by decide)) (by omega)]
          exact hN f hf
        · simp only [cp_E, hm 7 _ (by decide), hm 8 _ (by decide)]
          exact hE
        · simp only [cp_cr, hs 17 _ (by decide), hs 12 _ (by decide)]
          exact hcr
        · simp only [cp_Z, hm 13 _ (by decide), hm 14 _ (by decide), hm 22 _ (by decide)]
          exact hZ
      · rw [if_neg x8, if_neg x8]; exact hCP
  · rw [if_neg a, if_neg a, if_pos b, if_pos b]
    exact ⟨rfl, hCP⟩
  · rw [if_neg a, if_neg a, if_neg b, if_neg b, if_pos c, if_pos c]
    exact ⟨rfl, hCP⟩
theorem near_rg {v lo hi : Int32} (h : lo ≤ hi) : cf_near v lo hi = mf_near v lo hi ∧ lo ≤ mf_near v lo hi ∧ mf_near v lo hi ≤ hi := by
  unfold cf_near mf_near
  simp only [Int32.lt_iff_toInt_lt, Int32.le_iff_toInt_le] at *
  refine ⟨?_, ?_, ?_⟩
  all_goals
    repeat' split
    all_goals first | rfl | omega | exact Int32.toInt_inj.mp (by omega)
theorem co_init (d x r k : Int32) : CP 0 0 0 (cf_st0 (cf_near d 1 8) (cf_near x 4 40) (cf_near r 0 40) (cf_near k 1 40)) (mf_st0 (mf_near d 1 8) (mf_near x 4 40) (mf_near r 0 40) (mf_near k 1 40)) := by
  have n0 := near_rg (v := d) (show (1 : Int32) ≤ 8 by decide)
  have n1 := near_rg (v := x) (show (4 : Int32) ≤ 40 by decide)
  have n2 := near_rg (v := r) (show (0 : Int32) ≤ 40 by decide)
  have n3 := near_rg (v := k) (show (1 : Int32) ≤ 40 by decide)
  rw [n0.1, n1.1, n2.1, n3.1]
  have h0 : (0 : Int32) ≤ mf_near d 1 8 := by
    have a := Int32.le_iff_toInt_le.mp n0.2.1
    refine Int32.le_iff_toInt_le.mpr ?_
    have e1 : (1 : Int32).toInt = 1 := by decide
    have e0 : (0 : Int32).toInt = 0 := by decide
    omega
  generalize mf_near d 1 8 = d' at *
  generalize mf_near x 4 40 = x' at *
  generalize mf_near r 0 40 = r' at *
  generalize mf_near k 1 40 = k' at *
  refine ⟨fun _ => [], ⟨rfl, rfl, rfl, rfl, rfl, rfl, rfl⟩, fun i hi => ⟨rfl, rfl, rfl, rfl⟩, fun f hf => by omega, fun f hf => by omega, fun k hk => by omega, ⟨fun j hj => ⟨⟨trivial, rfl, rfl⟩, List.nodup_nil, fun k => ⟨fun h => (by cases h), fun h => by omega⟩⟩, fun j hj => rfl, fun i hi k hk => by omega, fun j hj => rfl⟩, ⟨fun k hk => by omega, fun i q hi hq => List.Pairwise.nil, fun i hi => List.Pairwise.nil⟩, ⟨fun k hk => by omega, 0, rfl, by omega⟩, fun i hi => ⟨?_, 0, by omega, rfl, fun j hj => ?_⟩, fun f hf => by omega, fun f hf => by omega, fun f hf => by omega, fun j hj => ?_, fun f _ => ⟨rfl, rfl⟩, fun k _ => rfl⟩
  · have e : mf_paused (mf_st0 d' x' r' k') (fb_tF i) (fb_tT i) = false := if_pos h0
    rw [e]
    rfl
  · rw [Nat.zero_testBit]
    exact ⟨fun h => (by cases h), fun h => by omega⟩
  · exact ⟨(show (0 : Int32) ≤ 0 by decide), (show (0 : Int32) ≤ 11 by decide), fun _ => (show (0 : Int32) ≤ 3 by decide)⟩
