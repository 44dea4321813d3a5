/-! inject: pure -/
theorem ci_q_congr2 {fr : Nat} {s t : fb_S} {c c' : Nat → Nat} {Q : Nat → List Nat} (h : ci_q fr s c Q) (e19 : ∀ j, t 19 j = s 19 j) (e20 : ∀ j, t 20 j = s 20 j) (e44 : ∀ x, x < fr → t 44 x = s 44 x) (ec : ∀ k, k < fr → c' k = c k) : ci_q fr t c' Q := fun j hj => by
  obtain ⟨a, b, d⟩ := h j hj
  refine ⟨fb_qu_congr (fun k hk => e44 k ((d k).mp hk).1) (e19 j) (e20 j) a, b, fun k => ?_⟩
  rw [d k]
  exact ⟨fun q => ⟨q.1, (ec k q.1).trans q.2⟩, fun q => ⟨q.1, (ec k q.1).symm.trans q.2⟩⟩
theorem ci_q_ext {fr : Nat} {s : fb_S} {c : Nat → Nat} {Q : Nat → List Nat} (h : ci_q fr s c Q) : ci_q (fr + 1) s (fb_cu c fr 200) Q := fun j hj => by
  obtain ⟨a, b, d⟩ := h j hj
  refine ⟨a, b, fun k => ?_⟩
  rw [d k]
  unfold fb_cu
  by_cases e : k = fr
  · subst e
    rw [if_pos rfl]
    exact ⟨fun q => by omega, fun q => by omega⟩
  · rw [if_neg e]
    exact ⟨fun q => ⟨by omega, q.2⟩, fun q => ⟨by omega, q.2⟩⟩
theorem cf_add_21 {j k : Nat} {s : fb_S} {i : Nat} : cf_add j k s 21 i = if i = j then s 21 j + s 37 k else s 21 i := by
  simp only [cf_add]
  by_cases e : i = j
  · subst e
    rw [if_pos rfl, fb_up_same]
    congr 1
    · rw [fb_up_F _ _ _ _ (by decide)]
      split
      · rw [fb_up_F _ _ _ _ (by decide), fb_up_F _ _ _ _ (by decide)]
      · rw [fb_up_F _ _ _ _ (by decide), fb_up_F _ _ _ _ (by decide)]
    · rw [fb_up_F _ _ _ _ (by decide)]
      split
      · rw [fb_up_F _ _ _ _ (by decide), fb_up_F _ _ _ _ (by decide)]
      · rw [fb_up_F _ _ _ _ (by decide), fb_up_F _ _ _ _ (by decide)]
  · rw [if_neg e, fb_up_i _ _ _ _ e, fb_up_F _ _ _ _ (by decide)]
    split
    · rw [fb_up_F _ _ _ _ (by decide), fb_up_F _ _ _ _ (by decide)]
    · rw [fb_up_F _ _ _ _ (by decide), fb_up_F _ _ _ _ (by decide)]
theorem injU_m {fr : Nat} {f n : Int32} {m : fb_S} {F j : Nat} (h : F ≠ 15 ∧ F ≠ 5 ∧ (F < 16 ∨ F = 21 ∨ 21 < F ∨ j ≠ fr)) : mf_injU fr f n m F j = m F j := by
  have key : ∀ (x : fb_S) (G : Nat) (w : Int32), 16 ≤ G → G ≤ 20 → fb_up x G fr w F j = x F j := fun x G w g1 g2 => by
    by_cases e : F = G
    · exact fb_up_i x _ _ w (by omega)
    · exact fb_up_F x _ _ w e
  simp only [mf_injU, mf_enq]
  rw [fb_up_F _ _ _ _ h.1, fb_up_F _ _ _ _ h.2.1, key _ 20 _ (by omega) (by omega), key _ 18 _ (by omega) (by omega), key _ 19 _ (by omega) (by omega), key _ 17 _ (by omega) (by omega), key _ 16 _ (by omega) (by omega)]
theorem co_inject {fl fr T : Nat} {s m : fb_S} (h : CO fl fr T s m) (f n : Int32) : cf_injA s f n = mf_injA m f n ∧ cf_frC s fr f n = mf_frC m fr f n ∧ CP fl (cf_frC s fr f n) T (cf_inj fr f n s) (mf_inj fr f n m) := by
  obtain ⟨ok, okm, hfl, hfr, hTb, hCP⟩ := h
  have h5 : s 5 0 = nI fr := ok 5 0 rfl
  have h15 : m 15 0 = nI fr := okm 15 0 rfl
  unfold cf_injA mf_injA cf_frC mf_frC cf_inj mf_inj
  rw [h5, h15]
  rcases flowAt_spec ok okm hfl f with ⟨hF1, g, hg, rfl, hz⟩ | ⟨hF1, hz⟩
  · rw [hz]
    simp only [if_neg (nI_pos (show g < 2 ^ 31 by omega)), if_pos hF1]
    by_cases c1 : n < 1
    · simp only [if_pos c1]
      exact ⟨trivial, trivial, hCP⟩
    · simp only [if_neg c1]
      by_cases c4 : 4 < n
      · simp only [if_pos c4]
        exact ⟨trivial, trivial, hCP⟩
      · simp only [if_neg c4]
        by_cases c100 : nI fr < 100
        · simp only [if_pos c100]
          refine ⟨trivial, trivial, ?_⟩
          have hf100 : fr < 100 := fb_lt100 rfl hfr c100
          obtain ⟨Q, hG, hP, hF, hR, hK, hC, hO, hT, hA, hB, hN, hE, hcr, hZ⟩ := hCP
          obtain ⟨o, ho, hob⟩ := hT.2
          -- the port
          have e34 : s 34 g = 2 ∨ s 34 g = 4 := ok 34 g hg
          have lt0 : nI 0 < s 34 g := by rcases e34 with e | e <;> rw [e] <;> decide
          obtain ⟨i0, hi0, r1, r2, r3, r4, r5⟩ := (hR g hg).2 0 (by omega) lt0
          obtain ⟨p, hp, ep⟩ : ∃ p, p < 2 ∧ s 22 g = nI p := by
            obtain ⟨p, hp, e⟩ := vp_in_of (fb_v01 (ok 22 g)) (by decide)
            exact ⟨p, hp, e⟩
          -- the class's store
          have hs0 : ∀ F j, F ≠ 5 → F ≠ 9 → (F < 35 ∨ j ≠ fr) → fb_up (fb_up (cf_newK fr (s 5 0) (nI g) n s) 9 fr (nI fr)) 5 0 (fb_up (cf_newK fr (s 5 0) (nI g) n s) 9 fr (nI fr) 5 0 + 1) F j = s F j := fun F j a b c => by
            rw [fb_up_F _ _ _ _ a, fb_up_F _ _ _ _ b]
            exact cf_newK_other c
          have hn0 : ∀ F, 35 ≤ F → fb_up (fb_up (cf_newK fr (s 5 0) (nI g) n s) 9 fr (nI fr)) 5 0 (fb_up (cf_newK fr (s 5 0) (nI g) n s) 9 fr (nI fr) 5 0 + 1) F fr = cf_newK fr (s 5 0) (nI g) n s F fr := fun F a => by
            rw [fb_up_F _ _ _ _ (by omega), fb_up_F _ _ _ _ (by omega)]
          simp only [cf_injU]
          generalize fb_up (fb_up (cf_newK fr (s 5 0) (nI g) n s) 9 fr (nI fr)) 5 0 (fb_up (cf_newK fr (s 5 0) (nI g) n s) 9 fr (nI fr) 5 0 + 1) = s3 at *
          have a35 : s3 35 fr = nI fr := by rw [hn0 35 (by omega), ← h5]; simp [cf_newK, fb_up]
          have a36 : s3 36 fr = nI g := by rw [hn0 36 (by omega)]; simp [cf_newK, fb_up]
          have a37 : s3 37 fr = n := by rw [hn0 37 (by omega)]; simp [cf_newK, fb_up]
          have a40 : s3 40 fr = 0 := by rw [hn0 40 (by omega)]; simp [cf_newK, fb_up]
          have a41 : s3 41 fr = 0 := by rw [hn0 41 (by omega)]; simp [cf_newK, fb_up]
          have a42 : s3 42 fr = -1 := by rw [hn0 42 (by omega)]; simp [cf_newK, fb_up]
          have ng : fb_n (nI g) = g := fb_nI (by omega)
          have hq : cf_enqQ fr s3 = nI i0 := by
            simp only [cf_enqQ, cf_portAt]
            rw [a36, a41, ng, if_neg (by decide), hs0 34 g (by omega) (by omega) (by omega), if_neg (by rcases e34 with e | e <;> rw [e] <;> decide), hs0 33 _ (by omega) (by omega) (by omega)]
            exact r1
          have hJ : cf_enqJ fr s3 = 3 * i0 + p := by
            show 3 * fb_n (cf_enqQ fr s3) + fb_n (s3 22 (fb_n (s3 36 fr))) = _
            rw [hq, a36, ng, hs0 22 g (by omega) (by omega) (by omega), ep, fb_nI (by omega), fb_nI (by omega)]
          have henq : cf_enq fr s3 = cf_add (3 * i0 + p) fr (fb_up (fb_up s3 38 fr 1) 39 fr (fb_tF i0)) := by
            simp only [cf_enq]
            rw [hq, hJ, if_neg (nI_pos (by omega)), fb_nI (by omega), fb_up_F _ _ _ _ (by decide), hs0 10 i0 (by omega) (by omega) (by omega)]
            rw [show s 10 i0 = fb_tF i0 from ok 10 i0 hi0]
          rw [henq]
          have h4o : ∀ F j, F ≠ 5 → F ≠ 9 → (F < 35 ∨ j ≠ fr) → fb_up (fb_up s3 38 fr 1) 39 fr (fb_tF i0) F j = s F j := fun F j a b c => by
            have e1 : fb_up (fb_up s3 38 fr 1) 39 fr (fb_tF i0) F j = fb_up s3 38 fr 1 F j := by
              by_cases e : F = 39
              · exact fb_up_i _ _ _ _ (by omega)
              · exact fb_up_F _ _ _ _ e
            have e2 : fb_up s3 38 fr 1 F j = s3 F j := by
              by_cases e : F = 38
              · exact fb_up_i _ _ _ _ (by omega)
              · exact fb_up_F _ _ _ _ e
            rw [e1, e2]
            exact hs0 F j a b c
          have b35 : fb_up (fb_up s3 38 fr 1) 39 fr (fb_tF i0) 35 fr = nI fr := by rw [fb_up_F _ _ _ _ (by decide), fb_up_F _ _ _ _ (by decide)]; exact a35
          have b36 : fb_up (fb_up s3 38 fr 1) 39 fr (fb_tF i0) 36 fr = nI g := by rw [fb_up_F _ _ _ _ (by decide), fb_up_F _ _ _ _ (by decide)]; exact a36
          have b37 : fb_up (fb_up s3 38 fr 1) 39 fr (fb_tF i0) 37 fr = n := by rw [fb_up_F _ _ _ _ (by decide), fb_up_F _ _ _ _ (by decide)]; exact a37
          have b38 : fb_up (fb_up s3 38 fr 1) 39 fr (fb_tF i0) 38 fr = 1 := by rw [fb_up_F _ _ _ _ (by decide), fb_up_same]
          have b39 : fb_up (fb_up s3 38 fr 1) 39 fr (fb_tF i0) 39 fr = fb_tF i0 := by rw [fb_up_same]
          have b40 : fb_up (fb_up s3 38 fr 1) 39 fr (fb_tF i0) 40 fr = 0 := by rw [fb_up_F _ _ _ _ (by decide), fb_up_F _ _ _ _ (by decide)]; exact a40
          have b41 : fb_up (fb_up s3 38 fr 1) 39 fr (fb_tF i0) 41 fr = 0 := by rw [fb_up_F _ _ _ _ (by decide), fb_up_F _ _ _ _ (by decide)]; exact a41
          have b42 : fb_up (fb_up s3 38 fr 1) 39 fr (fb_tF i0) 42 fr = -1 := by rw [fb_up_F _ _ _ _ (by decide), fb_up_F _ _ _ _ (by decide)]; exact a42
          generalize fb_up (fb_up s3 38 fr 1) 39 fr (fb_tF i0) = s4 at *
          have N9 : ∀ {x y : Nat}, x ≠ y → x = y → ∀ {P : Prop}, P := fun a b => absurd b a
          have keep : ∀ F j, F ≠ 44 → F ≠ 19 → F ≠ 20 → F ≠ 21 → cf_add (3 * i0 + p) fr s4 F j = s4 F j := fun F j a b c d => cf_add_keep a (fun e => absurd e b) (fun e => absurd e c) (fun e => absurd e d)
          have hs : ∀ F j, F ≠ 5 → F ≠ 9 → F ≠ 44 → F ≠ 19 → F ≠ 20 → F ≠ 21 → (F < 35 ∨ j ≠ fr) → cf_add (3 * i0 + p) fr s4 F j = s F j := fun F j a b c d e f' g' => (keep F j c d e f').trans (h4o F j a b g')
          have hq4 : ci_q (fr + 1) s4 (fb_cu (fb_lc s) fr 200) Q := ci_q_ext (ci_q_congr2 hC.1 (fun j => h4o 19 j (by omega) (by omega) (by omega)) (fun j => h4o 20 j (by omega) (by omega) (by omega)) (fun x hx => h4o 44 x (by omega) (by omega) (by omega)) (fun k _ => rfl))
          have hq5 := ci_q_add (t := cf_add (3 * i0 + p) fr s4) (k := fr) (b := 3 * i0 + p) hq4 (by omega) (by omega) (by omega) (by simp [fb_cu]) (fun _ => rfl) (fun _ => rfl) (fun _ => rfl)
          have x21 : ∀ j, cf_add (3 * i0 + p) fr s4 21 j = if j = 3 * i0 + p then s 21 j + n else s 21 j := fun j => by
            rw [cf_add_21]
            by_cases e : j = 3 * i0 + p
            · rw [if_pos e, if_pos e, h4o 21 _ (by omega) (by omega) (by omega), b37, e]
            · rw [if_neg e, if_neg e, h4o 21 _ (by omega) (by omega) (by omega)]
          have y35 : cf_add (3 * i0 + p) fr s4 35 fr = nI fr := (keep 35 fr (by decide) (by decide) (by decide) (by decide)).trans b35
          have y36 : cf_add (3 * i0 + p) fr s4 36 fr = nI g := (keep 36 fr (by decide) (by decide) (by decide) (by decide)).trans b36
          have y37 : cf_add (3 * i0 + p) fr s4 37 fr = n := (keep 37 fr (by decide) (by decide) (by decide) (by decide)).trans b37
          have y38 : cf_add (3 * i0 + p) fr s4 38 fr = 1 := (keep 38 fr (by decide) (by decide) (by decide) (by decide)).trans b38
          have y39 : cf_add (3 * i0 + p) fr s4 39 fr = fb_tF i0 := (keep 39 fr (by decide) (by decide) (by decide) (by decide)).trans b39
          have y40 : cf_add (3 * i0 + p) fr s4 40 fr = 0 := (keep 40 fr (by decide) (by decide) (by decide) (by decide)).trans b40
          have y41 : cf_add (3 * i0 + p) fr s4 41 fr = 0 := (keep 41 fr (by decide) (by decide) (by decide) (by decide)).trans b41
          have y42 : cf_add (3 * i0 + p) fr s4 42 fr = -1 := (keep 42 fr (by decide) (by decide) (by decide) (by decide)).trans b42
          generalize cf_add (3 * i0 + p) fr s4 = s' at *
          -- the reference's store
          have hm : ∀ F j, F ≠ 15 ∧ F ≠ 5 ∧ (F < 16 ∨ F = 21 ∨ 21 < F ∨ j ≠ fr) → mf_injU fr (nI g) n m F j = m F j := fun F j h => injU_m h
          have m16 : mf_injU fr (nI g) n m 16 fr = nI g := by simp [mf_injU, mf_enq, fb_up]
          have m17 : mf_injU fr (nI g) n m 17 fr = n := by simp [mf_injU, mf_enq, fb_up]
          have m18 : mf_injU fr (nI g) n m 18 fr = 1 := by simp [mf_injU, mf_enq, fb_up]
          have m19 : mf_injU fr (nI g) n m 19 fr = 0 := by simp [mf_injU, mf_enq, fb_up]
          have m20 : mf_injU fr (nI g) n m 20 fr = nI o := by rw [← ho]; simp [mf_injU, mf_enq, fb_up]
          have m5 : mf_injU fr (nI g) n m 5 0 = nI (o + 1) := by rw [← nI_1, ← ho]; simp [mf_injU, mf_enq, fb_up]
          generalize mf_injU fr (nI g) n m = m' at *
          have nd : ∀ f i, mf_node m' f i = mf_node m f i := node_c (fun j => hm 7 j (by omega)) (fun j => hm 8 j (by omega))
          have en : ∀ f, mf_end m' f = mf_end m f := end_c (fun j => hm 7 j (by omega)) (fun j => hm 8 j (by omega))
          have ho31 : o + 1 < 2 ^ 31 := by omega
          -- codes
          have elo : ∀ k, k < fr → fb_lc s' k = fb_lc s k := fun k hk => lc_c (hs 38 k (by omega) (by omega) (by omega) (by omega) (by omega) (by omega) (by omega)) (loc_c (fun j => hs 33 j (by omega) (by omega) (by omega) (by omega) (by omega) (by omega) (by omega)) (hs 36 k (by omega) (by omega) (by omega) (by omega) (by omega) (by omega) (by omega)) (hs 41 k (by omega) (by omega) (by omega) (by omega) (by omega) (by omega) (by omega))) (prk_c (fun j => hs 22 j (by omega) (by omega) (by omega) (by omega) (by omega) (by omega) (by omega)) (hs 36 k (by omega) (by omega) (by omega) (by omega) (by omega) (by omega) (by omega)))
          have eho : ∀ k, k < fr → fb_hb s' k = fb_hb s k := fun k hk => hb_c (hs 38 k (by omega) (by omega) (by omega) (by omega) (by omega) (by omega) (by omega)) (hs 42 k (by omega) (by omega) (by omega) (by omega) (by omega) (by omega) (by omega)) (prk_c (fun j => hs 22 j (by omega) (by omega) (by omega) (by omega) (by omega) (by omega) (by omega)) (hs 36 k (by omega) (by omega) (by omega) (by omega) (by omega) (by omega) (by omega)))
          have elno : ∀ k, k < fr → fb_ln s' k = fb_ln s k := fun k hk => ln_c (hs 37 k (by omega) (by omega) (by omega) (by omega) (by omega) (by omega) (by omega))
          have elf : fb_lc s' fr = 3 * i0 + p := by
            unfold fb_lc fb_loc fb_prk
            rw [if_pos y38, y36, y41, ng, hs 33 _ (by omega) (by omega) (by omega) (by omega) (by omega) (by omega) (by omega), hs 22 g (by omega) (by omega) (by omega) (by omega) (by omega) (by omega) (by omega), ep, show fb_n 0 = 0 from rfl, r1, fb_nI (by omega), fb_nI (by omega)]
          have ehf : fb_hb s' fr = 200 := by
            unfold fb_hb
            rw [if_pos (by rw [y42]; exact fb_m1)]
          have elnf : n = nI (fb_ln s' fr) := by
            unfold fb_ln
            rw [y37]
            obtain ⟨j, hj, e⟩ := nI_of2 (x := n) (M := 4) (n := 4) (by decide) (fb_pos1 (fb_nlt c1)) (fb_nlt c4)
            rw [e, fb_nI (by omega)]
          refine ⟨fb_Qu Q (3 * i0 + p) (Q (3 * i0 + p) ++ [fr]), ?_, ?_, ?_, ?_, ?_, ⟨?_, ?_, ?_, ?_⟩, ⟨?_, ?_, ?_⟩, ?_, ?_, ?_, ?_, ?_, ?_, ?_⟩
          · simp only [cp_G, hs 0 0 (by omega) (by omega) (by omega) (by omega) (by omega) (by omega) (by omega), hs 1 0 (by omega) (by omega) (by omega) (by omega) (by omega) (by omega) (by omega), hs 2 0 (by omega) (by omega) (by omega) (by omega) (by omega) (by omega) (by omega), hs 3 0 (by omega) (by omega) (by omega) (by omega) (by omega) (by omega) (by omega), hs 6 0 (by omega) (by omega) (by omega) (by omega) (by omega) (by omega) (by omega), hs 7 0 (by omega) (by omega) (by omega) (by omega) (by omega) (by omega) (by omega), hs 7 1 (by omega) (by omega) (by omega) (by omega) (by omega) (by omega) (by omega), hm 0 0 (by omega), hm 1 0 (by omega), hm 2 0 (by omega), hm 3 0 (by omega), hm 4 0 (by omega), hm 25 0 (by omega), hm 25 1 (by omega)]
            exact hG
          · intro i hi
            rw [hs 12 _ (by omega) (by omega) (by omega) (by omega) (by omega) (by omega) (by omega), hs 17 _ (by omega) (by omega) (by omega) (by omega) (by omega) (by omega) (by omega), hs 17 _ (by omega) (by omega) (by omega) (by omega) (by omega) (by omega) (by omega), hs 14 _ (by omega) (by omega) (by omega) (by omega) (by omega) (by omega) (by omega), hm 23 _ (by omega), hm 24 _ (by omega), hm 24 _ (by omega), hm 26 _ (by omega)]
            exact hP i hi
          · intro f hf
            rw [hs 22 f (by omega) (by omega) (by omega) (by omega) (by omega) (by omega) (by omega), hs 23 f (by omega) (by omega) (by omega) (by omega) (by omega) (by omega) (by omega), hs 24 f (by omega) (by omega) (by omega) (by omega) (by omega) (by omega) (by omega), hs 25 f (by omega) (by omega) (by omega) (by omega) (by omega) (by omega) (by omega), hs 26 f (by omega) (by omega) (by omega) (by omega) (by omega) (by omega) (by omega), hs 27 f (by omega) (by omega) (by omega) (by omega) (by omega) (by omega) (by omega), hm 9 f (by omega), hm 10 f (by omega), hm 11 f (by omega), hm 12 f (by omega), hm 13 f (by omega), hm 14 f (by omega)]
            exact hF f hf
          · intro f hf
            rw [hs 34 f (by omega) (by omega) (by omega) (by omega) (by omega) (by omega) (by omega), en]
            refine ⟨(hR f hf).1, fun h hh hlt => ?_⟩
            rw [hs 33 _ (by omega) (by omega) (by omega) (by omega) (by omega) (by omega) (by omega), nd, nd]
            exact (hR f hf).2 h hh hlt
          · intro k hk
            by_cases e : k = fr
            · subst e
              rw [y36, y37, y38, y40, y35, y39, m16, m17, m18, m19, hm 22 k (by omega), hZ.2 k (Nat.le_refl _), nd]
              refine ⟨rfl, rfl, rfl, rfl, rfl, r2.symm, Or.inl rfl, fun _ => ⟨0, by omega, m19, y41, ?_, fun _ => by rw [if_pos rfl]; exact y42, fun h2 => by rw [m18] at h2; exact absurd h2 (by decide), fun h2 => by rw [m18] at h2; exact absurd h2 (by decide)⟩⟩
              rw [y36, ng, hs 34 g (by omega) (by omega) (by omega) (by omega) (by omega) (by omega) (by omega)]
              exact lt0
            · have hk2 : k < fr := by omega
              obtain ⟨g2, hg2, -, en2⟩ := cp_flow ok hfl hk2
              have hkk := hK k hk2
              simp only [cp_way, en2] at hkk
              simp only [cp_way, hs 36 k (by omega) (by omega) (by omega) (by omega) (by omega) (by omega) (by omega), hs 37 k (by omega) (by omega) (by omega) (by omega) (by omega) (by omega) (by omega), hs 38 k (by omega) (by omega) (by omega) (by omega) (by omega) (by omega) (by omega), hs 40 k (by omega) (by omega) (by omega) (by omega) (by omega) (by omega) (by omega), hs 35 k (by omega) (by omega) (by omega) (by omega) (by omega) (by omega) (by omega), hs 39 k (by omega) (by omega) (by omega) (by omega) (by omega) (by omega) (by omega), hs 41 k (by omega) (by omega) (by omega) (by omega) (by omega) (by omega) (by omega), hs 42 k (by omega) (by omega) (by omega) (by omega) (by omega) (by omega) (by omega), hs 43 k (by omega) (by omega) (by omega) (by omega) (by omega) (by omega) (by omega), hm 16 k (by omega), hm 17 k (by omega), hm 18 k (by omega), hm 22 k (by omega), hm 19 k (by omega), hm 21 k (by omega), hm 0 0 (by omega), en2, nd, hs 34 g2 (by omega) (by omega) (by omega) (by omega) (by omega) (by omega) (by omega)]
              refine ⟨hkk.1, hkk.2.1, hkk.2.2.1, hkk.2.2.2.1, hkk.2.2.2.2.1, hkk.2.2.2.2.2.1, hkk.2.2.2.2.2.2.1, fun h4 => ?_⟩
              obtain ⟨h, w1, w2, w3, w4, w5, w6⟩ := hkk.2.2.2.2.2.2.2 h4
              refine ⟨h, w1, w2, w3, w4, fun h3 => ?_, w6⟩
              rw [w5 h3, hs 33 _ (by omega) (by omega) (by omega) (by omega) (by omega) (by omega) (by omega)]
          · intro j hj
            obtain ⟨u1, u2, u3⟩ := hq5 j hj
            refine ⟨u1, u2, fun k => ?_⟩
            rw [u3 k]
            have ek : k < fr + 1 → fb_cu (fb_cu (fb_lc s) fr 200) fr (3 * i0 + p) k = fb_lc s' k := fun hk => by
              unfold fb_cu
              by_cases e : k = fr
              · subst e
                rw [if_pos rfl, elf]
              · rw [if_neg e, if_neg e, elo k (by omega)]
            exact ⟨fun q => ⟨q.1, (ek q.1).symm.trans q.2⟩, fun q => ⟨q.1, (ek q.1).trans q.2⟩⟩
          · intro j hj
            have e0 : ci_sum (fb_lc s') (fb_ln s') j (fr + 1) = ci_sum (fb_lc s) (fb_ln s) j fr + (if 3 * i0 + p = j then fb_ln s' fr else 0) := by
              show fb_sum _ fr + (if fb_lc s' fr = j then fb_ln s' fr else 0) = _
              rw [elf]
              congr 1
              exact ci_sum_congr (fun k hk => ⟨elo k hk, elno k hk⟩)
            rw [x21, e0]
            by_cases e : j = 3 * i0 + p
            · rw [if_pos e, if_pos e.symm, hC.2.1 j hj, ← nI_add, ← elnf]
            · rw [if_neg e, if_neg (Ne.symm e), hC.2.1 j hj, Nat.add_zero]
          · intro i hi k hk
            rw [hs 13 i (by omega) (by omega) (by omega) (by omega) (by omega) (by omega) (by omega)]
            by_cases e : k = fr
            · subst e
              rw [elf]
              refine ⟨fun e13 => ?_, fun e13 => by omega⟩
              rcases ok 13 i with e | e
              · rw [e13] at e
                exact absurd (e ▸ fb_m1) (nI_pos (by omega))
              · rw [e13] at e
                have := fb_vl e
                rw [fb_nI (by omega)] at this
                omega
            · rw [elo k (by omega)]
              exact hC.2.2.1 i hi k (by omega)
          · intro j hj
            rw [hs 18 j (by omega) (by omega) (by omega) (by omega) (by omega) (by omega) (by omega), hC.2.2.2 j hj]
            congr 1
            show _ = fb_sum _ fr + (if fb_hb s' fr = j then fb_ln s' fr else 0)
            rw [ehf, if_neg (by omega), Nat.add_zero]
            exact ci_sum_congr (fun k hk => ⟨(eho k hk).symm, (elno k hk).symm⟩)
          · intro k hk
            rw [m5]
            by_cases e : k = fr
            · subst e
              rw [m20]
              exact ⟨nI_pos (by omega), nI_lt (by omega) (by omega)⟩
            · rw [hm 20 k (by omega)]
              obtain ⟨v1, v2⟩ := hO.1 k (by omega)
              refine ⟨v1, ?_⟩
              rw [ho] at v2
              have a := Int32.lt_iff_toInt_lt.mp v2
              refine Int32.lt_iff_toInt_lt.mpr ?_
              rw [nI_toInt (by omega)] at a ⊢
              omega
          · intro i q hi hq
            have mm : ∀ k, k ∈ Q (3 * i + q) → m' 20 k = m 20 k ∧ k < fr := fun k hk => by
              have := (((hC.1 (3 * i + q) (by omega)).2.2 k).mp hk).1
              exact ⟨hm 20 k (by omega), this⟩
            have old : (Q (3 * i + q)).Pairwise (fun a b => m' 20 a < m' 20 b) := (hO.2.1 i q hi hq).imp_of_mem (fun ha hb hab => by rw [(mm _ ha).1, (mm _ hb).1]; exact hab)
            unfold fb_Qu
            by_cases e : 3 * i + q = 3 * i0 + p
            · rw [if_pos e, ← e]
              refine List.pairwise_append.mpr ⟨old, List.pairwise_singleton _ _, fun a ha b hb => ?_⟩
              have : b = fr := by simpa using hb
              subst this
              rw [(mm a ha).1, m20, ← ho]
              exact (hO.1 a (mm a ha).2).2
            · rw [if_neg e]
              exact old
          · intro i hi
            have e : ¬ 3 * i + 2 = 3 * i0 + p := by omega
            unfold fb_Qu
            rw [if_neg e]
            refine (hO.2.2 i hi).imp_of_mem (fun {a b} ha hb hab => ?_)
            have ka := (((hC.1 (3 * i + 2) (by omega)).2.2 a).mp ha).1
            have kb := (((hC.1 (3 * i + 2) (by omega)).2.2 b).mp hb).1
            rw [hs 43 a (by omega) (by omega) (by omega) (by omega) (by omega) (by omega) (by omega), hs 43 b (by omega) (by omega) (by omega) (by omega) (by omega) (by omega) (by omega)]
            exact hab
          · refine ⟨fun k hk => ?_, o + 1, m5, by omega⟩
            rw [hs 0 0 (by omega) (by omega) (by omega) (by omega) (by omega) (by omega) (by omega), hm 21 k (by omega)]
            by_cases e : k = fr
            · subst e
              rw [m18]
              exact ⟨fun h => absurd h (by decide), fun h => absurd h (by decide), fun h => absurd h (by decide)⟩
            · rw [hm 18 k (by omega)]
              exact hT.1 k (by omega)
          · intro i hi
            rw [paused_c (hm 0 0 (by omega)) (hm 4 0 (by omega)) _ _ (hm 27 _ (by omega)), hs 16 i (by omega) (by omega) (by omega) (by omega) (by omega) (by omega) (by omega), hs 15 i (by omega) (by omega) (by omega) (by omega) (by omega) (by omega) (by omega)]
            simp only [hm 27 _ (show (27 : Nat) ≠ 15 ∧ _ from ⟨by decide, by decide, Or.inr (Or.inr (Or.inl (by decide)))⟩)]
            exact hA i hi
          · intro f hf
            rw [hs 28 f (by omega) (by omega) (by omega) (by omega) (by omega) (by omega) (by omega), hs 29 f (by omega) (by omega) (by omega) (by omega) (by omega) (by omega) (by omega)]
            obtain ⟨b1, x, x1, x2, x3⟩ := hB f hf
            refine ⟨b1, x, x1, x2, fun j hj => (x3 j hj).trans ?_⟩
            constructor
            · rintro ⟨k, hk, z1, z2, z3, z4, z5⟩
              exact ⟨k, by omega, by rw [hm 16 k (by omega)]; exact z1, by rw [hm 18 k (by omega)]; exact z2, by rw [hm 22 k (by omega)]; exact z3, z4, by rw [hm 21 k (by omega)]; exact z5⟩
            · rintro ⟨k, hk, z1, z2, z3, z4, z5⟩
              by_cases e : k = fr
              · subst e
                rw [m18] at z2
                exact absurd z2 (by decide)
              · rw [hm 16 k (by omega)] at z1
                rw [hm 18 k (by omega)] at z2
                rw [hm 22 k (by omega)] at z3
                rw [hm 21 k (by omega)] at z5
                exact ⟨k, by omega, z1, z2, z3, z4, z5⟩
          · intro f hf
            rw [hs 30 f (by omega) (by omega) (by omega) (by omega) (by omega) (by omega) (by omega), hs 31 f (by omega) (by omega) (by omega) (by omega) (by omega) (by omega) (by omega), hs 32 f (by omega) (by omega) (by omega) (by omega) (by omega) (by omega) (by omega)]
            have k4 : ¬ m' 18 fr = 4 := by rw [m18]; decide
            have k5 : ¬ m' 18 fr = 5 := by rw [m18]; decide
            have kr : ¬ mf_rcv m' (nI f) fr = true := by
              simp only [mf_rcv, if_neg k4, ite_self]
              decide
            simp only [mf_count, mf_last, if_neg k4, if_neg k5, if_neg kr, ite_self]
            rw [count_c (fun j hj => hm 16 j (by omega)) (fun j hj => hm 18 j (by omega)), count_c (fun j hj => hm 16 j (by omega)) (fun j hj => hm 18 j (by omega)), last_c (hm 6 0 (by omega)) (fun j hj => hm 16 j (by omega)) (fun j hj => hm 18 j (by omega)) (fun j hj => hm 21 j (by omega)) (by omega)]
            exact hN f hf
          · intro f hf
            rw [hm 7 f (by omega), hm 8 f (by omega)]
            exact hE f hf
          · intro j hj
            rw [hs 17 j (by omega) (by omega) (by omega) (by omega) (by omega) (by omega) (by omega), hs 12 (j / 2) (by omega) (by omega) (by omega) (by omega) (by omega) (by omega) (by omega)]
            exact hcr j hj
          · refine ⟨fun f hf => ?_, fun k hk => ?_⟩
            · rw [hm 13 f (by omega), hm 14 f (by omega)]
              exact hZ.1 f hf
            · rw [hm 22 k (by omega)]
              exact hZ.2 k (by omega)
        · simp only [if_neg c100]
          exact ⟨trivial, trivial, hCP⟩
  · rw [hz]
    simp only [if_pos fb_m1, if_neg hF1]
    exact ⟨trivial, trivial, hCP⟩
