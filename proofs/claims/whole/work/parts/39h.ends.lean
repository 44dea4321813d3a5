/-! a tick's first phase: the step of both sides -/
def fb_pi (j : Nat) : Nat := ((List.range 32).find? (fun i => fb_g i == j)).getD 0
theorem tb_pi : ∀ i, i < 32 → fb_pi (fb_g i) = i := by decide +kernel
def es_m (k : Nat) (s' m : fb_S) : fb_S := fun F j => if F = 26 then s' 14 (fb_pi j) else fb_up m 18 k 3 F j
theorem es_mid {fl fr T v z i k : Nat} {s m : fb_S} (h : MID fl fr T 0 0 v z s m) (hi : i < 32) (hk : k < fr) (h13 : s 13 i = nI k) (h43 : s 43 k = s 6 0) (hw : ∀ a, a < fr → m 18 a = 3 → fb_loc s a = nI i → s 43 a < s 6 0 + s 0 0) : m 18 k = 2 ∧ m 21 k = nI T ∧ fb_loc s k = nI i ∧ es_ok fr i k s (cf_endSending i s) ∧ MID fl fr T 0 0 v z (cf_endSending i s) (es_m k (cf_endSending i s) m) := by
  have h0 := h
  obtain ⟨ok, okm, hfl, hfr, hT1, hTb, hpa, hW, hSm, ⟨o, o1, o2⟩, Q, hG, hP, hF, hR, hK, hC, hO, hN, hE, hcr, hZ, hJ1, hJ2⟩ := h
  have hm4 : m 4 0 = nI T := okm 4 0 rfl
  have hs6 : s 6 0 = nI T := hG.2.2.2.2.1.trans hm4
  have clc : fb_lc s k = 96 + i := (hC.2.2.1 i hi k hk).mp h13
  obtain ⟨h38, hloc⟩ := (lc_t ok hfl hR hK hk hi).mp clc
  have k38 := (hK k hk).2.2.1
  have e18 : m 18 k = 2 := k38.symm.trans h38
  have es := es_step ok hfr hk h13 h43 h38
  have okE : fb_okC fl fr (cf_endSending i s) := ok_endS ok hfr
  obtain ⟨hh, w1, w2, w3, w4, w5, w6, w7⟩ := (hK k hk).2.2.2.2.2.2.2 (by rw [e18]; decide)
  have e21 : m 21 k = nI T := by rw [← w6 e18, h43, hs6]
  refine ⟨e18, e21, hloc, es, ?_⟩
  generalize cf_endSending i s = s' at *
  obtain ⟨a0, a13, a38, a43, a19, a20, a44, a21, a18, a14⟩ := es
  have q : ∀ F, (F ≠ 13 ∧ F ≠ 38 ∧ F ≠ 43 ∧ F ≠ 44 ∧ F ≠ 19 ∧ F ≠ 20 ∧ F ≠ 21 ∧ F ≠ 18 ∧ F ≠ 14) → ∀ j, s' F j = s F j := fun F hF j => a0 F j (by omega) (by omega) (by omega) (by omega) (by omega) (by omega) (by omega) (by omega) (by omega)
  have m26 : ∀ F j, F ≠ 26 → es_m k s' m F j = fb_up m 18 k 3 F j := fun F j h => if_neg h
  have mo : ∀ F, (F ≠ 26 ∧ F ≠ 18) → ∀ j, es_m k s' m F j = m F j := fun F h j => (m26 F j h.1).trans (fb_up_F m _ _ _ h.2)
  have m18 : es_m k s' m 18 k = 3 := (m26 18 k (by decide)).trans (fb_up_same _ _ _ _)
  have m18o : ∀ j, j ≠ k → es_m k s' m 18 j = m 18 j := fun j hj => (m26 18 j (by decide)).trans (fb_up_i _ _ _ _ hj)
  have mg : ∀ c, c < 32 → es_m k s' m 26 (fb_g c) = s' 14 c := fun c hc => by
    show (if (26 : Nat) = 26 then s' 14 (fb_pi (fb_g c)) else _) = _
    rw [if_pos rfl, tb_pi c hc]
  have okm' : fb_okM fl fr T (es_m k s' m) := fun F j => by
    by_cases e : F = 26
    · subst e
      have e2 : es_m k s' m 26 j = s' 14 (fb_pi j) := if_pos rfl
      rw [e2]
      exact okE 14 _
    · rw [m26 F j e]
      exact fb_okM_up (F := 18) (i := k) (v := 3) okm trivial F j
  generalize es_m k s' m = m' at *
  have k38' : s' 38 k = 3 := (a38 k).trans (if_pos rfl)
  have fs : FS k s m s' m' := ⟨fun F hF j => q F (by omega) j, fun F hF j => mo F (by omega) j, fun F hF j hj => by
      by_cases e1 : F = 38
      · subst e1
        rw [a38, if_neg hj]
      · by_cases e2 : F = 43
        · subst e2
          rw [a43, if_neg hj]
        · exact q F (by omega) j, fun F hF j hj => by
      by_cases e1 : F = 18
      · subst e1
        exact m18o j hj
      · exact mo F (by omega) j⟩
  have ln := fb_lnI ok hk
  have lck : fb_lc s' k = 3 * i + 2 := by
    have el : fb_loc s' k = fb_loc s k := loc_c (q 33 (by omega)) (q 36 (by omega) k) (q 41 (by omega) k)
    unfold fb_lc
    rw [k38', if_neg (by decide), if_neg (by decide), if_pos rfl, el, hloc, fb_nI (by omega)]
  have hbk : fb_hb s' k = 200 := hb_no (Or.inl k38')
  have hne : ∀ j, j < 96 → ∀ a, a ∈ Q j → a ≠ k := fun j hj a ha e => by
    have := (((hC.1 j hj).2.2 a).mp ha).2
    rw [e, clc] at this
    omega
  refine fs_M (k := k) (Q' := fb_Qu Q (3 * i + 2) (Q (3 * i + 2) ++ [k])) h0 fs (fun j _ => mo 22 (by omega) j) okE okm' ?_ ?_ ⟨o, by rw [mo 5 (by omega)]; exact o1, o2⟩ ?_ ?_ (fun f _ => mo 14 (by omega) f) ?_ ?_ ?_ ?_ ?_ (fun _ => by rw [e18]; decide) (fun _ e => by rw [m18] at e; exact absurd e (by decide))
  · refine fs_W fs hW ⟨fun e => by rw [m18] at e; exact absurd e (by decide), fun _ => ⟨T, by rw [mo 21 (by omega)]; exact e21, Nat.le_refl _, by omega⟩, fun e => by rw [m18] at e; exact absurd e (by decide)⟩
  · exact fs_S fs hSm (q 28 (by omega)) (by rw [e18]; decide) (by rw [m18]; decide)
  · intro c hc
    rw [q 12 (by omega), q 17 (by omega), q 17 (by omega), mo 23 (by omega), mo 24 (by omega), mo 24 (by omega), mg c hc]
    exact ⟨(hP c hc).1, (hP c hc).2.1, (hP c hc).2.2.1, rfl⟩
  · intro f hf
    rw [q 27 (by omega), mo 14 (by omega)]
    exact (hF f hf).2.2.2.2.2
  · refine fs_K fs hK (k38'.trans m18.symm) ?_ ?_ (Or.inr (Or.inr (Or.inl m18))) (fun _ => ⟨hh, w1, ?_, ?_, ?_, ?_, ?_, ?_⟩)
    · rw [q 40 (by omega), mo 22 (by omega)]
      exact (hK k hk).2.2.2.1
    · rw [q 39 (by omega), mo 19 (by omega)]
      exact (hK k hk).2.2.2.2.2.1
    · rw [mo 19 (by omega)]
      exact w2
    · rw [q 41 (by omega)]
      exact w3
    · rw [q 34 (by omega), q 36 (by omega)]
      exact w4
    · intro e
      rw [m18] at e
      exact absurd e (by decide)
    · intro e
      rw [m18] at e
      exact absurd e (by decide)
    · intro _
      rw [a43 k, if_pos rfl, mo 21 (by omega), mo 0 (by omega), e21, hs6, hG.1]
  · unfold cp_C
    rw [fs_lc fs lck, fs_hb fs hbk, fs_ln fs]
    refine ⟨ci_q_add hC.1 hfr (by omega) hk (by omega) a19 a20 a44, fun j hj => ?_, fun i' hi' x hx => ?_, fun j hj => ?_⟩
    · refine sm_mv hk (hC.2.1 j hj) (fun e => by omega) ?_
      rw [a21 j, ← ln.1, if_neg (show ¬ fb_lc s k = j by omega)]
      by_cases e : j = 3 * i + 2
      · rw [if_pos e, if_pos e.symm]
      · rw [if_neg e, if_neg (Ne.symm e)]
    · have hx0 := hC.2.2.1 i' hi' x hx
      rw [a13 i']
      unfold fb_cu
      by_cases ei : i' = i
      · rw [if_pos ei]
        by_cases ex : x = k
        · rw [if_pos ex]
          exact ⟨fun e => absurd (e ▸ fb_m1) (nI_pos (by omega)), fun e => by omega⟩
        · rw [if_neg ex]
          refine ⟨fun e => absurd (e ▸ fb_m1) (nI_pos (by omega)), fun e => ?_⟩
          have := hx0.mpr e
          rw [ei, h13] at this
          exact absurd ((nI_eq (by omega) (by omega)).mp this).symm ex
      · rw [if_neg ei]
        by_cases ex : x = k
        · rw [if_pos ex]
          refine ⟨fun e => ?_, fun e => by omega⟩
          have := hx0.mp e
          rw [ex, clc] at this
          omega
        · rw [if_neg ex]
          exact hx0
    · refine sm_mv hk (hC.2.2.2 j hj) (fun e => by omega) ?_
      rw [a18 j hj, ← ln.1, if_neg (show ¬ 200 = j by omega)]
  · refine ⟨fun x hx => ?_, fun i' p hi' hp => ?_, fun i' hi' => ?_⟩
    · rw [mo 20 (by omega), mo 5 (by omega)]
      exact hO.1 x hx
    · have e : fb_Qu Q (3 * i + 2) (Q (3 * i + 2) ++ [k]) (3 * i' + p) = Q (3 * i' + p) := if_neg (by omega)
      rw [e]
      exact pw_c (fun a _ => mo 20 (by omega) a) (hO.2.1 i' p hi' hp)
    · by_cases ei : i' = i
      · subst ei
        have e : fb_Qu Q (3 * i' + 2) (Q (3 * i' + 2) ++ [k]) (3 * i' + 2) = Q (3 * i' + 2) ++ [k] := if_pos rfl
        rw [e]
        refine pw_snoc (pw_c (fun a ha => ?_) (hO.2.2 i' hi')) (fun a ha => ?_)
        · rw [a43, if_neg (hne _ (by omega) a ha)]
        · rw [a43, if_neg (hne _ (by omega) a ha), a43 k, if_pos rfl]
          obtain ⟨x1, x2⟩ := ((hC.1 _ (by omega)).2.2 a).mp ha
          obtain ⟨y1, y2⟩ := (lc_w ok hfl hR hK x1 hi').mp x2
          exact hw a x1 ((hK a x1).2.2.1.symm.trans y1) y2
      · have e : fb_Qu Q (3 * i + 2) (Q (3 * i + 2) ++ [k]) (3 * i' + 2) = Q (3 * i' + 2) := if_neg (by omega)
        rw [e]
        exact pw_c (fun a ha => by rw [a43, if_neg (hne _ (by omega) a ha)]) (hO.2.2 i' hi')
  · exact fs_N fs hfr hN (q 30 (by omega)) (q 31 (by omega)) (q 32 (by omega)) (by rw [e18]; decide) (by rw [m18]; decide)
  · intro j hj
    rw [q 17 (by omega), q 12 (by omega)]
    exact hcr j hj
