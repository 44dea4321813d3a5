/-! arrivals: too much is held, the frame is dropped -/
section DROP
variable {fl fr T y v z n k : Nat} {x M : fb_S}
theorem cp_e9 (ok : fb_okC fl fr x) (hfl : fl ≤ 12) (hF : cp_F fl x M) (hK : cp_K fr x M) (hk : k < fr) : M 9 (fb_n (M 16 k)) = fb_prk x k := by
  obtain ⟨f, hf, e, en⟩ := cp_flow ok hfl hk
  unfold fb_prk
  rw [← (hK k hk).1, en]
  exact (hF f hf).1.symm
theorem dv_much (h : MID fl fr T 1 y v z x M) (hn : n < 32) (hk : k < fr) : cf_place (fb_up (cf_rem (3 * n + 2) x) 39 k (fb_tT n)) n k = true ↔ ¬ mf_much M fr k (fb_tF n) (fb_tT n) = true := by
  obtain ⟨ok, okm, hfl, hfr, hT1, hTb, hpa, hW, hSm, -, Q, hG, hP, hF, hR, hK, hC, hO, hN, hE, hcr, hZ, hJ1, hJ2⟩ := h
  have x2 : ∀ F, (F ≠ 39 ∧ F ≠ 44 ∧ F ≠ 19 ∧ F ≠ 20 ∧ F ≠ 21) → ∀ j, fb_up (cf_rem (3 * n + 2) x) 39 k (fb_tT n) F j = x F j := fun F hF j => (fb_up_F _ _ _ _ hF.1).trans (rem_k (by omega))
  generalize fb_up (cf_rem (3 * n + 2) x) 39 k (fb_tT n) = s2 at *
  obtain ⟨p, hp, ep⟩ := cp_pr ok k
  have e9 : M 9 (fb_n (M 16 k)) = nI p := (cp_e9 ok hfl hF hK hk).trans ep
  have ep2 : x 22 (fb_n (x 36 k)) = nI p := ep
  have eh : mf_holds M (fb_tF n) (fb_tT n) (nI p) fr = x 18 (2 * n + p) := by
    rw [cp_holds ok hfl hF hR hK (m' := M) (fun _ _ _ _ => rfl) (fun _ _ q => q) (nI p) hn fr (Nat.le_refl _), cp_h_sum ok hK hn hp, hC.2.2.2 (2 * n + p) (by omega)]
  simp only [cf_place, mf_much, x2 36 (by decide), x2 22 (by decide), x2 1 (by decide), x2 2 (by decide), x2 18 (by decide), x2 37 (by decide), ep2, e9, eh, ← (hK k hk).2.1, ← hG.2.1, ← hG.2.2.1]
  rw [fb_nI (by omega)]
  have key : ∀ a b : Int32, (if a < b then false else true) = true ↔ ¬ (if b ≤ a then false else true) = true := fun a b => by
    by_cases c : a < b
    · rw [if_pos c, if_neg (Int32.not_le.mpr c)]
      exact ⟨fun e => (by cases e), fun e => absurd rfl e⟩
    · rw [if_neg c, if_pos (Int32.not_lt.mp c)]
      exact ⟨fun _ e => (by cases e), fun _ => rfl⟩
  rcases (show p = 0 ∨ p = 1 by omega) with rfl | rfl
  · rw [if_pos (by decide), if_neg (show ¬ nI 0 = 1 by decide)]
    exact key _ _
  · rw [if_neg (by decide), if_pos (show nI 1 = 1 by decide)]
    exact key _ _
theorem dv_drop (h : MID fl fr T 1 0 1 z x M) (hn : n < 32) (hk : k < fr) (e19 : x 19 (3 * n + 2) = nI k) (e43 : x 43 k = x 6 0) (hh : (8 : Int32) ≤ fb_tT n) (hp : ¬ cf_place (fb_up (cf_rem (3 * n + 2) x) 39 k (fb_tT n)) n k = true) : FS k x M (cf_deliver n x) (mf_arrive fr k (fb_tF n) (fb_tT n) M) ∧ mf_arrive fr k (fb_tF n) (fb_tT n) M 18 k = 5 ∧ MID fl fr T 1 0 1 z (cf_deliver n x) (mf_arrive fr k (fb_tF n) (fb_tT n) M) ∧ cf_deliverA n x = 0 := by
  have h0 := h
  have hmuch : mf_much M fr k (fb_tF n) (fb_tT n) = true := by
    by_cases c : mf_much M fr k (fb_tF n) (fb_tT n) = true
    · exact c
    · exact absurd ((dv_much h hn hk).mpr c) hp
  obtain ⟨k38, e18, hloc, clc, chb, h43, f, ht, hf, ef, enf, e16, ht4, w2, w3, w4, e33, ndT, h8⟩ := dv_pre h hn hk e19
  obtain ⟨ok, okm, hfl, hfr, hT1, hTb, hpa, hW, hSm, ⟨o, o1, o2⟩, Q, hG, hP, hF, hR, hK, hC, hO, hN, hE, hcr, hZ, hJ1, hJ2⟩ := h
  obtain ⟨L, hL⟩ := q_head hC.1 hfr (j := 3 * n + 2) (by omega) hk e19
  have nk : fb_n (nI k) = k := fb_nI (by omega)
  have x11 : x 11 n = fb_tT n := ok 11 n hn
  have hhost : ¬ cf_host (fb_tT n) = true := fun q => (tb_host n hn).mp q hh
  have eend : ¬ M 19 k + 1 = mf_end M (M 16 k) := fun q => by
    rw [w2, nI_1, e16, ← (hR f hf).1] at q
    have := h8.mp hh
    rw [q] at this
    exact Int32.lt_irrefl this
  have okD := ok_deliver (i := n) hn ok hfr
  have eD : cf_deliver n x = cf_drop k (fb_up (cf_rem (3 * n + 2) x) 39 k (fb_tT n)) := by
    simp only [cf_deliver]
    rw [e19, if_neg (nI_pos (by omega)), nk, if_pos e43, fb_up_F (cf_rem (3 * n + 2) x) _ _ _ (show (11 : Nat) ≠ 39 by decide), rem_k (by decide), x11, if_neg hhost, if_neg hp]
  have eA : cf_deliverA n x = 0 := by
    simp only [cf_deliverA]
    rw [e19, if_neg (nI_pos (by omega)), nk, if_pos e43, fb_up_F (cf_rem (3 * n + 2) x) _ _ _ (show (11 : Nat) ≠ 39 by decide), rem_k (by decide), x11, if_neg hhost]
  have eM : mf_arrive fr k (fb_tF n) (fb_tT n) M = fb_up (fb_up M 19 k (nI (ht + 1))) 18 k 5 := by
    simp only [mf_arrive]
    rw [if_neg eend, if_pos hmuch, w2, nI_1]
  rw [eD] at okD
  rw [eD, eM]
  have y0 : ∀ F, (F ≠ 39) → ∀ j, fb_up (cf_rem (3 * n + 2) x) 39 k (fb_tT n) F j = cf_rem (3 * n + 2) x F j := fun F hF j => fb_up_F _ _ _ _ hF
  have y36 : ∀ w, fb_n (fb_up (fb_up (cf_rem (3 * n + 2) x) 39 k (fb_tT n)) 38 k w 36 k) = f := fun w => by rw [fb_up_F _ _ _ _ (by decide), y0 36 (by decide), rem_k (by decide), enf]
  have r1 : ∀ F, (F ≠ 38 ∧ F ≠ 31 ∧ F ≠ 39) → ∀ j, cf_drop k (fb_up (cf_rem (3 * n + 2) x) 39 k (fb_tT n)) F j = cf_rem (3 * n + 2) x F j := fun F hF j => by
    simp only [cf_drop]
    rw [fb_up_F _ _ _ _ hF.2.1, fb_up_F _ _ _ _ hF.1, y0 F hF.2.2]
  have r2 : ∀ F, (F ≠ 38 ∧ F ≠ 31 ∧ F ≠ 39 ∧ F ≠ 19 ∧ F ≠ 20 ∧ F ≠ 21 ∧ F ≠ 44) → ∀ j, cf_drop k (fb_up (cf_rem (3 * n + 2) x) 39 k (fb_tT n)) F j = x F j := fun F hF j => (r1 F (by omega) j).trans (rem_k (by omega))
  have r38 : ∀ j, cf_drop k (fb_up (cf_rem (3 * n + 2) x) 39 k (fb_tT n)) 38 j = if j = k then 5 else x 38 j := fun j => by
    simp only [cf_drop]
    rw [fb_up_F _ _ _ _ (by decide)]
    by_cases e : j = k
    · rw [e, fb_up_same, if_pos rfl]
    · rw [fb_up_i _ _ _ _ e, if_neg e, y0 38 (by decide), rem_k (by decide)]
  have r39 : ∀ j, cf_drop k (fb_up (cf_rem (3 * n + 2) x) 39 k (fb_tT n)) 39 j = if j = k then fb_tT n else x 39 j := fun j => by
    simp only [cf_drop]
    rw [fb_up_F _ _ _ _ (by decide), fb_up_F _ _ _ _ (by decide)]
    by_cases e : j = k
    · rw [e, fb_up_same, if_pos rfl]
    · rw [fb_up_i _ _ _ _ e, if_neg e, rem_k (by decide)]
  have r31 : ∀ j, cf_drop k (fb_up (cf_rem (3 * n + 2) x) 39 k (fb_tT n)) 31 j = if j = f then x 31 f + 1 else x 31 j := fun j => by
    have e31 : ∀ w j, fb_up (fb_up (cf_rem (3 * n + 2) x) 39 k (fb_tT n)) 38 k w 31 j = x 31 j := fun w j => by rw [fb_up_F _ _ _ _ (by decide), y0 31 (by decide), rem_k (by decide)]
    simp only [cf_drop, y36]
    by_cases e : j = f
    · rw [e, fb_up_same, if_pos rfl, e31]
    · rw [fb_up_i _ _ _ _ e, if_neg e, e31]
  have t0 : ∀ F, (F ≠ 18 ∧ F ≠ 19) → ∀ j, fb_up (fb_up M 19 k (nI (ht + 1))) 18 k 5 F j = M F j := fun F hF j => by
    rw [fb_up_F _ _ _ _ hF.1, fb_up_F _ _ _ _ hF.2]
  have tk : ∀ F j, j ≠ k → fb_up (fb_up M 19 k (nI (ht + 1))) 18 k 5 F j = M F j := fun F j hj => by
    rw [fb_up_i _ _ _ _ hj, fb_up_i _ _ _ _ hj]
  have t18 : fb_up (fb_up M 19 k (nI (ht + 1))) 18 k 5 18 k = 5 := fb_up_same _ _ _ _
  have t19 : fb_up (fb_up M 19 k (nI (ht + 1))) 18 k 5 19 k = nI (ht + 1) := by rw [fb_up_F _ _ _ _ (by decide), fb_up_same]
  have okM' : fb_okM fl fr T (fb_up (fb_up M 19 k (nI (ht + 1))) 18 k 5) := fb_okM_up (fb_okM_up okm trivial) trivial
  generalize cf_drop k (fb_up (cf_rem (3 * n + 2) x) 39 k (fb_tT n)) = x' at *
  generalize fb_up (fb_up M 19 k (nI (ht + 1))) 18 k 5 = M' at *
  have fs : FS k x M x' M' := ⟨fun F hF j => r2 F (by omega) j, fun F hF j => t0 F (by omega) j, fun F hF j hj => by
      by_cases e1 : F = 38
      · subst e1
        rw [r38, if_neg hj]
      · by_cases e2 : F = 39
        · subst e2
          rw [r39, if_neg hj]
        · exact r2 F (by omega) j, fun F hF j hj => tk F j hj⟩
  have k5 : x' 38 k = 5 := (r38 k).trans (if_pos rfl)
  have s18 : ∀ j, (M' 18 j = 4 ↔ M 18 j = 4) := fun j => by
    by_cases e : j = k
    · rw [e, t18, e18]
      decide
    · rw [tk 18 j e]
  refine ⟨fs, t18, ?_, eA⟩
  refine fs_M (k := k) (Q' := fb_Qu Q (3 * n + 2) L) h0 fs (fun j _ => t0 22 (by omega) j) okD okM' ?_ ?_ ⟨o, by rw [t0 5 (by omega)]; exact o1, o2⟩ ?_ ?_ (fun f _ => t0 14 (by omega) f) ?_ (dv_C ok hfr hn hk e19 hC hL fs clc chb (Or.inr k5) (fun F hF j => r1 F (by omega) j) (r2 13 (by omega)) (r2 18 (by omega))) (dv_O hn hO hL (r2 43 (by omega)) (t0 20 (by omega)) (t0 5 (by omega) 0)) ?_ ?_ (fun _ => by rw [e18]; decide) (fun _ e => by rw [t18] at e; exact absurd e (by decide))
  · exact fs_W fs hW ⟨fun e => by rw [t18] at e; exact absurd e (by decide), fun e => by rw [t18] at e; exact absurd e (by decide), fun e => by rw [t18] at e; exact absurd e (by decide)⟩
  · exact fs_S fs hSm (r2 28 (by omega)) (by rw [e18]; decide) (by rw [t18]; decide)
  · intro c hc
    rw [r2 12 (by omega), r2 17 (by omega), r2 17 (by omega), r2 14 (by omega), t0 23 (by omega), t0 24 (by omega), t0 24 (by omega), t0 26 (by omega)]
    exact hP c hc
  · intro g hg
    rw [r2 27 (by omega), t0 14 (by omega)]
    exact (hF g hg).2.2.2.2.2
  · refine fs_K fs hK (k5.trans t18.symm) ?_ ?_ (Or.inr (Or.inr (Or.inr (Or.inr t18)))) (fun e => by rw [t18] at e; exact absurd e (by decide))
    · rw [r2 40 (by omega), t0 22 (by omega)]
      exact (hK k hk).2.2.2.1
    · rw [r39, if_pos rfl, t19, e16, ndT]
  · intro g hg
    rw [r31, r2 30 (by omega), r2 32 (by omega), count_k (fun j _ => t0 16 (by omega) j) (fun j _ => s18 j), (last_k (t0 6 (by omega) 0) (fun j _ => t0 16 (by omega) j) (fun j _ _ => s18 j) (fun j _ _ => t0 21 (by omega) j) (by omega)).1]
    by_cases e : g = f
    · subst e
      rw [if_pos rfl, count_up (k := k) (fun j _ => t0 16 (by omega) j) (fun j _ hj => by rw [tk 18 j hj]) (by rw [e18]; decide) t18 e16, if_pos hk, (hN g hg).2.1]
      exact ⟨(hN g hg).1, rfl, (hN g hg).2.2⟩
    · have ne : ∀ j, M 16 j = nI g → j ≠ k := fun j q q2 => by
        rw [q2, e16] at q
        exact e ((nI_eq (by omega) (by omega)).mp q).symm
      have c5 : mf_count M' (nI g) 5 fr = mf_count M (nI g) 5 fr := by
        have key : ∀ t, mf_count M' (nI g) 5 t = mf_count M (nI g) 5 t := by
          intro t
          induction t with
          | zero => rfl
          | succ t ih =>
            simp only [mf_count, t0 16 (by omega), ih]
            by_cases c : M 16 t = nI g
            · rw [tk 18 t (ne t c)]
            · rw [if_neg c, if_neg c]
        exact key fr
      rw [if_neg e, c5]
      exact hN g hg
  · intro j hj
    rw [r2 17 (by omega), r2 12 (by omega)]
    exact hcr j hj
end DROP
