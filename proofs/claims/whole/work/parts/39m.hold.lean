/-! arrivals: a frame is held at the next switch; the class's side -/
def hd_ok (n k n2 p ht : Nat) (x x' : fb_S) : Prop :=
  (∀ F, (F ≠ 18 ∧ F ≠ 14 ∧ F ≠ 42 ∧ F ≠ 41 ∧ F ≠ 38 ∧ F ≠ 39 ∧ F ≠ 40 ∧ F ≠ 19 ∧ F ≠ 20 ∧ F ≠ 21 ∧ F ≠ 44) → ∀ j, x' F j = x F j) ∧ (∀ j, x' 18 j = if j = 2 * n + p then x 18 j + x 37 k else x 18 j) ∧ (∀ j, x' 14 j = if j = n ∧ p = 0 ∧ ¬ x 18 (2 * n) + x 37 k < x 1 0 then 1 else x 14 j) ∧ (∀ j, x' 42 j = if j = k then nI n else x 42 j) ∧ (∀ j, x' 41 j = if j = k then nI (ht + 1) else x 41 j) ∧ (∀ j, x' 38 j = if j = k then 1 else x 38 j) ∧ (∀ j, x' 39 j = if j = k then x 10 n2 else x 39 j) ∧ (∀ j, x' 40 j = if j = k ∧ ¬ x' 21 (3 * n2 + p) ≤ x 3 0 then 1 else x 40 j) ∧ (∀ j, x' 19 j = cf_add (3 * n2 + p) k (cf_rem (3 * n + 2) x) 19 j) ∧ (∀ j, x' 20 j = cf_add (3 * n2 + p) k (cf_rem (3 * n + 2) x) 20 j) ∧ (∀ j, x' 44 j = cf_add (3 * n2 + p) k (cf_rem (3 * n + 2) x) 44 j) ∧ ∀ j, x' 21 j = if j = 3 * n2 + p then x 21 j + x 37 k else if j = 3 * n + 2 then x 21 j - x 37 k else x 21 j
theorem hold_step {n k n2 p ht f : Nat} {x : fb_S} {w : Int32} (e19 : x 19 (3 * n + 2) = nI k) (hk : k < 2 ^ 31) (ep : x 22 (fb_n (x 36 k)) = nI p) (hp : p < 2) (e41 : x 41 k = nI ht) (hht : ht < 4) (ef : fb_n (x 36 k) = f) (e34 : nI (ht + 1) < x 34 f) (e33 : x 33 (4 * f + (ht + 1)) = nI n2) (hn2 : n2 < 32) : hd_ok n k n2 p ht x (cf_hold n k (fb_up (cf_rem (3 * n + 2) x) 39 k w)) := by
  have np : fb_n (nI p) = p := fb_nI (by omega)
  have a0 : ∀ F, (F ≠ 39 ∧ F ≠ 44 ∧ F ≠ 19 ∧ F ≠ 20 ∧ F ≠ 21) → ∀ j, fb_up (cf_rem (3 * n + 2) x) 39 k w F j = x F j := fun F hF j => (fb_up_F _ _ _ _ hF.1).trans (rem_k (by omega))
  have a1 : ∀ F, F ≠ 39 → ∀ j, fb_up (cf_rem (3 * n + 2) x) 39 k w F j = cf_rem (3 * n + 2) x F j := fun F hF j => fb_up_F _ _ _ _ hF
  have a39 : ∀ j, j ≠ k → fb_up (cf_rem (3 * n + 2) x) 39 k w 39 j = x 39 j := fun j hj => (fb_up_i _ _ _ _ hj).trans (rem_k (by decide))
  generalize fb_up (cf_rem (3 * n + 2) x) 39 k w = s0 at *
  have ep0 : s0 22 (fb_n (s0 36 k)) = nI p := by rw [a0 36 (by decide), a0 22 (by decide), ep]
  have fin : ∀ S2 : fb_S, (∀ F, (F ≠ 18 ∧ F ≠ 14) → ∀ j, S2 F j = s0 F j) → (∀ j, S2 18 j = if j = 2 * n + p then x 18 j + x 37 k else x 18 j) → (∀ j, S2 14 j = if j = n ∧ p = 0 ∧ ¬ x 18 (2 * n) + x 37 k < x 1 0 then 1 else x 14 j) → hd_ok n k n2 p ht x (if cf_enqA k (fb_up (fb_up S2 42 k (nI n)) 41 k (fb_up S2 42 k (nI n) 41 k + 1)) ≤ cf_enq k (fb_up (fb_up S2 42 k (nI n)) 41 k (fb_up S2 42 k (nI n) 41 k + 1)) 3 0 then cf_enq k (fb_up (fb_up S2 42 k (nI n)) 41 k (fb_up S2 42 k (nI n) 41 k + 1)) else fb_up (cf_enq k (fb_up (fb_up S2 42 k (nI n)) 41 k (fb_up S2 42 k (nI n) 41 k + 1))) 40 k 1) := fun S2 b0 b18 b14 => by
    have d0 : ∀ F, (F ≠ 42 ∧ F ≠ 41) → ∀ j, fb_up (fb_up S2 42 k (nI n)) 41 k (fb_up S2 42 k (nI n) 41 k + 1) F j = S2 F j := fun F hF j => by rw [fb_up_F _ _ _ _ hF.2, fb_up_F _ _ _ _ hF.1]
    have d41 : ∀ j, fb_up (fb_up S2 42 k (nI n)) 41 k (fb_up S2 42 k (nI n) 41 k + 1) 41 j = if j = k then nI (ht + 1) else x 41 j := fun j => by
      by_cases e : j = k
      · rw [e, fb_up_same, if_pos rfl, fb_up_F _ _ _ _ (by decide), b0 41 (by decide), a0 41 (by decide), e41, nI_1]
      · rw [fb_up_i _ _ _ _ e, if_neg e, fb_up_F _ _ _ _ (by decide), b0 41 (by decide), a0 41 (by decide)]
    have d42 : ∀ j, fb_up (fb_up S2 42 k (nI n)) 41 k (fb_up S2 42 k (nI n) 41 k + 1) 42 j = if j = k then nI n else x 42 j := fun j => by
      rw [fb_up_F _ _ _ _ (by decide)]
      by_cases e : j = k
      · rw [e, fb_up_same, if_pos rfl]
      · rw [fb_up_i _ _ _ _ e, if_neg e, b0 42 (by decide), a0 42 (by decide)]
    generalize fb_up (fb_up S2 42 k (nI n)) 41 k (fb_up S2 42 k (nI n) 41 k + 1) = S4 at *
    have d1 : ∀ F, (F ≠ 42 ∧ F ≠ 41 ∧ F ≠ 18 ∧ F ≠ 14) → ∀ j, S4 F j = s0 F j := fun F hF j => (d0 F (by omega) j).trans (b0 F (by omega) j)
    have d2 : ∀ F, (F ≠ 42 ∧ F ≠ 41 ∧ F ≠ 18 ∧ F ≠ 14 ∧ F ≠ 39 ∧ F ≠ 44 ∧ F ≠ 19 ∧ F ≠ 20 ∧ F ≠ 21) → ∀ j, S4 F j = x F j := fun F hF j => (d1 F (by omega) j).trans (a0 F (by omega) j)
    have eQ : cf_enqQ k S4 = nI n2 := by
      show cf_portAt S4 (fb_n (S4 36 k)) (S4 41 k) = nI n2
      unfold cf_portAt
      rw [d41 k, if_pos rfl, d2 36 (by omega), ef, if_neg (nI_pos (by omega)), d2 34 (by omega), if_neg (Int32.not_le.mpr e34), fb_nI (by omega), d2 33 (by omega), e33]
    have eJ : cf_enqJ k S4 = 3 * n2 + p := by
      show 3 * fb_n (cf_enqQ k S4) + fb_n (S4 22 (fb_n (S4 36 k))) = _
      rw [eQ, fb_nI (by omega), d2 36 (by omega), d2 22 (by omega), ep, np]
    have eE : cf_enq k S4 = cf_add (3 * n2 + p) k (fb_up (fb_up S4 38 k 1) 39 k (x 10 n2)) := by
      simp only [cf_enq]
      rw [eJ, eQ, if_neg (nI_pos (by omega)), fb_nI (by omega), fb_up_F _ _ _ _ (show (10 : Nat) ≠ 38 by decide), d2 10 (by omega)]
    have eA : cf_enqA k S4 = cf_enq k S4 21 (3 * n2 + p) := by
      unfold cf_enqA
      rw [eQ, if_neg (nI_pos (by omega)), eJ]
    rw [eA, eE]
    have u0 : ∀ F, (F ≠ 38 ∧ F ≠ 39) → ∀ j, fb_up (fb_up S4 38 k 1) 39 k (x 10 n2) F j = S4 F j := fun F hF j => by rw [fb_up_F _ _ _ _ hF.2, fb_up_F _ _ _ _ hF.1]
    have u38 : ∀ j, fb_up (fb_up S4 38 k 1) 39 k (x 10 n2) 38 j = if j = k then 1 else x 38 j := fun j => by
      rw [fb_up_F _ _ _ _ (by decide)]
      by_cases e : j = k
      · rw [e, fb_up_same, if_pos rfl]
      · rw [fb_up_i _ _ _ _ e, if_neg e, d2 38 (by omega)]
    have u39 : ∀ j, fb_up (fb_up S4 38 k 1) 39 k (x 10 n2) 39 j = if j = k then x 10 n2 else x 39 j := fun j => by
      by_cases e : j = k
      · rw [e, fb_up_same, if_pos rfl]
      · rw [fb_up_i _ _ _ _ e, if_neg e, fb_up_F _ _ _ _ (by decide), d1 39 (by omega), a39 j e]
    generalize fb_up (fb_up S4 38 k 1) 39 k (x 10 n2) = U at *
    have uq : ∀ F, (F = 19 ∨ F = 20 ∨ F = 44 ∨ F = 21) → ∀ j, U F j = cf_rem (3 * n + 2) x F j := fun F hF j => ((u0 F (by omega) j).trans (d1 F (by omega) j)).trans (a1 F (by omega) j)
    obtain ⟨c19, c20, c44⟩ := cf_add_cong (b := 3 * n2 + p) (k := k) (t := U) (s := cf_rem (3 * n + 2) x) (uq 19 (by omega)) (uq 20 (by omega)) (uq 44 (by omega))
    have v21 : ∀ j, cf_add (3 * n2 + p) k U 21 j = if j = 3 * n2 + p then x 21 j + x 37 k else if j = 3 * n + 2 then x 21 j - x 37 k else x 21 j := fun j => by
      rw [cf_add_21, uq 21 (by omega), uq 21 (by omega), cf_rem_21 e19 hk, cf_rem_21 e19 hk, u0 37 (by omega), d2 37 (by omega), if_neg (show ¬ 3 * n2 + p = 3 * n + 2 by omega)]
      by_cases e : j = 3 * n2 + p
      · rw [if_pos e, if_pos e, e]
      · rw [if_neg e, if_neg e]
        by_cases e2 : j = 3 * n + 2
        · rw [if_pos e2, if_pos e2, e2]
        · rw [if_neg e2, if_neg e2]
    have v0 : ∀ F, (F ≠ 44 ∧ F ≠ 19 ∧ F ≠ 20 ∧ F ≠ 21) → ∀ j, cf_add (3 * n2 + p) k U F j = U F j := fun F hF j => add_k hF
    generalize cf_add (3 * n2 + p) k U = S5 at *
    have z0 : ∀ F, (F ≠ 18 ∧ F ≠ 14 ∧ F ≠ 42 ∧ F ≠ 41 ∧ F ≠ 38 ∧ F ≠ 39 ∧ F ≠ 19 ∧ F ≠ 20 ∧ F ≠ 21 ∧ F ≠ 44) → ∀ j, S5 F j = x F j := fun F hF j => ((v0 F (by omega) j).trans (u0 F (by omega) j)).trans (d2 F (by omega) j)
    have z18 : ∀ j, S5 18 j = if j = 2 * n + p then x 18 j + x 37 k else x 18 j := fun j => by rw [v0 18 (by omega), u0 18 (by omega), d0 18 (by omega), b18]
    have z14 : ∀ j, S5 14 j = if j = n ∧ p = 0 ∧ ¬ x 18 (2 * n) + x 37 k < x 1 0 then 1 else x 14 j := fun j => by rw [v0 14 (by omega), u0 14 (by omega), d0 14 (by omega), b14]
    have z42 : ∀ j, S5 42 j = if j = k then nI n else x 42 j := fun j => by rw [v0 42 (by omega), u0 42 (by omega), d42]
    have z41 : ∀ j, S5 41 j = if j = k then nI (ht + 1) else x 41 j := fun j => by rw [v0 41 (by omega), u0 41 (by omega), d41]
    have z38 : ∀ j, S5 38 j = if j = k then 1 else x 38 j := fun j => by rw [v0 38 (by omega), u38]
    have z39 : ∀ j, S5 39 j = if j = k then x 10 n2 else x 39 j := fun j => by rw [v0 39 (by omega), u39]
    rw [z0 3 (by omega)]
    by_cases c : S5 21 (3 * n2 + p) ≤ x 3 0
    · rw [if_pos c]
      refine ⟨fun F hF j => z0 F (by omega) j, z18, z14, z42, z41, z38, z39, fun j => ?_, c19, c20, c44, v21⟩
      rw [if_neg (fun q => q.2 c)]
      exact z0 40 (by omega) j
    · rw [if_neg c]
      have g : ∀ F, F ≠ 40 → ∀ j, fb_up S5 40 k 1 F j = S5 F j := fun F hF j => fb_up_F _ _ _ _ hF
      refine ⟨fun F hF j => (g F (by omega) j).trans (z0 F (by omega) j), fun j => (g 18 (by omega) j).trans (z18 j), fun j => (g 14 (by omega) j).trans (z14 j), fun j => (g 42 (by omega) j).trans (z42 j), fun j => (g 41 (by omega) j).trans (z41 j), fun j => (g 38 (by omega) j).trans (z38 j), fun j => (g 39 (by omega) j).trans (z39 j), fun j => ?_, fun j => (g 19 (by omega) j).trans (c19 j), fun j => (g 20 (by omega) j).trans (c20 j), fun j => (g 44 (by omega) j).trans (c44 j), fun j => (g 21 (by omega) j).trans (v21 j)⟩
      rw [g 21 (by omega)]
      by_cases e : j = k
      · rw [if_pos ⟨e, c⟩, e, fb_up_same]
      · rw [if_neg (fun q => e q.1), fb_up_i _ _ _ _ e]
        exact z0 40 (by omega) j
  have A0 : ∀ F, F ≠ 18 → ∀ j, fb_up s0 18 (2 * n + p) (x 18 (2 * n + p) + x 37 k) F j = s0 F j := fun F hF j => fb_up_F _ _ _ _ hF
  have A18 : ∀ j, fb_up s0 18 (2 * n + p) (x 18 (2 * n + p) + x 37 k) 18 j = if j = 2 * n + p then x 18 j + x 37 k else x 18 j := fun j => by
    by_cases e : j = 2 * n + p
    · rw [e, fb_up_same, if_pos rfl]
    · rw [fb_up_i _ _ _ _ e, if_neg e, a0 18 (by omega)]
  have A14 : ∀ j, fb_up s0 18 (2 * n + p) (x 18 (2 * n + p) + x 37 k) 14 j = x 14 j := fun j => (A0 14 (by omega) j).trans (a0 14 (by omega) j)
  simp only [cf_hold, ep0, np, a0 18 (show _ by omega), a0 37 (show _ by omega)]
  generalize fb_up s0 18 (2 * n + p) (x 18 (2 * n + p) + x 37 k) = A at *
  have z0 : fb_n 0 = 0 := rfl
  rw [z0, Nat.add_zero, A18, A0 1 (by omega), a0 1 (by omega)]
  rcases (show p = 0 ∨ p = 1 by omega) with hp0 | hp1
  · subst hp0
    rw [if_pos (show 2 * n = 2 * n + 0 by omega), if_pos nI_0]
    by_cases c : x 18 (2 * n) + x 37 k < x 1 0
    · rw [if_pos c]
      exact fin A (fun F hF j => A0 F hF.1 j) A18 (fun j => by rw [if_neg (fun q => q.2.2 c)]; exact A14 j)
    · rw [if_neg c]
      refine fin (fb_up A 14 n 1) (fun F hF j => (fb_up_F _ _ _ _ hF.2).trans (A0 F hF.1 j)) (fun j => (fb_up_F _ _ _ _ (by decide)).trans (A18 j)) (fun j => ?_)
      by_cases e : j = n
      · rw [if_pos ⟨e, rfl, c⟩, e, fb_up_same]
      · rw [if_neg (fun q => e q.1), fb_up_i _ _ _ _ e]
        exact A14 j
  · subst hp1
    rw [if_neg (show ¬ nI 1 = 0 by decide)]
    exact fin A (fun F hF j => A0 F hF.1 j) A18 (fun j => by rw [if_neg (fun q => absurd q.2.1 (by decide))]; exact A14 j)
