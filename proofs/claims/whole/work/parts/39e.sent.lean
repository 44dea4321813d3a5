/-! a tick's first phase, the class's side: what one port does -/
theorem cf_add_cong {b k : Nat} {s t : fb_S} (e19 : ∀ j, t 19 j = s 19 j) (e20 : ∀ j, t 20 j = s 20 j) (e44 : ∀ j, t 44 j = s 44 j) : (∀ j, cf_add b k t 19 j = cf_add b k s 19 j) ∧ (∀ j, cf_add b k t 20 j = cf_add b k s 20 j) ∧ ∀ j, cf_add b k t 44 j = cf_add b k s 44 j := by
  have c20 : fb_up t 44 k (-1) 20 b = fb_up s 44 k (-1) 20 b := by
    rw [fb_up_F _ _ _ _ (by decide), fb_up_F _ _ _ _ (by decide), e20]
  have u44 : ∀ j, fb_up t 44 k (-1) 44 j = fb_up s 44 k (-1) 44 j := fun j => by
    unfold fb_up
    by_cases e : j = k
    · rw [if_pos ⟨rfl, e⟩, if_pos ⟨rfl, e⟩]
    · rw [if_neg (fun h => e h.2), if_neg (fun h => e h.2), e44]
  have u19 : ∀ j, fb_up t 44 k (-1) 19 j = fb_up s 44 k (-1) 19 j := fun j => by
    rw [fb_up_F _ _ _ _ (by decide), fb_up_F _ _ _ _ (by decide), e19]
  have u20 : ∀ j, fb_up t 44 k (-1) 20 j = fb_up s 44 k (-1) 20 j := fun j => by
    rw [fb_up_F _ _ _ _ (by decide), fb_up_F _ _ _ _ (by decide), e20]
  have gen : ∀ (F : Nat), F = 19 ∨ F = 20 ∨ F = 44 → (∀ j, fb_up t 44 k (-1) F j = fb_up s 44 k (-1) F j) → ∀ j, cf_add b k t F j = cf_add b k s F j := fun F hF hu j => by
    simp only [cf_add]
    rw [fb_up_F _ _ _ _ (show F ≠ 21 by omega), fb_up_F _ _ _ _ (show F ≠ 21 by omega), c20]
    have inner : ∀ (x y : fb_S), (∀ j, x F j = y F j) → fb_up x 20 b (nI k) F j = fb_up y 20 b (nI k) F j := fun x y h => by
      unfold fb_up
      split
      · rfl
      · exact h j
    refine inner _ _ (fun j => ?_)
    split
    · unfold fb_up
      split
      · rfl
      · exact hu j
    · show fb_up (fb_up t 44 k (-1)) 44 _ _ F j = fb_up (fb_up s 44 k (-1)) 44 _ _ F j
      generalize fb_up t 44 k (-1) = x at *
      generalize fb_up s 44 k (-1) = y at *
      unfold fb_up
      split
      · rfl
      · exact hu j
  exact ⟨gen 19 (by omega) u19, gen 20 (by omega) u20, gen 44 (by omega) u44⟩
/-- the store behind endSending of port i, whose frame k ends now -/
def es_ok (fr i k : Nat) (s s' : fb_S) : Prop :=
  (∀ F j, F ≠ 13 → F ≠ 38 → F ≠ 43 → F ≠ 44 → F ≠ 19 → F ≠ 20 → F ≠ 21 → F ≠ 18 → F ≠ 14 → s' F j = s F j) ∧ (∀ j, s' 13 j = if j = i then -1 else s 13 j) ∧ (∀ j, s' 38 j = if j = k then 3 else s 38 j) ∧ (∀ j, s' 43 j = if j = k then s 6 0 + s 0 0 else s 43 j) ∧ (∀ j, s' 19 j = cf_add (3 * i + 2) k s 19 j) ∧ (∀ j, s' 20 j = cf_add (3 * i + 2) k s 20 j) ∧ (∀ j, s' 44 j = cf_add (3 * i + 2) k s 44 j) ∧ (∀ j, s' 21 j = if j = 3 * i + 2 then s 21 j + s 37 k else s 21 j) ∧ (∀ j, j < 64 → s' 18 j = if fb_hb s k = j then s 18 j - s 37 k else s 18 j) ∧ (∀ c, c < 32 → s' 14 c = if fb_hb s k = 2 * c then (if s 1 0 / 2 < s' 18 (2 * c) then s 14 c else 0) else s 14 c)
theorem es_step {fl fr i k : Nat} {s : fb_S} (ok : fb_okC fl fr s) (hfr : fr ≤ 100) (hk : k < fr) (h13 : s 13 i = nI k) (h43 : s 43 k = s 6 0) (h38 : s 38 k = 2) : es_ok fr i k s (cf_endSending i s) := by
  have nk : fb_n (nI k) = k := fb_nI (by omega)
  have e0 : cf_endSending i s = (let s4 := cf_add (3 * i + 2) k (fb_up (fb_up (fb_up s 13 i (-1)) 38 k 3) 43 k (s 6 0 + s 0 0)); if s4 42 k < 0 then s4 else cf_release k (fb_n (s4 42 k)) s4) := by
    simp only [cf_endSending]
    rw [h13, if_neg (nI_pos (by omega)), nk, if_pos h43]
    rw [fb_up_F (fb_up s 13 i (-1)) k 0 3 (show (6 : Nat) ≠ 38 by decide), fb_up_F s i 0 (-1) (show (6 : Nat) ≠ 13 by decide), fb_up_F (fb_up s 13 i (-1)) k 0 3 (show (0 : Nat) ≠ 38 by decide), fb_up_F s i 0 (-1) (show (0 : Nat) ≠ 13 by decide)]
  rw [e0]
  have a3 : ∀ F j, F ≠ 13 → F ≠ 38 → F ≠ 43 → fb_up (fb_up (fb_up s 13 i (-1)) 38 k 3) 43 k (s 6 0 + s 0 0) F j = s F j := fun F j x y z => by
    rw [fb_up_F _ _ _ _ z, fb_up_F _ _ _ _ y, fb_up_F _ _ _ _ x]
  have b13 : ∀ j, fb_up (fb_up (fb_up s 13 i (-1)) 38 k 3) 43 k (s 6 0 + s 0 0) 13 j = if j = i then -1 else s 13 j := fun j => by
    rw [fb_up_F _ _ _ _ (by decide), fb_up_F _ _ _ _ (by decide)]
    unfold fb_up
    by_cases e : j = i
    · rw [if_pos ⟨rfl, e⟩, if_pos e]
    · rw [if_neg (fun h => e h.2), if_neg e]
  have b38 : ∀ j, fb_up (fb_up (fb_up s 13 i (-1)) 38 k 3) 43 k (s 6 0 + s 0 0) 38 j = if j = k then 3 else s 38 j := fun j => by
    rw [fb_up_F _ _ _ _ (by decide)]
    by_cases e : j = k
    · rw [e, fb_up_same, if_pos rfl]
    · rw [fb_up_i _ _ _ _ e, fb_up_F _ _ _ _ (by decide), if_neg e]
  have b43 : ∀ j, fb_up (fb_up (fb_up s 13 i (-1)) 38 k 3) 43 k (s 6 0 + s 0 0) 43 j = if j = k then s 6 0 + s 0 0 else s 43 j := fun j => by
    by_cases e : j = k
    · rw [e, fb_up_same, if_pos rfl]
    · rw [fb_up_i _ _ _ _ e, fb_up_F _ _ _ _ (by decide), fb_up_F _ _ _ _ (by decide), if_neg e]
  obtain ⟨c19, c20, c44⟩ := cf_add_cong (b := 3 * i + 2) (k := k) (s := s) (fun j => a3 19 j (by decide) (by decide) (by decide)) (fun j => a3 20 j (by decide) (by decide) (by decide)) (fun j => a3 44 j (by decide) (by decide) (by decide))
  have c21 : ∀ j, cf_add (3 * i + 2) k (fb_up (fb_up (fb_up s 13 i (-1)) 38 k 3) 43 k (s 6 0 + s 0 0)) 21 j = if j = 3 * i + 2 then s 21 j + s 37 k else s 21 j := fun j => by
    rw [cf_add_21, a3 21 _ (by decide) (by decide) (by decide), a3 37 _ (by decide) (by decide) (by decide), a3 21 _ (by decide) (by decide) (by decide)]
    by_cases e : j = 3 * i + 2
    · rw [if_pos e, if_pos e, e]
    · rw [if_neg e, if_neg e]
  have keep : ∀ F j, F ≠ 44 → F ≠ 19 → F ≠ 20 → F ≠ 21 → cf_add (3 * i + 2) k (fb_up (fb_up (fb_up s 13 i (-1)) 38 k 3) 43 k (s 6 0 + s 0 0)) F j = fb_up (fb_up (fb_up s 13 i (-1)) 38 k 3) 43 k (s 6 0 + s 0 0) F j := fun F j a b c d => cf_add_keep a (fun e => absurd e b) (fun e => absurd e c) (fun e => absurd e d)
  generalize cf_add (3 * i + 2) k (fb_up (fb_up (fb_up s 13 i (-1)) 38 k 3) 43 k (s 6 0 + s 0 0)) = s4 at *
  generalize fb_up (fb_up (fb_up s 13 i (-1)) 38 k 3) 43 k (s 6 0 + s 0 0) = s3 at *
  have o4 : ∀ F j, F ≠ 13 → F ≠ 38 → F ≠ 43 → F ≠ 44 → F ≠ 19 → F ≠ 20 → F ≠ 21 → s4 F j = s F j := fun F j a b c d e f g => (keep F j d e f g).trans (a3 F j a b c)
  have d13 : ∀ j, s4 13 j = if j = i then -1 else s 13 j := fun j => (keep 13 j (by decide) (by decide) (by decide) (by decide)).trans (b13 j)
  have d38 : ∀ j, s4 38 j = if j = k then 3 else s 38 j := fun j => (keep 38 j (by decide) (by decide) (by decide) (by decide)).trans (b38 j)
  have d43 : ∀ j, s4 43 j = if j = k then s 6 0 + s 0 0 else s 43 j := fun j => (keep 43 j (by decide) (by decide) (by decide) (by decide)).trans (b43 j)
  have e42 : s4 42 k = s 42 k := o4 42 k (by decide) (by decide) (by decide) (by decide) (by decide) (by decide) (by decide)
  show es_ok fr i k s (if s4 42 k < 0 then s4 else cf_release k (fb_n (s4 42 k)) s4)
  rw [e42]
  by_cases c42 : s 42 k < 0
  · have hb : fb_hb s k = 200 := if_pos c42
    rw [if_pos c42]
    refine ⟨fun F j a b c d e f g h1 h2 => o4 F j a b c d e f g, d13, d38, d43, c19, c20, c44, c21, fun j hj => ?_, fun c hc => ?_⟩
    · rw [hb, if_neg (by omega)]
      exact o4 18 j (by decide) (by decide) (by decide) (by decide) (by decide) (by decide) (by decide)
    · rw [hb, if_neg (by omega)]
      exact o4 14 c (by decide) (by decide) (by decide) (by decide) (by decide) (by decide) (by decide)
  · rw [if_neg c42]
    obtain ⟨c0, hc0, ec0⟩ : ∃ c0, c0 < 32 ∧ s 42 k = nI c0 := by
      rcases ok 42 k with e | e
      · rw [e] at c42
        exact absurd fb_m1 c42
      · exact vp_in_of e (by decide)
    obtain ⟨p, hp, ep⟩ := cp_pr ok k
    have ep2 : s4 22 (fb_n (s4 36 k)) = nI p := by
      rw [o4 36 k (by decide) (by decide) (by decide) (by decide) (by decide) (by decide) (by decide), o4 22 _ (by decide) (by decide) (by decide) (by decide) (by decide) (by decide) (by decide)]
      exact ep
    have hb : fb_hb s k = 2 * c0 + p := by
      unfold fb_hb
      rw [if_neg c42, if_neg (by rw [h38]; decide), if_pos h38, ec0, ep, fb_nI (by omega), fb_nI (by omega)]
    rw [ec0, fb_nI (by omega)]
    have er : cf_release k c0 s4 = (let s5 := fb_up s4 18 (2 * c0 + p) (s 18 (2 * c0 + p) - s 37 k); if p = 0 then (if s 1 0 / 2 < s5 18 (2 * c0) then s5 else fb_up s5 14 c0 0) else s5) := by
      simp only [cf_release]
      rw [ep2, fb_nI (by omega), o4 18 _ (by decide) (by decide) (by decide) (by decide) (by decide) (by decide) (by decide), o4 37 _ (by decide) (by decide) (by decide) (by decide) (by decide) (by decide) (by decide), fb_up_F s4 _ 0 _ (show (1 : Nat) ≠ 18 by decide), o4 1 0 (by decide) (by decide) (by decide) (by decide) (by decide) (by decide) (by decide)]
      have : (nI p = 0) ↔ p = 0 := by rw [show (0 : Int32) = nI 0 from rfl, nI_eq (by omega) (by omega)]
      simp only [this]
      rfl
    rw [er]
    have f18 : ∀ j, fb_up s4 18 (2 * c0 + p) (s 18 (2 * c0 + p) - s 37 k) 18 j = if fb_hb s k = j then s 18 j - s 37 k else s 18 j := fun j => by
      rw [hb]
      by_cases e : 2 * c0 + p = j
      · rw [← e, fb_up_same, if_pos rfl]
      · rw [fb_up_i _ _ _ _ (Ne.symm e), if_neg e]
        exact o4 18 j (by decide) (by decide) (by decide) (by decide) (by decide) (by decide) (by decide)
    have fo : ∀ F j, F ≠ 18 → fb_up s4 18 (2 * c0 + p) (s 18 (2 * c0 + p) - s 37 k) F j = s4 F j := fun F j h => fb_up_F _ _ _ _ h
    generalize fb_up s4 18 (2 * c0 + p) (s 18 (2 * c0 + p) - s 37 k) = s5 at *
    have base : ∀ F j, F ≠ 13 → F ≠ 38 → F ≠ 43 → F ≠ 44 → F ≠ 19 → F ≠ 20 → F ≠ 21 → F ≠ 18 → s5 F j = s F j := fun F j a b c d e f g h1 => (fo F j h1).trans (o4 F j a b c d e f g)
    have plain : (∀ c, c < 32 → s5 14 c = if fb_hb s k = 2 * c then (if s 1 0 / 2 < s5 18 (2 * c) then s 14 c else 0) else s 14 c) → es_ok fr i k s s5 := fun h14 => ⟨fun F j a b c d e f g h1 h2 => base F j a b c d e f g h1, fun j => (fo 13 j (by decide)).trans (d13 j), fun j => (fo 38 j (by decide)).trans (d38 j), fun j => (fo 43 j (by decide)).trans (d43 j), fun j => (fo 19 j (by decide)).trans (c19 j), fun j => (fo 20 j (by decide)).trans (c20 j), fun j => (fo 44 j (by decide)).trans (c44 j), fun j => (fo 21 j (by decide)).trans (c21 j), fun j _ => f18 j, h14⟩
    have s14 : ∀ c, s5 14 c = s 14 c := fun c => base 14 c (by decide) (by decide) (by decide) (by decide) (by decide) (by decide) (by decide) (by decide)
    show es_ok fr i k s (if p = 0 then (if s 1 0 / 2 < s5 18 (2 * c0) then s5 else fb_up s5 14 c0 0) else s5)
    by_cases cp : p = 0
    · subst cp
      rw [if_pos rfl]
      by_cases cx : s 1 0 / 2 < s5 18 (2 * c0)
      · rw [if_pos cx]
        refine plain (fun c hc => ?_)
        rw [s14 c]
        by_cases e : fb_hb s k = 2 * c
        · have : c = c0 := by omega
          subst this
          rw [if_pos e, if_pos cx]
        · rw [if_neg e]
      · rw [if_neg cx]
        have g : ∀ F j, F ≠ 14 → fb_up s5 14 c0 0 F j = s5 F j := fun F j h => fb_up_F _ _ _ _ h
        refine ⟨fun F j a b c d e f g' h1 h2 => (g F j h2).trans (base F j a b c d e f g' h1), fun j => (g 13 j (by decide)).trans ((fo 13 j (by decide)).trans (d13 j)), fun j => (g 38 j (by decide)).trans ((fo 38 j (by decide)).trans (d38 j)), fun j => (g 43 j (by decide)).trans ((fo 43 j (by decide)).trans (d43 j)), fun j => (g 19 j (by decide)).trans ((fo 19 j (by decide)).trans (c19 j)), fun j => (g 20 j (by decide)).trans ((fo 20 j (by decide)).trans (c20 j)), fun j => (g 44 j (by decide)).trans ((fo 44 j (by decide)).trans (c44 j)), fun j => (g 21 j (by decide)).trans ((fo 21 j (by decide)).trans (c21 j)), fun j _ => (g 18 j (by decide)).trans (f18 j), fun c hc => ?_⟩
        rw [g 18 _ (by decide)]
        by_cases e : fb_hb s k = 2 * c
        · have : c = c0 := by omega
          subst this
          rw [if_pos e, if_neg cx, fb_up_same]
        · rw [if_neg e, fb_up_i _ _ _ _ (by omega)]
          exact s14 c
    · rw [if_neg cp]
      refine plain (fun c hc => ?_)
      rw [s14 c, if_neg (by omega)]
