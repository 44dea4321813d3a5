/-! a tick: one frame moves; what stays -/
def FS (k : Nat) (s m s' m' : fb_S) : Prop := (∀ F, (F < 12 ∨ F = 15 ∨ F = 16 ∨ (22 ≤ F ∧ F ≤ 26) ∨ F = 29 ∨ (33 ≤ F ∧ F ≤ 37)) → ∀ j, s' F j = s F j) ∧ (∀ F, (F < 5 ∨ (6 ≤ F ∧ F ≤ 13) ∨ (15 ≤ F ∧ F ≤ 17) ∨ F = 25 ∨ F = 27) → ∀ j, m' F j = m F j) ∧ (∀ F, (38 ≤ F ∧ F ≤ 43) → ∀ j, j ≠ k → s' F j = s F j) ∧ ∀ F, (18 ≤ F ∧ F ≤ 22) → ∀ j, j ≠ k → m' F j = m F j
section MOVE
variable {fl fr T k : Nat} {s m s' m' : fb_S}
theorem fs_nd (fs : FS k s m s' m') (f i : Int32) : mf_node m' f i = mf_node m f i := node_c (fs.2.1 7 (by omega)) (fs.2.1 8 (by omega)) f i
theorem fs_en (fs : FS k s m s' m') (f : Int32) : mf_end m' f = mf_end m f := end_c (fs.2.1 7 (by omega)) (fs.2.1 8 (by omega)) f
theorem fs_ln (fs : FS k s m s' m') : fb_ln s' = fb_ln s := funext (fun x => ln_c (fs.1 37 (by omega) x))
theorem fs_prk (fs : FS k s m s' m') (x : Nat) : fb_prk s' x = fb_prk s x := prk_c (fs.1 22 (by omega)) (fs.1 36 (by omega) x)
theorem fs_loc (fs : FS k s m s' m') {x : Nat} (hx : x ≠ k) : fb_loc s' x = fb_loc s x := loc_c (fs.1 33 (by omega)) (fs.1 36 (by omega) x) (fs.2.2.1 41 (by omega) x hx)
theorem fs_lc (fs : FS k s m s' m') {b : Nat} (hb : fb_lc s' k = b) : fb_lc s' = fb_cu (fb_lc s) k b := by
  funext x
  unfold fb_cu
  by_cases e : x = k
  · rw [if_pos e, e, hb]
  · rw [if_neg e]
    exact lc_c (fs.2.2.1 38 (by omega) x e) (fs_loc fs e) (fs_prk fs x)
theorem fs_hb (fs : FS k s m s' m') {b : Nat} (hb : fb_hb s' k = b) : fb_hb s' = fb_cu (fb_hb s) k b := by
  funext x
  unfold fb_cu
  by_cases e : x = k
  · rw [if_pos e, e, hb]
  · rw [if_neg e]
    exact hb_c (fs.2.2.1 38 (by omega) x e) (fs.2.2.1 42 (by omega) x e) (fs_prk fs x)
theorem fs_R (fs : FS k s m s' m') (hR : cp_R fl s m) : cp_R fl s' m' := by
  intro f hf
  simp only [fs.1 34 (by omega), fs.1 33 (by omega), fs_nd fs, fs_en fs]
  exact hR f hf
theorem fs_F (fs : FS k s m s' m') (hF : cp_F fl s m) (h27 : ∀ f, f < fl → s' 27 f = m' 14 f) : cp_F fl s' m' := by
  intro f hf
  obtain ⟨a, b, c, d, e, -⟩ := hF f hf
  rw [fs.1 22 (by omega), fs.1 23 (by omega), fs.1 24 (by omega), fs.1 25 (by omega), fs.1 26 (by omega), fs.2.1 9 (by omega), fs.2.1 10 (by omega), fs.2.1 11 (by omega), fs.2.1 12 (by omega), fs.2.1 13 (by omega)]
  exact ⟨a, b, c, d, e, h27 f hf⟩
theorem fs_K (fs : FS k s m s' m') (hK : cp_K fr s m) (n38 : s' 38 k = m' 18 k) (n40 : s' 40 k = m' 22 k) (n39 : s' 39 k = mf_node m (m 16 k) (m' 19 k)) (nst : m' 18 k = 1 ∨ m' 18 k = 2 ∨ m' 18 k = 3 ∨ m' 18 k = 4 ∨ m' 18 k = 5) (nway : m' 18 k < 4 → ∃ h, cp_way s' m' k h) : cp_K fr s' m' := by
  intro x hx
  by_cases e : x = k
  · subst e
    obtain ⟨a, b, -, -, d, -⟩ := hK x hx
    refine ⟨?_, ?_, n38, n40, ?_, ?_, nst, nway⟩
    · rw [fs.1 36 (by omega), fs.2.1 16 (by omega)]
      exact a
    · rw [fs.1 37 (by omega), fs.2.1 17 (by omega)]
      exact b
    · rw [fs.1 35 (by omega)]
      exact d
    · rw [fs_nd fs, fs.2.1 16 (by omega)]
      exact n39
  · simp only [cp_way, fs.1 36 (by omega), fs.1 37 (by omega), fs.2.2.1 38 (by omega) x e, fs.2.2.1 40 (by omega) x e, fs.1 35 (by omega), fs.2.2.1 39 (by omega) x e, fs.2.2.1 41 (by omega) x e, fs.1 34 (by omega), fs.2.2.1 42 (by omega) x e, fs.1 33 (by omega), fs.2.2.1 43 (by omega) x e, fs.2.1 16 (by omega), fs.2.1 17 (by omega), fs.2.2.2 18 (by omega) x e, fs.2.2.2 22 (by omega) x e, fs.2.2.2 19 (by omega) x e, fs.2.2.2 21 (by omega) x e, fs.2.1 0 (by omega), fs_nd fs]
    exact hK x hx
theorem fs_W {x y v : Nat} (fs : FS k s m s' m') (hW : cp_W fr T x y v s m) (hk : (m' 18 k = 2 → ∃ w, m' 21 k = nI w ∧ T + x ≤ w ∧ w ≤ T + 4) ∧ (m' 18 k = 3 → ∃ w, m' 21 k = nI w ∧ w ≤ T ∧ T + y ≤ w + fb_n (s 0 0)) ∧ (m' 18 k = 4 → ∃ w, m' 21 k = nI w ∧ 1 ≤ w ∧ w + 1 ≤ T + v)) : cp_W fr T x y v s' m' := by
  intro z hz
  rw [fs.1 0 (by omega)]
  by_cases e : z = k
  · subst e
    exact hk
  · rw [fs.2.2.2 18 (by omega) z e, fs.2.2.2 21 (by omega) z e]
    exact hW z hz
theorem fs_S (fs : FS k s m s' m') (hS : cp_S fl fr T s m) (h28 : ∀ f, s' 28 f = s 28 f) (h4 : ¬ m 18 k = 4) (h4' : ¬ m' 18 k = 4) : cp_S fl fr T s' m' := by
  intro f hf
  rw [h28, hS f hf]
  constructor
  · rintro ⟨x, hx, a, b, c, d⟩
    have e : x ≠ k := fun e => h4 (e ▸ b)
    exact ⟨x, hx, by rw [fs.2.1 16 (by omega)]; exact a, by rw [fs.2.2.2 18 (by omega) x e]; exact b, by rw [fs.2.2.2 22 (by omega) x e]; exact c, by rw [fs.2.2.2 21 (by omega) x e]; exact d⟩
  · rintro ⟨x, hx, a, b, c, d⟩
    have e : x ≠ k := fun e => h4' (e ▸ b)
    rw [fs.2.1 16 (by omega)] at a
    rw [fs.2.2.2 18 (by omega) x e] at b
    rw [fs.2.2.2 22 (by omega) x e] at c
    rw [fs.2.2.2 21 (by omega) x e] at d
    exact ⟨x, hx, a, b, c, d⟩
theorem fs_N (fs : FS k s m s' m') (hfr : fr ≤ 100) (hN : cp_N fl fr s m) (h30 : ∀ f, s' 30 f = s 30 f) (h31 : ∀ f, s' 31 f = s 31 f) (h32 : ∀ f, s' 32 f = s 32 f) (h4 : m 18 k < 4) (h4' : m' 18 k < 4) : cp_N fl fr s' m' := by
  intro f hf
  have a4 : ∀ z : Int32, z < 4 → ¬ z = 4 := fun z h e => by rw [e] at h; exact absurd h (by decide)
  have a5 : ∀ z : Int32, z < 4 → ¬ z = 5 := fun z h e => by rw [e] at h; exact absurd h (by decide)
  have h18 : ∀ j, j < fr → ∀ x : Int32, (x = 4 ∨ x = 5) → (m' 18 j = x ↔ m 18 j = x) := fun j _ x hx => by
    by_cases e : j = k
    · subst e
      rcases hx with rfl | rfl
      · exact ⟨fun q => absurd q (a4 _ h4'), fun q => absurd q (a4 _ h4)⟩
      · exact ⟨fun q => absurd q (a5 _ h4'), fun q => absurd q (a5 _ h4)⟩
    · rw [fs.2.2.2 18 (by omega) j e]
  rw [h30, h31, h32, count_k (fun j _ => fs.2.1 16 (by omega) j) (fun j hj => h18 j hj 4 (Or.inl rfl)), count_k (fun j _ => fs.2.1 16 (by omega) j) (fun j hj => h18 j hj 5 (Or.inr rfl)), (last_k (fs.2.1 6 (by omega) 0) (fun j _ => fs.2.1 16 (by omega) j) (fun j hj _ => h18 j hj 4 (Or.inl rfl)) (fun j _ hj => fs.2.2.2 21 (by omega) j (fun e => a4 _ h4 (e ▸ hj))) (by omega)).1]
  exact hN f hf
/-- the whole coupling -/
theorem fs_M {x y v z x' y' v' z' : Nat} {Q' : Nat → List Nat} (h : MID fl fr T x y v z s m) (fs : FS k s m s' m') (h22 : ∀ j, fr ≤ j → m' 22 j = m 22 j) (ok' : fb_okC fl fr s') (okm' : fb_okM fl fr T m') (hW' : cp_W fr T x' y' v' s' m') (hS' : cp_S fl fr T s' m') (hord : ∃ o, m' 5 0 = nI o ∧ o + 32 ≤ fr + 32 * T + z') (hP' : cp_P s' m') (h27 : ∀ f, f < fl → s' 27 f = m' 14 f) (h14 : ∀ f, fl ≤ f → m' 14 f = m 14 f) (hK' : cp_K fr s' m') (hC' : cp_C fr s' Q') (hO' : cp_O fr s' m' Q') (hN' : cp_N fl fr s' m') (hcr' : cp_cr s') (h4 : k < fr → ¬ m 18 k = 4) (h4' : k < fr → m' 18 k = 4 → m' 21 k = nI T) : MID fl fr T x' y' v' z' s' m' := by
  obtain ⟨ok, okm, hfl, hfr, hT1, hTb, hpa, hW, hSm, -, Q, hG, hP, hF, hR, hK, hC, hO, hN, hE, hcr, hZ, hJ1, hJ2⟩ := h
  refine ⟨ok', okm', hfl, hfr, hT1, hTb, fun i hi => ?_, hW', hS', hord, Q', ?_, hP', fs_F fs hF h27, fs_R fs hR, hK', hC', hO', hN', ?_, hcr', ⟨fun f hf => ?_, fun j hj => ?_⟩, fun i hi => ?_, fun f hf => ?_⟩
  · rw [fs.1 16 (by omega), paused_c (fs.2.1 0 (by omega) 0) (fs.2.1 4 (by omega) 0) _ _ (fs.2.1 27 (by omega) _)]
    exact hpa i hi
  · simp only [cp_G, fs.1 0 (by omega), fs.1 1 (by omega), fs.1 2 (by omega), fs.1 3 (by omega), fs.1 6 (by omega), fs.1 7 (by omega), fs.2.1 0 (by omega), fs.2.1 1 (by omega), fs.2.1 2 (by omega), fs.2.1 3 (by omega), fs.2.1 4 (by omega), fs.2.1 25 (by omega)]
    exact hG
  · simp only [cp_E, fs.2.1 7 (by omega), fs.2.1 8 (by omega)]
    exact hE
  · rw [fs.2.1 13 (by omega), h14 f hf]
    exact hZ.1 f hf
  · rw [h22 j hj]
    exact hZ.2 j hj
  · simp only [fs.1 15 (by omega), fs.2.1 27 (by omega)]
    exact hJ1 i hi
  · obtain ⟨b, hb, eb, hbits⟩ := hJ2 f hf
    refine ⟨b, hb, by rw [fs.1 29 (by omega)]; exact eb, fun j hj => (hbits j hj).trans ?_⟩
    constructor
    · rintro ⟨a, ha, a1, a2, a3, a4, a5⟩
      have e : a ≠ k := fun e => h4 (e ▸ ha) (e ▸ a2)
      exact ⟨a, ha, by rw [fs.2.1 16 (by omega)]; exact a1, by rw [fs.2.2.2 18 (by omega) a e]; exact a2, by rw [fs.2.2.2 22 (by omega) a e]; exact a3, a4, by rw [fs.2.2.2 21 (by omega) a e]; exact a5⟩
    · rintro ⟨a, ha, a1, a2, a3, a4, a5⟩
      have e : a ≠ k := fun e => by
        subst e
        have := (nI_eq (by omega) (by omega)).mp ((h4' ha a2).symm.trans a5)
        omega
      rw [fs.2.1 16 (by omega)] at a1
      rw [fs.2.2.2 18 (by omega) a e] at a2
      rw [fs.2.2.2 22 (by omega) a e] at a3
      rw [fs.2.2.2 21 (by omega) a e] at a5
      exact ⟨a, ha, a1, a2, a3, a4, a5⟩
end MOVE
section CODES
variable {fl fr : Nat} {s m : fb_S}
theorem cp_loc (ok : fb_okC fl fr s) (hfl : fl ≤ 12) (hR : cp_R fl s m) (hK : cp_K fr s m) {k : Nat} (hk : k < fr) (h4 : m 18 k < 4) : ∃ i, i < 32 ∧ fb_loc s k = nI i := by
  obtain ⟨h, hw⟩ := (hK k hk).2.2.2.2.2.2.2 h4
  obtain ⟨i0, hi0, e0, -⟩ := cp_at ok hfl hR hK hk hw
  exact ⟨i0, hi0, e0⟩
theorem lc_w (ok : fb_okC fl fr s) (hfl : fl ≤ 12) (hR : cp_R fl s m) (hK : cp_K fr s m) {k i : Nat} (hk : k < fr) (hi : i < 32) : fb_lc s k = 3 * i + 2 ↔ (s 38 k = 3 ∧ fb_loc s k = nI i) := by
  have e38 := (hK k hk).2.2.1
  obtain ⟨p, hp, ep⟩ := cp_pr ok k
  unfold fb_lc
  by_cases c1 : s 38 k = 1
  · rw [if_pos c1]
    obtain ⟨i0, hi0, e0⟩ := cp_loc ok hfl hR hK hk (by rw [← e38, c1]; decide)
    rw [ep, fb_nI (by omega)]
    refine ⟨fun h => by omega, fun h => ?_⟩
    rw [c1] at h
    exact absurd h.1 (by decide)
  · rw [if_neg c1]
    by_cases c2 : s 38 k = 2
    · rw [if_pos c2]
      refine ⟨fun h => by omega, fun h => ?_⟩
      rw [c2] at h
      exact absurd h.1 (by decide)
    · rw [if_neg c2]
      by_cases c3 : s 38 k = 3
      · rw [if_pos c3]
        obtain ⟨i0, hi0, e0⟩ := cp_loc ok hfl hR hK hk (by rw [← e38, c3]; decide)
        rw [e0, fb_nI (by omega), nI_eq (by omega) (by omega)]
        exact ⟨fun h => ⟨c3, by omega⟩, fun h => by omega⟩
      · rw [if_neg c3]
        exact ⟨fun h => by omega, fun h => absurd h.1 c3⟩
theorem lc_t (ok : fb_okC fl fr s) (hfl : fl ≤ 12) (hR : cp_R fl s m) (hK : cp_K fr s m) {k i : Nat} (hk : k < fr) (hi : i < 32) : fb_lc s k = 96 + i ↔ (s 38 k = 2 ∧ fb_loc s k = nI i) := by
  have e38 := (hK k hk).2.2.1
  obtain ⟨p, hp, ep⟩ := cp_pr ok k
  unfold fb_lc
  by_cases c1 : s 38 k = 1
  · rw [if_pos c1]
    obtain ⟨i0, hi0, e0⟩ := cp_loc ok hfl hR hK hk (by rw [← e38, c1]; decide)
    rw [ep, e0, fb_nI (by omega), fb_nI (by omega)]
    refine ⟨fun h => by omega, fun h => ?_⟩
    rw [c1] at h
    exact absurd h.1 (by decide)
  · rw [if_neg c1]
    by_cases c2 : s 38 k = 2
    · rw [if_pos c2]
      obtain ⟨i0, hi0, e0⟩ := cp_loc ok hfl hR hK hk (by rw [← e38, c2]; decide)
      rw [e0, fb_nI (by omega), nI_eq (by omega) (by omega)]
      exact ⟨fun h => ⟨c2, by omega⟩, fun h => by omega⟩
    · rw [if_neg c2]
      by_cases c3 : s 38 k = 3
      · rw [if_pos c3]
        obtain ⟨i0, hi0, e0⟩ := cp_loc ok hfl hR hK hk (by rw [← e38, c3]; decide)
        rw [e0, fb_nI (by omega)]
        refine ⟨fun h => by omega, fun h => ?_⟩
        rw [c3] at h
        exact absurd h.1 (by decide)
      · rw [if_neg c3]
        exact ⟨fun h => by omega, fun h => absurd h.1 c2⟩
/-- nothing held any more, or not yet -/
theorem hb_no {k : Nat} (h : s 38 k = 3 ∨ s 38 k = 4 ∨ s 38 k = 5) : fb_hb s k = 200 := by
  unfold fb_hb
  have h1 : ¬ s 38 k = 1 := fun e => by rw [e] at h; exact absurd h (by decide)
  have h2 : ¬ s 38 k = 2 := fun e => by rw [e] at h; exact absurd h (by decide)
  rw [if_neg h1, if_neg h2]
  split <;> rfl
theorem lc_no {k : Nat} (h : s 38 k = 4 ∨ s 38 k = 5) : fb_lc s k = 200 := by
  unfold fb_lc
  have h1 : ¬ s 38 k = 1 := fun e => by rw [e] at h; exact absurd h (by decide)
  have h2 : ¬ s 38 k = 2 := fun e => by rw [e] at h; exact absurd h (by decide)
  have h3 : ¬ s 38 k = 3 := fun e => by rw [e] at h; exact absurd h (by decide)
  rw [if_neg h1, if_neg h2, if_neg h3]
end CODES
