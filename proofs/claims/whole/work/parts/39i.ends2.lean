/-! a tick's first phase: both sides' loops -/
theorem ask_step {a0 a a' X h h' : Int32} {P : Prop} (i2 : ¬ (P ∧ ¬ X < h) → a = a0) (hle : h' ≤ h) (e : a' = if X < h' then a else 0) : (¬ X < h' → a' = 0) ∧ (X < h' → a' = a0) := by
  refine ⟨fun c => by rw [e, if_neg c], fun c => ?_⟩
  rw [e, if_pos c]
  refine i2 (fun q => q.2 ?_)
  have a := Int32.lt_iff_toInt_lt.mp c
  have b := Int32.le_iff_toInt_le.mp hle
  exact Int32.lt_iff_toInt_lt.mpr (by omega)
def es_E (T : Nat) (m : fb_S) (k : Nat) : Prop := m 18 k = 2 ∧ m 21 k = nI T
def es_P (T n : Nat) (s m : fb_S) (k : Nat) : Prop := es_E T m k ∧ ∃ i, i < n ∧ fb_loc s k = nI i
def es_I (fl fr T z n : Nat) (s m x : fb_S) : Prop := ∃ M, MID fl fr T 0 0 0 z x M ∧ (∀ F, (F ≠ 18 ∧ F ≠ 26) → ∀ j, M F j = m F j) ∧ (∀ k, (k < fr ∧ es_P T n s m k → M 18 k = 3) ∧ (¬ (k < fr ∧ es_P T n s m k) → M 18 k = m 18 k)) ∧ (∀ F, (F ≠ 13 ∧ F ≠ 38 ∧ F ≠ 43 ∧ F ≠ 44 ∧ F ≠ 19 ∧ F ≠ 20 ∧ F ≠ 21 ∧ F ≠ 18 ∧ F ≠ 14) → ∀ j, x F j = s F j) ∧ ∀ c, c < 32 → (((∃ k, k < fr ∧ es_P T n s m k ∧ fb_hb s k = 2 * c) ∧ ¬ s 1 0 / 2 < x 18 (2 * c)) → x 14 c = 0) ∧ (¬ ((∃ k, k < fr ∧ es_P T n s m k ∧ fb_hb s k = 2 * c) ∧ ¬ s 1 0 / 2 < x 18 (2 * c)) → x 14 c = s 14 c)
theorem es_I_step {fl fr T z n : Nat} {s m x : fb_S} (h : MID fl fr T 0 0 0 z s m) (h3 : ∀ k, k < fr → m 18 k = 3 → ¬ m 21 k = nI T) (hn : n < 32) (hI : es_I fl fr T z n s m x) : es_I fl fr T z (n + 1) s m (cf_endSending n x) := by
  obtain ⟨M, hM, m1, m2, x1, x2⟩ := hI
  have hM0 := hM
  have sK : cp_K fr s m := by
    obtain ⟨-, -, -, -, -, -, -, -, -, -, Q, -, -, -, -, hK, -⟩ := h
    exact hK
  obtain ⟨ok, okm, hfl, hfr, hT1, hTb, hpa, hW, hSm, -, Q, hG, hP, hF, hR, hK, hC, hO, hN, hE0, hcr, hZ, hJ1, hJ2⟩ := hM
  have hm4 : M 4 0 = nI T := okm 4 0 rfl
  have hs6 : x 6 0 = nI T := hG.2.2.2.2.1.trans hm4
  have eloc : ∀ k, fb_loc x k = fb_loc s k := fun k => loc_c (x1 33 (by omega)) (x1 36 (by omega) k) (x1 41 (by omega) k)
  have hnP : ∀ k, fb_loc s k = nI n → ¬ es_P T n s m k := fun k e q => by
    obtain ⟨-, i, hi, e2⟩ := q
    have := (nI_eq (by omega) (by omega)).mp (e.symm.trans e2)
    omega
  have hE : ∀ k, k < fr → es_E T m k → fb_loc s k = nI n → x 13 n = nI k ∧ x 43 k = x 6 0 := fun k hk he hl => by
    have a : M 18 k = m 18 k := (m2 k).2 (fun q => hnP k hl q.2)
    have a2 : M 18 k = 2 := a.trans he.1
    have b : x 38 k = 2 := (hK k hk).2.2.1.trans a2
    have c := (lc_t ok hfl hR hK hk hn).mpr ⟨b, (eloc k).trans hl⟩
    refine ⟨(hC.2.2.1 n hn k hk).mpr c, ?_⟩
    obtain ⟨hh, w1, w2, w3, w4, w5, w6, w7⟩ := (hK k hk).2.2.2.2.2.2.2 (by rw [a2]; decide)
    rw [w6 a2, m1 21 (by omega), he.2, hs6]
  have stay : cf_endSending n x = x → (∀ k, k < fr → es_E T m k → ¬ fb_loc s k = nI n) → es_I fl fr T z (n + 1) s m (cf_endSending n x) := fun e hno => by
    have iff : ∀ k, k < fr → (es_P T (n + 1) s m k ↔ es_P T n s m k) := fun k hk => by
      constructor
      · rintro ⟨he, i, hi, e2⟩
        by_cases c : i = n
        · subst c
          exact absurd e2 (hno k hk he)
        · exact ⟨he, i, by omega, e2⟩
      · rintro ⟨he, i, hi, e2⟩
        exact ⟨he, i, by omega, e2⟩
    rw [e]
    refine ⟨M, hM0, m1, fun k => ⟨fun q => (m2 k).1 ⟨q.1, (iff k q.1).mp q.2⟩, fun q => (m2 k).2 (fun q2 => q ⟨q2.1, (iff k q2.1).mpr q2.2⟩)⟩, x1, fun c hc => ?_⟩
    have ex : (∃ k, k < fr ∧ es_P T (n + 1) s m k ∧ fb_hb s k = 2 * c) ↔ (∃ k, k < fr ∧ es_P T n s m k ∧ fb_hb s k = 2 * c) := ⟨fun ⟨k, a, b, d⟩ => ⟨k, a, (iff k a).mp b, d⟩, fun ⟨k, a, b, d⟩ => ⟨k, a, (iff k a).mpr b, d⟩⟩
    rw [ex]
    exact x2 c hc
  by_cases c13 : x 13 n < 0
  · refine stay (by unfold cf_endSending; rw [if_pos c13]) (fun k hk he hl => ?_)
    rw [(hE k hk he hl).1] at c13
    exact nI_pos (by omega) c13
  · obtain ⟨k, hk, ek⟩ : ∃ k, k < fr ∧ x 13 n = nI k := by
      rcases ok 13 n with e | e
      · rw [e] at c13
        exact absurd fb_m1 c13
      · exact vp_in_of e (by omega)
    by_cases c43 : x 43 k = x 6 0
    · have hw : ∀ a, a < fr → M 18 a = 3 → fb_loc x a = nI n → x 43 a < x 6 0 + x 0 0 := fun a ha a3 al => by
        have hnp : ¬ (a < fr ∧ es_P T n s m a) := fun q => hnP a ((eloc a).symm.trans al) q.2
        have b3 : m 18 a = 3 := ((m2 a).2 hnp).symm.trans a3
        obtain ⟨w, e1, e2, e3⟩ := (hW a ha).2.1 a3
        have hne : w ≠ T := fun e => h3 a ha b3 (by rw [← m1 21 (by omega), e1, e])
        obtain ⟨hh, w1, w2, w3, w4, w5, w6, w7⟩ := (hK a ha).2.2.2.2.2.2.2 (by rw [a3]; decide)
        obtain ⟨d, hd, hd0⟩ := dl_of ok
        rw [w7 a3, e1, ← hG.1, hd0, hs6, nI_add, nI_add]
        exact nI_lt (by omega) (by omega)
      obtain ⟨e18, e21, el, es, hM'⟩ := es_mid hM0 hn hk ek c43 hw
      have els : fb_loc s k = nI n := (eloc k).symm.trans el
      have mk : M 18 k = m 18 k := (m2 k).2 (fun q => hnP k els q.2)
      have kE : es_E T m k := ⟨mk.symm.trans e18, (m1 21 (by omega) k).symm.trans e21⟩
      have x38 : x 38 k = s 38 k := ((hK k hk).2.2.1.trans mk).trans (sK k hk).2.2.1.symm
      have hbk : fb_hb x k = fb_hb s k := hb_c x38 (x1 42 (by omega) k) (prk_c (x1 22 (by omega)) (x1 36 (by omega) k))
      obtain ⟨a0, a13, a38, a43, a19, a20, a44, a21, a18, a14⟩ := es
      have m26 : ∀ F j, F ≠ 26 → es_m k (cf_endSending n x) M F j = fb_up M 18 k 3 F j := fun F j h => if_neg h
      generalize cf_endSending n x = x' at *
      have iff : ∀ a, a < fr → (es_P T (n + 1) s m a ↔ (es_P T n s m a ∨ a = k)) := fun a ha => by
        constructor
        · rintro ⟨he, i, hi, e2⟩
          by_cases c : i = n
          · subst c
            right
            exact (nI_eq (by omega) (by omega)).mp ((hE a ha he e2).1.symm.trans ek)
          · exact Or.inl ⟨he, i, by omega, e2⟩
        · rintro (⟨he, i, hi, e2⟩ | rfl)
          · exact ⟨he, i, by omega, e2⟩
          · exact ⟨kE, n, by omega, els⟩
      refine ⟨es_m k x' M, hM', fun F hF j => ?_, fun a => ⟨fun q => ?_, fun q => ?_⟩, fun F hF j => ?_, fun c hc => ?_⟩
      · rw [m26 F j hF.2, fb_up_F _ _ _ _ hF.1]
        exact m1 F hF j
      · rw [m26 18 a (by decide)]
        by_cases e : a = k
        · rw [e, fb_up_same]
        · rw [fb_up_i _ _ _ _ e]
          exact (m2 a).1 ⟨q.1, ((iff a q.1).mp q.2).resolve_right e⟩
      · have e : a ≠ k := fun e => q ⟨e ▸ hk, (iff a (e ▸ hk)).mpr (Or.inr e)⟩
        rw [m26 18 a (by decide), fb_up_i _ _ _ _ e]
        exact (m2 a).2 (fun q2 => q ⟨q2.1, (iff a q2.1).mpr (Or.inl q2.2)⟩)
      · rw [a0 F j (by omega) (by omega) (by omega) (by omega) (by omega) (by omega) (by omega) (by omega) (by omega)]
        exact x1 F hF j
      · have q14 := a14 c hc
        have q18 := a18 (2 * c) (by omega)
        rw [hbk] at q14 q18
        by_cases e : fb_hb s k = 2 * c
        · rw [if_pos e] at q14 q18
          have hle : x' 18 (2 * c) ≤ x 18 (2 * c) := by
            have ln := fb_lnI ok hk
            have mv := ci_sum_mv (c := fb_hb x) (l := fb_ln x) (k := k) (b := 200) (j := 2 * c) (n := fr) hk
            rw [if_pos (hbk.trans e), if_neg (by omega)] at mv
            have bd : ci_sum (fb_hb x) (fb_ln x) (2 * c) fr ≤ 4 * fr := ci_sum_le (fun j hj => (fb_lnI ok hj).2.2)
            rw [q18, hC.2.2.2 (2 * c) (by omega), ln.1, fb_sub (by omega)]
            exact nI_le (by omega) (by omega)
          rw [x1 1 (by omega)] at q14
          obtain ⟨p1, p2⟩ := ask_step (x2 c hc).2 hle q14
          refine ⟨fun q => p1 q.2, fun q => p2 ?_⟩
          by_cases y : s 1 0 / 2 < x' 18 (2 * c)
          · exact y
          · exact absurd ⟨⟨k, hk, (iff k hk).mpr (Or.inr rfl), e⟩, y⟩ q
        · rw [if_neg e] at q14 q18
          have ex : (∃ a, a < fr ∧ es_P T (n + 1) s m a ∧ fb_hb s a = 2 * c) ↔ (∃ a, a < fr ∧ es_P T n s m a ∧ fb_hb s a = 2 * c) := by
            constructor
            · rintro ⟨a, ha, b, d⟩
              rcases (iff a ha).mp b with b | b
              · exact ⟨a, ha, b, d⟩
              · subst b
                exact absurd d e
            · rintro ⟨a, ha, b, d⟩
              exact ⟨a, ha, (iff a ha).mpr (Or.inl b), d⟩
          rw [ex, q14, q18]
          exact x2 c hc
    · refine stay ?_ (fun k' hk' he hl => ?_)
      · unfold cf_endSending
        rw [if_neg c13, ek, fb_nI (by omega), if_neg c43]
      · obtain ⟨y1, y2⟩ := hE k' hk' he hl
        have : k' = k := (nI_eq (by omega) (by omega)).mp (y1.symm.trans ek)
        subst this
        exact c43 y2
theorem fb_sum_mono {g h : Nat → Nat} {n : Nat} (e : ∀ k, k < n → g k ≤ h k) : fb_sum g n ≤ fb_sum h n := by
  induction n with
  | zero => exact Nat.le_refl _
  | succ n ih =>
    simp only [fb_sum]
    have := ih (fun k hk => e k (by omega))
    have := e n (by omega)
    omega
/-- the reference's loop -/
def es_J (fr T n : Nat) (s m R : fb_S) : Prop := (∀ F, (F ≠ 18 ∧ F ≠ 26) → ∀ j, R F j = m F j) ∧ (∀ k, (k < n ∧ es_E T m k → R 18 k = 3) ∧ (¬ (k < n ∧ es_E T m k) → R 18 k = m 18 k)) ∧ (∀ j, R 26 j = 0 ∨ R 26 j = 1) ∧ ∀ c, c < 32 → (((∃ k, k < n ∧ es_E T m k ∧ fb_hb s k = 2 * c) ∧ ¬ s 1 0 / 2 < nI (cp_h s R c 0 fr)) → R 26 (fb_g c) = 0) ∧ (¬ ((∃ k, k < n ∧ es_E T m k ∧ fb_hb s k = 2 * c) ∧ ¬ s 1 0 / 2 < nI (cp_h s R c 0 fr)) → R 26 (fb_g c) = m 26 (fb_g c))
theorem es_J_step {fl fr T z n : Nat} {s m R : fb_S} (h : MID fl fr T 0 0 0 z s m) (hn : n < fr) (hJ : es_J fr T n s m R) : es_J fr T (n + 1) s m (mf_endOne fr n R) := by
  obtain ⟨ok, okm, hfl, hfr, hT1, hTb, hpa, hW, hSm, -, Q, hG, hP, hF, hR, hK, hC, hO, hN, hE0, hcr, hZ, hJ1, hJ2⟩ := h
  obtain ⟨r1, r2, r3, r4⟩ := hJ
  have hm4 : m 4 0 = nI T := okm 4 0 rfl
  have rn : R 18 n = m 18 n := (r2 n).2 (fun q => by omega)
  by_cases hE : es_E T m n
  · have fin : ∀ R' : fb_S, (∀ F, (F ≠ 18 ∧ F ≠ 26) → ∀ j, R' F j = R F j) → (∀ j, R' 18 j = if j = n then 3 else R 18 j) → (∀ j, R' 26 j = 0 ∨ R' 26 j = 1) → (∀ c, c < 32 → ¬ fb_hb s n = 2 * c → R' 26 (fb_g c) = R 26 (fb_g c)) → (∀ c, c < 32 → fb_hb s n = 2 * c → R' 26 (fb_g c) = if s 1 0 / 2 < nI (cp_h s R' c 0 fr) then R 26 (fb_g c) else 0) → es_J fr T (n + 1) s m R' := fun R' f1 f2 f3 f4 f5 => by
      have hH : ∀ c, c < 32 → cp_h s R' c 0 fr ≤ cp_h s R c 0 fr ∧ (¬ fb_hb s n = 2 * c → cp_h s R' c 0 fr = cp_h s R c 0 fr) := fun c hc => by
        refine ⟨fb_sum_mono (fun k hk => ?_), fun e => fb_sum_congr (fun k hk => ?_)⟩
        · by_cases en : k = n
          · rw [f2 k, if_pos en, if_neg (fun q => absurd q.1 (by decide))]
            exact Nat.zero_le _
          · rw [f2 k, if_neg en]
            exact Nat.le_refl _
        · by_cases en : k = n
          · subst en
            rw [f2 k, if_pos rfl, if_neg (fun q => absurd q.1 (by decide)), if_neg]
            rintro ⟨q1, q2, q3⟩
            rw [rn] at q1
            exact e ((hb_q ok hK hk hc (q := 0) (by omega)).mpr ⟨q1, q2, q3⟩)
          · rw [f2 k, if_neg en]
      refine ⟨fun F hF j => (f1 F hF j).trans (r1 F hF j), fun k => ⟨fun q => ?_, fun q => ?_⟩, f3, fun c hc => ?_⟩
      · rw [f2 k]
        by_cases en : k = n
        · rw [if_pos en]
        · rw [if_neg en]
          exact (r2 k).1 ⟨by omega, q.2⟩
      · have en : k ≠ n := fun e => q ⟨by omega, e ▸ hE⟩
        rw [f2 k, if_neg en]
        exact (r2 k).2 (fun q2 => q ⟨by omega, q2.2⟩)
      · by_cases e : fb_hb s n = 2 * c
        · have bd : cp_h s R c 0 fr ≤ 4 * fr := fb_sum_le (fun k hk => by
            split
            · exact (fb_lnI ok hk).2.2
            · omega)
          have hle : nI (cp_h s R' c 0 fr) ≤ nI (cp_h s R c 0 fr) := nI_le (hH c hc).1 (by omega)
          obtain ⟨p1, p2⟩ := ask_step (r4 c hc).2 hle (f5 c hc e)
          refine ⟨fun q => p1 q.2, fun q => p2 ?_⟩
          by_cases y : s 1 0 / 2 < nI (cp_h s R' c 0 fr)
          · exact y
          · exact absurd ⟨⟨n, by omega, hE, e⟩, y⟩ q
        · have ex : (∃ k, k < n + 1 ∧ es_E T m k ∧ fb_hb s k = 2 * c) ↔ (∃ k, k < n ∧ es_E T m k ∧ fb_hb s k = 2 * c) := by
            constructor
            · rintro ⟨a, ha, b, d⟩
              refine ⟨a, ?_, b, d⟩
              by_cases en : a = n
              · subst en
                exact absurd d e
              · omega
            · rintro ⟨a, ha, b, d⟩
              exact ⟨a, by omega, b, d⟩
          rw [ex, f4 c hc e, (hH c hc).2 e]
          exact r4 c hc
    have hst : ∀ R' : fb_S, (∀ j, R' 18 j = if j = n then 3 else R 18 j) → ∀ k, k < fr → (R' 18 k = 1 ∨ R' 18 k = 2) → (m 18 k = 1 ∨ m 18 k = 2) := fun R' f2 k hk q => by
      rw [f2 k] at q
      by_cases en : k = n
      · rw [if_pos en] at q
        exact absurd q (by decide)
      · rw [if_neg en] at q
        by_cases c : k < n ∧ es_E T m k
        · rw [(r2 k).1 c] at q
          exact absurd q (by decide)
        · rw [(r2 k).2 c] at q
          exact q
    obtain ⟨hh, w1, w2, w3, w4, w5, w6, w7⟩ := (hK n hn).2.2.2.2.2.2.2 (by rw [hE.1]; decide)
    have g18 : ∀ j, fb_up R 18 n 3 18 j = if j = n then 3 else R 18 j := fun j => by
      by_cases e : j = n
      · rw [e, fb_up_same, if_pos rfl]
      · rw [fb_up_i _ _ _ _ e, if_neg e]
    have gF : ∀ F, F ≠ 18 → ∀ j, fb_up R 18 n 3 F j = R F j := fun F hF j => fb_up_F _ _ _ _ hF
    have gm : ∀ F, (F ≠ 18 ∧ F ≠ 26) → ∀ j, fb_up R 18 n 3 F j = m F j := fun F hF j => (gF F hF.1 j).trans (r1 F hF j)
    have e0 : mf_endOne fr n R = (let m1 := fb_up R 18 n 3; if m1 19 n ≤ 0 then m1 else if m1 9 (fb_n (m1 16 n)) = 0 then fb_up m1 26 (fb_n (14 * mf_node m1 (m1 16 n) (m1 19 n - 1) + mf_node m1 (m1 16 n) (m1 19 n))) (if m1 26 (fb_n (14 * mf_node m1 (m1 16 n) (m1 19 n - 1) + mf_node m1 (m1 16 n) (m1 19 n))) = 0 then 0 else if mf_holds m1 (mf_node m1 (m1 16 n) (m1 19 n - 1)) (mf_node m1 (m1 16 n) (m1 19 n)) 0 fr ≤ m1 1 0 / 2 then 0 else 1) else m1) := by
      simp only [mf_endOne]
      rw [if_pos (rn.trans hE.1), if_pos (by rw [r1 21 (by omega), r1 4 (by omega), hE.2, hm4])]
    rw [e0]
    generalize fb_up R 18 n 3 = R1 at *
    have hn0 : ∀ f i, mf_node R1 f i = mf_node m f i := node_c (gm 7 (by omega)) (gm 8 (by omega))
    show es_J fr T (n + 1) s m (if R1 19 n ≤ 0 then R1 else if R1 9 (fb_n (R1 16 n)) = 0 then fb_up R1 26 (fb_n (14 * mf_node R1 (R1 16 n) (R1 19 n - 1) + mf_node R1 (R1 16 n) (R1 19 n))) (if R1 26 (fb_n (14 * mf_node R1 (R1 16 n) (R1 19 n - 1) + mf_node R1 (R1 16 n) (R1 19 n))) = 0 then 0 else if mf_holds R1 (mf_node R1 (R1 16 n) (R1 19 n - 1)) (mf_node R1 (R1 16 n) (R1 19 n)) 0 fr ≤ R1 1 0 / 2 then 0 else 1) else R1)
    simp only [hn0, gm 19 (by omega), gm 9 (by omega), gm 16 (by omega), gm 1 (by omega)]
    have plain : (∀ c, c < 32 → ¬ fb_hb s n = 2 * c) → es_J fr T (n + 1) s m R1 := fun hno => fin R1 (fun F hF j => gF F hF.1 j) g18 (fun j => by rw [gF 26 (by decide)]; exact r3 j) (fun c _ _ => gF 26 (by decide) _) (fun c hc e => absurd e (hno c hc))
    have w5 := w5 (by rw [hE.1]; decide)
    have k38 : s 38 n = 2 := (hK n hn).2.2.1.trans hE.1
    by_cases ch : hh = 0
    · rw [if_pos ch] at w5
      rw [if_pos (show m 19 n ≤ 0 by rw [w2, ch]; decide)]
      refine plain (fun c hc e => ?_)
      have : fb_hb s n = 200 := by
        unfold fb_hb
        rw [w5, if_pos fb_m1]
      omega
    · rw [if_neg ch] at w5
      obtain ⟨c0, hc0, ec0⟩ : ∃ c0, c0 < 32 ∧ s 42 n = nI c0 := by
        have q42 : fb_rg 32 (s 42 n) := ok 42 n
        rcases q42 with e | e
        · exfalso
          obtain ⟨f, hf, ef, enf⟩ := cp_flow ok hfl hn
          rw [enf] at w4 w5
          have hltg : nI (hh - 1) < s 34 f := by
            have a := Int32.lt_iff_toInt_lt.mp w4
            refine Int32.lt_iff_toInt_lt.mpr ?_
            rw [nI_toInt (by omega)] at a ⊢
            omega
          obtain ⟨j, hj, e1, -⟩ := (hR f hf).2 (hh - 1) (by omega) hltg
          rw [e, e1] at w5
          exact absurd (w5 ▸ fb_m1) (nI_pos (by omega))
        · exact vp_in_of e (by decide)
      obtain ⟨d1, d2, d3⟩ := (cp_came ok hfl hR hK hn hc0 (Or.inr hE.1)).mpr ec0
      obtain ⟨p, hp, ep⟩ := cp_pr ok n
      have hb : fb_hb s n = 2 * c0 + p := by
        unfold fb_hb
        rw [ec0, if_neg (nI_pos (by omega)), k38, if_neg (by decide), if_pos rfl, ep, fb_nI (by omega), fb_nI (by omega)]
      obtain ⟨f, hf, ef, enf⟩ := cp_flow ok hfl hn
      have e9 : m 9 (fb_n (m 16 n)) = nI p := by
        rw [← ep]
        unfold fb_prk
        rw [← (hK n hn).1, enf]
        exact (hF f hf).1.symm
      rw [if_neg d1, d2, d3, e9, tb_gi c0 hc0]
      by_cases cp : p = 0
      · subst cp
        rw [if_pos nI_0]
        have hh2 : mf_holds R1 (fb_tF c0) (fb_tT c0) 0 fr = nI (cp_h s R1 c0 0 fr) := cp_holds ok hfl hF hR hK (m' := R1) (fun F j a b => gm F ⟨a, b⟩ j) (hst R1 g18) 0 hc0 fr (Nat.le_refl _)
        rw [hh2, gF 26 (by decide), ← hG.2.1]
        have e18 : ∀ (w : Int32) (j : Nat), fb_up R1 26 (fb_g c0) w 18 j = R1 18 j := fun w j => fb_up_F _ _ _ _ (by decide)
        refine fin _ (fun F hF j => (fb_up_F _ _ _ _ hF.2).trans (gF F hF.1 j)) (fun j => (e18 _ j).trans (g18 j)) (fun j => ?_) (fun c hc e => ?_) (fun c hc e => ?_)
        · by_cases ej : j = fb_g c0
          · rw [ej, fb_up_same]
            split
            · exact Or.inl rfl
            · split
              · exact Or.inl rfl
              · exact Or.inr rfl
          · rw [fb_up_i _ _ _ _ ej, gF 26 (by decide)]
            exact r3 j
        · have ne : fb_g c ≠ fb_g c0 := fun q => e (by rw [hb, tb_g c hc c0 hc0 q]; rfl)
          rw [fb_up_i _ _ _ _ ne, gF 26 (by decide)]
        · have ec : c = c0 := by omega
          subst ec
          rw [fb_up_same]
          have eh : ∀ w : Int32, cp_h s (fb_up R1 26 (fb_g c) w) c 0 fr = cp_h s R1 c 0 fr := fun w => fb_sum_congr (fun k _ => by rw [e18 w k])
          rw [eh]
          rcases r3 (fb_g c) with q | q
          · rw [q, if_pos rfl]
            split <;> rfl
          · rw [q, if_neg (by decide)]
            by_cases y : nI (cp_h s R1 c 0 fr) ≤ s 1 0 / 2
            · rw [if_pos y, if_neg (Int32.not_lt.mpr y)]
            · rw [if_neg y, if_pos (Int32.not_le.mp y)]
      · rw [if_neg (nI_ne0 (by omega) (by omega))]
        exact plain (fun c hc e => by omega)
  · have e : mf_endOne fr n R = R := by
      simp only [mf_endOne]
      by_cases c : R 18 n = 2
      · rw [if_pos c, if_neg]
        intro q
        rw [r1 21 (by omega), r1 4 (by omega), hm4] at q
        exact hE ⟨rn.symm.trans c, q⟩
      · rw [if_neg c]
    rw [e]
    have iff : ∀ k, (k < n + 1 ∧ es_E T m k) ↔ (k < n ∧ es_E T m k) := fun k => by
      constructor
      · rintro ⟨a, b⟩
        by_cases en : k = n
        · subst en
          exact absurd b hE
        · exact ⟨by omega, b⟩
      · rintro ⟨a, b⟩
        exact ⟨by omega, b⟩
    refine ⟨r1, fun k => by rw [iff k]; exact r2 k, r3, fun c hc => ?_⟩
    have ex : (∃ k, k < n + 1 ∧ es_E T m k ∧ fb_hb s k = 2 * c) ↔ (∃ k, k < n ∧ es_E T m k ∧ fb_hb s k = 2 * c) := ⟨fun ⟨k, a, b, d⟩ => ⟨k, ((iff k).mp ⟨a, b⟩).1, b, d⟩, fun ⟨k, a, b, d⟩ => ⟨k, by omega, b, d⟩⟩
    rw [ex]
    exact r4 c hc
theorem ph1 {fl fr T z : Nat} {s m : fb_S} (h : MID fl fr T 0 0 0 z s m) (h3 : ∀ k, k < fr → m 18 k = 3 → ¬ m 21 k = nI T) : MID fl fr T 1 0 0 z (fb_it cf_endSending 32 s) (fb_it (mf_endOne fr) fr m) := by
  have hI : es_I fl fr T z 32 s m (fb_it cf_endSending 32 s) := fb_it_inv (I := fun n x => es_I fl fr T z n s m x) ⟨m, h, fun _ _ _ => rfl, fun k => ⟨fun q => (by obtain ⟨-, -, i, hi, -⟩ := q; omega), fun _ => rfl⟩, fun _ _ _ => rfl, fun c hc => ⟨fun q => (by obtain ⟨⟨k, -, ⟨-, i, hi, -⟩, -⟩, -⟩ := q; omega), fun _ => rfl⟩⟩ (fun i x hi hx => es_I_step h h3 hi hx)
  have okm0 : ∀ j, m 26 j = 0 ∨ m 26 j = 1 := fun j => h.2.1 26 j
  have hJ : es_J fr T fr s m (fb_it (mf_endOne fr) fr m) := fb_it_inv (I := fun n x => es_J fr T n s m x) ⟨fun _ _ _ => rfl, fun k => ⟨fun q => by omega, fun _ => rfl⟩, okm0, fun c hc => ⟨fun q => (by obtain ⟨⟨k, hk, -⟩, -⟩ := q; omega), fun _ => rfl⟩⟩ (fun i x hi hx => es_J_step h hi hx)
  generalize fb_it cf_endSending 32 s = x at *
  generalize fb_it (mf_endOne fr) fr m = R at *
  obtain ⟨M, hM, m1, m2, x1, x2⟩ := hI
  obtain ⟨r1, r2, r3, r4⟩ := hJ
  obtain ⟨ok, okm, hfl, hfr, hT1, hTb, -, -, -, -, Q, hG, hP, hF, hR, hK, -⟩ := h
  have hM0 := hM
  obtain ⟨ok', okm', -, -, -, -, hpa', hW', hS', ⟨o, o1, o2⟩, Q', hG', hP', hF', hR', hK', hC', hO', hN', hE', hcr', hZ', hJ1', hJ2'⟩ := hM
  have eP : ∀ k, k < fr → (es_P T 32 s m k ↔ es_E T m k) := fun k hk => by
    refine ⟨fun q => q.1, fun q => ⟨q, ?_⟩⟩
    exact cp_loc ok hfl hR hK hk (by rw [q.1]; decide)
  have e18 : ∀ k, R 18 k = M 18 k := fun k => by
    by_cases c : k < fr ∧ es_E T m k
    · rw [(r2 k).1 c, (m2 k).1 ⟨c.1, (eP k c.1).mpr c.2⟩]
    · rw [(r2 k).2 c, (m2 k).2 (fun q => c ⟨q.1, (eP k q.1).mp q.2⟩)]
  have eF : ∀ F, F ≠ 26 → ∀ j, R F j = M F j := fun F hF j => by
    by_cases e : F = 18
    · subst e
      exact e18 j
    · rw [r1 F ⟨e, hF⟩, m1 F ⟨e, hF⟩]
  have e26 : ∀ c, c < 32 → R 26 (fb_g c) = M 26 (fb_g c) := fun c hc => by
    have ex : (∃ k, k < fr ∧ es_P T 32 s m k ∧ fb_hb s k = 2 * c) ↔ (∃ k, k < fr ∧ es_E T m k ∧ fb_hb s k = 2 * c) := ⟨fun ⟨k, a, b, d⟩ => ⟨k, a, (eP k a).mp b, d⟩, fun ⟨k, a, b, d⟩ => ⟨k, a, (eP k a).mpr b, d⟩⟩
    have eh : x 18 (2 * c) = nI (cp_h s R c 0 fr) := by
      rw [hC'.2.2.2 (2 * c) (by omega)]
      congr 1
      have := cp_h_sum ok' hK' hc (q := 0) (by omega)
      rw [Nat.add_zero] at this
      rw [← this]
      refine fb_sum_congr (fun k hk => ?_)
      rw [e18 k, x1 42 (by omega), ln_c (x1 37 (by omega) k), prk_c (x1 22 (by omega)) (x1 36 (by omega) k)]
      rfl
    have y2 := x2 c hc
    have y4 := r4 c hc
    rw [ex, eh] at y2
    rw [← (hP' c hc).2.2.2]
    by_cases q : (∃ k, k < fr ∧ es_E T m k ∧ fb_hb s k = 2 * c) ∧ ¬ s 1 0 / 2 < nI (cp_h s R c 0 fr)
    · rw [y4.1 q, y2.1 q]
    · rw [y4.2 q, y2.2 q, (hP c hc).2.2.2]
  have okR : fb_okM fl fr T R := fun F j => by
    by_cases e : F = 26
    · subst e
      exact r3 j
    · rw [eF F e j]
      exact okm' F j
  have fs : FS fr x M x R := ⟨fun _ _ _ => rfl, fun F hF j => eF F (by omega) j, fun _ _ _ _ => rfl, fun F hF j _ => eF F (by omega) j⟩
  refine fs_M (k := fr) (Q' := Q') hM0 fs (fun j _ => eF 22 (by decide) j) ok' okR ?_ ?_ ⟨o, by rw [eF 5 (by decide)]; exact o1, o2⟩ ?_ ?_ (fun f _ => eF 14 (by decide) f) ?_ hC' ?_ ?_ hcr' (fun q => absurd q (Nat.lt_irrefl _)) (fun q => absurd q (Nat.lt_irrefl _))
  · intro k hk
    rw [eF 21 (by decide)]
    obtain ⟨a, b, c⟩ := hW' k hk
    refine ⟨fun e => ?_, fun e => ?_, fun e => ?_⟩
    · rw [e18] at e
      obtain ⟨w, w1, w2, w3⟩ := a e
      refine ⟨w, w1, ?_, w3⟩
      by_cases ew : w = T
      · exfalso
        by_cases q : k < fr ∧ es_E T m k
        · have := (m2 k).1 ⟨q.1, (eP k q.1).mpr q.2⟩
          rw [e] at this
          exact absurd this (by decide)
        · refine q ⟨hk, ?_, ?_⟩
          · rw [← (m2 k).2 (fun q2 => q ⟨q2.1, (eP k q2.1).mp q2.2⟩)]
            exact e
          · rw [← m1 21 (by omega), w1, ew]
      · omega
    · rw [e18] at e
      exact b e
    · rw [e18] at e
      exact c e
  · intro f hf
    simp only [eF 16 (by decide), e18, eF 22 (by decide), eF 21 (by decide)]
    exact hS' f hf
  · intro c hc
    rw [eF 23 (by decide), eF 24 (by decide), eF 24 (by decide), e26 c hc]
    exact hP' c hc
  · intro f hf
    rw [eF 14 (by decide)]
    exact (hF' f hf).2.2.2.2.2
  · intro k hk
    have nd : ∀ f i, mf_node R f i = mf_node M f i := node_c (eF 7 (by decide)) (eF 8 (by decide))
    simp only [cp_way, eF 16 (by decide), eF 17 (by decide), e18, eF 22 (by decide), eF 19 (by decide), eF 21 (by decide), eF 0 (by decide), nd]
    exact hK' k hk
  · simp only [cp_O, eF 20 (by decide), eF 5 (by decide)]
    exact hO'
  · intro f hf
    rw [count_c (fun j _ => eF 16 (by decide) j) (fun j _ => e18 j), count_c (fun j _ => eF 16 (by decide) j) (fun j _ => e18 j), last_c (eF 6 (by decide) 0) (fun j _ => eF 16 (by decide) j) (fun j _ => e18 j) (fun j _ => eF 21 (by decide) j) (by omega)]
    exact hN' f hf
