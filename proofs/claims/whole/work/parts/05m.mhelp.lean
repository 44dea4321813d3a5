/-! small helps for the reference's walks -/
theorem fb_nlt {a b : Int32} (h : ¬ a < b) : b ≤ a := Int32.not_lt.mp h
theorem fb_mul (a b : Nat) : nI a * nI b = nI (a * b) := (Int32.ofNat_mul a b).symm
theorem fb_div {a b : Nat} (ha : a < 2 ^ 31) (hb : b < 2 ^ 31) : nI a / nI b = nI (a / b) := by
  refine Int32.toInt_inj.mp ?_
  have hne : nI a ≠ Int32.minValue := by
    intro h
    have h1 := congrArg Int32.toInt h
    rw [nI_toInt ha, Int32.toInt_minValue] at h1
    omega
  rw [Int32.toInt_div_of_ne_left _ _ hne, nI_toInt ha, nI_toInt hb, nI_toInt (Nat.lt_of_le_of_lt (Nat.div_le_self a b) ha)]
  exact (Int.ofNat_tdiv a b).symm
theorem fb_sub {a b : Nat} (h : b ≤ a) : nI a - nI b = nI (a - b) := by
  have h1 : nI a = nI (a - b) + nI b := by
    rw [nI_add]
    congr 1
    omega
  rw [h1]
  exact Int32.add_sub_cancel _ _
theorem fb_vof {x : Int32} {n : Nat} (h : vp_in x n) (hn : n < 2 ^ 31) : ∃ j : Nat, j < n ∧ x = nI j := vp_in_of h hn
theorem fb_in14 {u v : Int32} (hu : vp_in u 14) (hv : vp_in v 14) : vp_in (14 * u + v) 196 := by
  obtain ⟨a, ha, rfl⟩ := vp_in_of hu (by decide)
  obtain ⟨b, hb, rfl⟩ := vp_in_of hv (by decide)
  rw [show (14 : Int32) = nI 14 from by decide, fb_mul, nI_add]
  exact vp_in_nI (by omega) (by decide)
theorem fb_in28 {u v q : Int32} (hu : vp_in u 14) (hv : vp_in v 14) (hq : q = 0 ∨ q = 1) : vp_in (2 * (14 * u + v) + q) 392 := by
  obtain ⟨a, ha, rfl⟩ := vp_in_of hu (by decide)
  obtain ⟨b, hb, rfl⟩ := vp_in_of hv (by decide)
  obtain ⟨d, hd, rfl⟩ := vp_in_of (fb_v01 hq) (by decide)
  rw [show (14 : Int32) = nI 14 from by decide, fb_mul, nI_add, show (2 : Int32) = nI 2 from by decide, fb_mul, nI_add]
  exact vp_in_nI (by omega) (by decide)
theorem fb_in2 {q : Int32} (h0 : ¬ q < 0) (h1 : ¬ 1 < q) : vp_in q 2 := by
  obtain ⟨j, hj, rfl⟩ := nI_of h0
  have : ¬ 1 < j := fun h => h1 (nI_lt (a := 1) h hj)
  exact vp_in_nI (by omega) (by decide)
theorem fb_01 {q : Int32} (h0 : ¬ q < 0) (h1 : ¬ 1 < q) : q = 0 ∨ q = 1 := by
  obtain ⟨j, hj, rfl⟩ := nI_of h0
  have : ¬ 1 < j := fun h => h1 (nI_lt (a := 1) h hj)
  rcases (by omega : j = 0 ∨ j = 1) with rfl | rfl
  · exact Or.inl rfl
  · exact Or.inr rfl
theorem fb_not0 {q : Int32} (h : q = 0 ∨ q = 1) (h0 : ¬ q = 0) : q = 1 := h.resolve_left h0
theorem fb_inr {n N : Nat} {v : Int32} (h : fb_rg n v) (hv : ¬ v < 0) (hN : n ≤ N) : vp_in v N := by
  rcases h with rfl | h
  · exact absurd fb_m1 hv
  · exact fun q => q.elim hv (fun q => h (Or.inr (Nat.le_trans hN q)))
theorem fb_vle {n N : Nat} {v : Int32} (h : vp_in v n) (hN : n ≤ N) : vp_in v N := fun q => q.elim (fb_vp h) (fun q => h (Or.inr (Nat.le_trans hN q)))
theorem fb_eqin {z : Int32} {n N : Nat} (h : z = nI n) (hn : n < N) (hN : N < 2 ^ 31) : vp_in z N := h ▸ vp_in_nI hn hN
theorem fb_eqn {z : Int32} {n : Nat} (h : z = nI n) (hn : n < 2 ^ 31) : z.toNatClampNeg = n := h ▸ nI_clamp hn
theorem fb_lt12 {z : Int32} {n : Nat} (h : z = nI n) (hn : n ≤ 12) (hz : z < 12) : n < 12 := by
  rcases Nat.lt_or_ge n 12 with q | q
  · exact q
  · rw [h] at hz
    exact absurd hz (nI_nlt (a := n) (b := 12) q (by omega))
theorem fb_lt100 {z : Int32} {n : Nat} (h : z = nI n) (hn : n ≤ 100) (hz : z < 100) : n < 100 := by
  rcases Nat.lt_or_ge n 100 with q | q
  · exact q
  · rw [h] at hz
    exact absurd hz (nI_nlt (a := n) (b := 100) q (by omega))
theorem rg_first (m : fb_S) (u v q : Int32) (n : Nat) (hn : n < 2 ^ 31) : fb_rg n (mf_first m u v q n) := by
  induction n with
  | zero => exact Or.inl rfl
  | succ n ih =>
    have ih := ih (by omega)
    have up : ∀ z, fb_rg n z → fb_rg (n + 1) z := fun z h => h.imp id (fun h => fb_vle h (by omega))
    simp only [mf_first]
    repeat' split
    all_goals first | exact up _ ih | exact fb_rk (by omega) hn
theorem rg_last (m : fb_S) (f : Int32) (n : Nat) (hn : n < 2 ^ 31) : fb_rg n (mf_last m f n) := by
  induction n with
  | zero => exact Or.inl rfl
  | succ n ih =>
    have ih := ih (by omega)
    have up : ∀ z, fb_rg n z → fb_rg (n + 1) z := fun z h => h.imp id (fun h => fb_vle h (by omega))
    simp only [mf_last]
    repeat' split
    all_goals first | exact up _ ih | exact fb_rk (by omega) hn
theorem fb_last0 {m : fb_S} {f : Int32} (h : ¬ mf_isF m f = true) (n : Nat) : mf_last m f n = -1 := by
  induction n with
  | zero => rfl
  | succ n ih => simp only [mf_last, if_neg h]; exact ih
theorem fb_noport {fr : Nat} {u v : Int32} (h : ¬ mf_port u v = true) (a b : Nat) (s : fb_S) : fb_it (mf_arrK fr u v) a s = fb_it (mf_arrK fr u v) b s := by
  have key : ∀ n, fb_it (mf_arrK fr u v) n s = s := by
    intro n
    induction n with
    | zero => rfl
    | succ n ih =>
      show mf_arrK fr u v n (fb_it (mf_arrK fr u v) n s) = s
      rw [ih]
      exact if_neg h
  rw [key, key]
def fb_agree (s t : fb_S) : Prop := ∀ F j, F ≠ 23 → F ≠ 24 → s F j = t F j
theorem mf_end_congr {s t : fb_S} (h : fb_agree s t) (f : Int32) : mf_end s f = mf_end t f := by
  simp only [mf_end, h 7 _ (by decide) (by decide), h 8 _ (by decide) (by decide)]
theorem mf_node_congr {s t : fb_S} (h : fb_agree s t) (f i : Int32) : mf_node s f i = mf_node t f i := by
  simp only [mf_node, mf_end_congr h, h 7 _ (by decide) (by decide), h 8 _ (by decide) (by decide)]
theorem mf_here_congr {s t : fb_S} (h : fb_agree s t) (u v q : Int32) (k : Nat) : mf_here s u v q k = mf_here t u v q k := by
  have hb : mf_btw s k u v = mf_btw t k u v := by
    simp only [mf_btw, mf_node_congr h, h 18 _ (by decide) (by decide), h 16 _ (by decide) (by decide), h 19 _ (by decide) (by decide)]
  simp only [mf_here, hb, h 18 _ (by decide) (by decide), h 9 _ (by decide) (by decide), h 16 _ (by decide) (by decide)]
theorem mf_first_congr {s t : fb_S} (h : fb_agree s t) (u v q : Int32) (n : Nat) : mf_first s u v q n = mf_first t u v q n := by
  induction n with
  | zero => rfl
  | succ n ih => simp only [mf_first, mf_here_congr h, h 20 _ (by decide) (by decide), ih]
theorem mf_ready_first {m : fb_S} {fr : Nat} {u v q : Int32} (h : mf_ready m fr u v q = true) : ¬ mf_first m u v q fr < 0 := by
  intro hn
  simp only [mf_ready, if_pos hn] at h
  cases h
theorem fb_chin0 {S st : fb_S} {fr : Nat} {u v : Int32} {g : Nat} (ha : fb_agree S st) (hfr : fr < 2 ^ 31) (hq : S 23 g = 0) (hr : mf_ready st fr u v 0 = true) : vp_in (mf_first S u v (S 23 g) fr) fr := by
  rw [hq, mf_first_congr ha]
  exact fb_inr (rg_first st u v 0 fr hfr) (mf_ready_first hr) (Nat.le_refl _)
theorem fb_chin1 {S st : fb_S} {fr : Nat} {u v : Int32} {g : Nat} (ha : fb_agree S st) (hfr : fr < 2 ^ 31) (hq : S 23 g = 1) (hr : mf_ready st fr u v 1 = true) : vp_in (mf_first S u v (S 23 g) fr) fr := by
  rw [hq, mf_first_congr ha]
  exact fb_inr (rg_first st u v 1 fr hfr) (mf_ready_first hr) (Nat.le_refl _)
theorem fb_isK {fl fr T : Nat} {m : fb_S} {k : Int32} (h : fb_okM fl fr T m) (hfr : fr ≤ 100) (hk : mf_isK m k = true) : vp_in k 100 := by
  unfold mf_isK at hk
  by_cases h0 : k < 0
  · rw [if_pos h0] at hk; cases hk
  · by_cases h1 : m 15 0 ≤ k
    · rw [if_neg h0, if_pos h1] at hk; cases hk
    · exact fb_inI h0 h1 (h 15 0 rfl) hfr (by decide)
theorem fb_isFl {fl fr T : Nat} {m : fb_S} {f : Int32} (h : fb_okM fl fr T m) (hfl : fl ≤ 12) (hk : mf_isF m f = true) : vp_in f fl := by
  unfold mf_isF at hk
  by_cases h0 : f < 0
  · rw [if_pos h0] at hk; cases hk
  · by_cases h1 : m 6 0 ≤ f
    · rw [if_neg h0, if_pos h1] at hk; cases hk
    · exact fb_inI h0 h1 (h 6 0 rfl) (Nat.le_refl _) (by omega)
theorem fb_isF {fl fr T : Nat} {m : fb_S} {f : Int32} (h : fb_okM fl fr T m) (hfl : fl ≤ 12) (hk : mf_isF m f = true) : vp_in f 12 := fb_vle (fb_isFl h hfl hk) hfl
theorem fb_prt {u v : Int32} (h : mf_port u v = true) : vp_in u 14 ∧ vp_in v 14 := by
  unfold mf_port at h
  by_cases h0 : u < 0
  · rw [if_pos h0] at h; cases h
  · by_cases h1 : v < 0
    · rw [if_neg h0, if_pos h1] at h; cases h
    · by_cases h2 : 13 < u
      · rw [if_neg h0, if_neg h1, if_pos h2] at h; cases h
      · by_cases h3 : v ≤ 13
        · constructor
          · refine fb_inI (z := 14) (n := 14) h0 ?_ (by decide) (by decide) (by decide)
            intro q
            have e := Int32.le_iff_toInt_le.mp q
            have e2 := Int32.le_iff_toInt_le.mp (Int32.not_lt.mp h2)
            have a1 : (14 : Int32).toInt = 14 := by decide
            have a2 : (13 : Int32).toInt = 13 := by decide
            omega
          · refine fb_inI (z := 14) (n := 14) h1 ?_ (by decide) (by decide) (by decide)
            intro q
            have e := Int32.le_iff_toInt_le.mp q
            have e2 := Int32.le_iff_toInt_le.mp h3
            have a1 : (14 : Int32).toInt = 14 := by decide
            have a2 : (13 : Int32).toInt = 13 := by decide
            omega
        · rw [if_neg h0, if_neg h1, if_neg h2, if_neg h3] at h; cases h
theorem fb_7 {v : Int32} (h : 0 ≤ v ∧ v ≤ 7) : ∃ j : Nat, j ≤ 7 ∧ v = nI j := nI_of2 (M := 7) (n := 7) (by decide) (fb_pos0 h.1) h.2
theorem fb_onesT : ∀ j, j < 12 → ((12 + (mf_ones (nI j) - mf_ones (nI j) / 2 * 2) = nI 12) ∨ (12 + (mf_ones (nI j) - mf_ones (nI j) / 2 * 2) = nI 13)) := by decide +kernel
theorem fb_8T : ∀ j, j < 8 → 8 + nI j / 2 = nI (8 + j / 2) := by decide +kernel
theorem rg_node {fl fr T : Nat} {m : fb_S} (h : fb_okM fl fr T m) {f : Int32} (hf : vp_in f 12) (i : Int32) : vp_in (mf_node m f i) 14 := by
  obtain ⟨a, ha, ea⟩ := fb_7 (h 7 (fb_n f))
  obtain ⟨b, hb, eb⟩ := fb_7 (h 8 (fb_n f))
  obtain ⟨j, hj, ej⟩ := vp_in_of hf (by decide)
  unfold mf_node
  rw [ea, eb]
  repeat' split
  · exact vp_in_nI (by omega) (by decide)
  · exact vp_in_nI (by omega) (by decide)
  · subst ej
    rcases fb_onesT j hj with e | e
    · rw [e]; exact vp_in_nI (by omega) (by decide)
    · rw [e]; exact vp_in_nI (by omega) (by decide)
  · rw [fb_8T a (by omega)]; exact vp_in_nI (by omega) (by decide)
  · rw [fb_8T b (by omega)]; exact vp_in_nI (by omega) (by decide)
theorem fb_mod9 {t : Nat} (h : t < 2 ^ 31) : nI t - nI t / 9 * 9 = nI (t % 9) := by
  rw [show (9 : Int32) = nI 9 from by decide, fb_div h (by decide), fb_mul, fb_sub (by omega)]
  congr 1
  omega
theorem fb_mod14 {t : Nat} (h : t < 2 ^ 31) : nI t - nI t / 14 * 14 = nI (t % 14) := by
  rw [show (14 : Int32) = nI 14 from by decide, fb_div h (by decide), fb_mul, fb_sub (by omega)]
  congr 1
  omega
theorem fb_div14 {t : Nat} (h : t < 2 ^ 31) : nI t / 14 = nI (t / 14) := by
  rw [show (14 : Int32) = nI 14 from by decide, fb_div h (by decide)]
theorem fb_d14 {t : Nat} (h : t < 196) : vp_in (nI t / 14) 14 := by
  rw [fb_div14 (by omega)]
  exact vp_in_nI (by omega) (by decide)
theorem fb_r14 {t : Nat} (h : t < 196) : vp_in (nI t - nI t / 14 * 14) 14 := by
  rw [fb_mod14 (by omega)]
  exact vp_in_nI (by omega) (by decide)
theorem fb_rin {z : Int32} {T q : Nat} (hz : z = nI T) (hT : T < 2 ^ 31) (hq : q < 196) : vp_in ((z - z / 9 * 9) * 196 + nI q) 1764 := by
  rw [hz, fb_mod9 hT, show (196 : Int32) = nI 196 from by decide, fb_mul, nI_add]
  exact vp_in_nI (by omega) (by decide)
theorem fb_pin {fl fr T : Nat} {m : fb_S} {u v : Int32} (_hfr : fr ≤ 100) (hT : T ≤ 30000) (h : fb_okM fl fr T m) (hd : ¬ m 4 0 ≤ m 0 0) (hu : vp_in u 14) (hv : vp_in v 14) : vp_in (((m 4 0 - m 0 0) - (m 4 0 - m 0 0) / 9 * 9) * 196 + 14 * u + v) 1764 := by
  obtain ⟨a, ha, rfl⟩ := vp_in_of hu (by decide)
  obtain ⟨b, hb, rfl⟩ := vp_in_of hv (by decide)
  have h4 : m 4 0 = nI T := h 4 0 rfl
  obtain ⟨d, hd8, ed⟩ := nI_of2 (x := m 0 0) (M := 8) (n := 8) (by decide) (fb_pos1 (h 0 0).1) (h 0 0).2
  rw [h4, ed] at hd ⊢
  have hdT : d ≤ T := by
    rcases Nat.lt_or_ge d T with q | q
    · omega
    · exact absurd (nI_le q (by omega)) hd
  rw [fb_sub hdT, fb_mod9 (by omega), show (196 : Int32) = nI 196 from by decide, show (14 : Int32) = nI 14 from by decide, fb_mul, fb_mul, nI_add, nI_add]
  exact vp_in_nI (by omega) (by decide)
theorem fb_less64T : ∀ r, r < 65 → ∀ a, a < 65 → nI r - nI r * nI a / 128 ≤ 64 := by decide +kernel
theorem fb_less64 {r a : Int32} (hr : 1 ≤ r ∧ r ≤ 64) (ha : 0 ≤ a ∧ a ≤ 64) : r - r * a / 128 ≤ 64 := by
  obtain ⟨j, hj, rfl⟩ := fb_to64 (fb_pos1 hr.1) hr.2
  obtain ⟨b, hb, rfl⟩ := fb_to64 (fb_pos0 ha.1) ha.2
  exact fb_less64T j (by omega) b (by omega)
theorem fb_okM_T {fl fr T : Nat} {m : fb_S} (h : fb_okM fl fr T m) : fb_okM fl fr (T + 1) (fb_up m 4 0 (m 4 0 + 1)) := by
  have h4 : m 4 0 = nI T := h 4 0 rfl
  intro F j
  by_cases hF : F = 4
  · subst hF
    intro hj
    subst hj
    rw [fb_up_same, h4, nI_1]
  · rw [fb_up_F m 0 j _ hF]
    have h1 := h F j
    unfold fb_rM at h1 ⊢
    split <;> first | exact absurd rfl hF | exact trivial | exact h1
theorem fb_okM_fl {fl fr T : Nat} {m : fb_S} (h : fb_okM fl fr T m) (hfl : fl < 12) (h10 : m 10 fl = 64) (h11 : m 11 fl = 64) (h12 : m 12 fl = 64) : fb_okM (fl + 1) fr T (fb_up m 6 0 (m 6 0 + 1)) := by
  have h6 : m 6 0 = nI fl := h 6 0 rfl
  have a64 : (1 : Int32) ≤ 64 ∧ (64 : Int32) ≤ 64 := ⟨by decide, by decide⟩
  have b64 : (0 : Int32) ≤ 64 ∧ (64 : Int32) ≤ 64 := ⟨by decide, by decide⟩
  intro F j
  by_cases hF : F = 6
  · subst hF
    intro hj
    subst hj
    rw [fb_up_same, h6, nI_1]
  · rw [fb_up_F m 0 j _ hF]
    have h1 := h F j
    unfold fb_rM at h1 ⊢
    split
    all_goals first
      | exact absurd rfl hF
      | exact trivial
      | exact h1
      | (intro hj
         rcases Nat.lt_or_ge j fl with q | q
         · exact h1 q
         · have e : j = fl := by omega
           subst e
           first | (rw [h10]; exact a64) | (rw [h11]; exact a64) | (rw [h12]; exact b64))
      | exact ⟨h1.1, fun q => fb_vle (h1.2 q) (by omega)⟩
theorem fb_okM_fr {fl fr T : Nat} {m : fb_S} (h : fb_okM fl fr T m) (_hfr : fr < 100) (h16 : vp_in (m 16 fr) fl) (h17 : 1 ≤ m 17 fr ∧ m 17 fr ≤ 4) : fb_okM fl (fr + 1) T (fb_up m 15 0 (m 15 0 + 1)) := by
  have h15 : m 15 0 = nI fr := h 15 0 rfl
  intro F j
  by_cases hF : F = 15
  · subst hF
    intro hj
    subst hj
    rw [fb_up_same, h15, nI_1]
  · rw [fb_up_F m 0 j _ hF]
    have h1 := h F j
    unfold fb_rM at h1 ⊢
    split
    all_goals first
      | exact absurd rfl hF
      | exact trivial
      | exact h1
      | (intro hj
         rcases Nat.lt_or_ge j fr with q | q
         · exact h1 q
         · have e : j = fr := by omega
           subst e
           exact h17)
      | (refine ⟨h1.1, fun hj => ?_⟩
         rcases Nat.lt_or_ge j fr with q | q
         · exact h1.2 q
         · have e : j = fr := by omega
           subst e
           exact h16)
