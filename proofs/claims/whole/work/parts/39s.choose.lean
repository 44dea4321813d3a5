/-! choose: the steps of both sides end alike -/
section CHOOSE
variable {fl fr T z i : Nat}
theorem t_of {s : fb_S} (ok : fb_okC fl fr s) : ∃ t, t < 2 ∧ s 12 i = nI t := by
  rcases (show s 12 i = 0 ∨ s 12 i = 1 from ok 12 i) with e | e
  · exact ⟨0, by omega, e⟩
  · exact ⟨1, by omega, e⟩
theorem ch_loop {A0 A1 : Bool} (hi : i < 32) {q : Nat} (hq : q < 2) (hA : ch_A A0 A1 q = true) : ∀ B n n' S R, MID fl fr T 1 1 1 z S R → mf_ready R fr (fb_tF i) (fb_tT i) 0 = A0 → mf_ready R fr (fb_tF i) (fb_tT i) 1 = A1 → (∃ kq cq, kq < fr ∧ S 19 (3 * i + q) = nI kq ∧ S 17 (2 * i + q) = nI cq ∧ cq ≤ 11 ∧ (S 12 i = nI q → 2 * (fb_ln S kq - cq) ≤ B) ∧ (¬ S 12 i = nI q → 1 ≤ B ∧ 2 * (fb_ln S kq - cq) ≤ B + 1)) → B < n → B < n' → ∃ S1 R1 t k, MID fl fr T 1 1 1 z S1 R1 ∧ t < 2 ∧ S1 12 i = nI t ∧ k < fr ∧ S1 19 (3 * i + t) = nI k ∧ ¬ S1 17 (2 * i + t) < S1 37 k ∧ (∀ j, S1 13 j = S 13 j) ∧ (∀ j, R1 18 j = R 18 j) ∧ cf_steps i n S = cf_begin i k S1 ∧ mf_steps fr (fb_tF i) (fb_tT i) A0 A1 n' R = mf_last1 fr (fb_tF i) (fb_tT i) R1 := by
  intro B
  induction B using Nat.strongRecOn with
  | _ B ih =>
    intro n n' S R hM r0 r1 hmu hn hn'
    obtain ⟨n1, rfl⟩ : ∃ n1, n = n1 + 1 := ⟨n - 1, by omega⟩
    obtain ⟨n2, rfl⟩ : ∃ n2, n' = n2 + 1 := ⟨n' - 1, by omega⟩
    have hM0 := hM
    obtain ⟨ok, okm, hfl, hfr, hT1, hTb, hpa, hW, hSm, -, Q, hG, hP, hF, hR, hK, hC, hO, hN, hE, hcr, hZ, hJ1, hJ2⟩ := hM0
    obtain ⟨t, ht, h12⟩ := t_of (i := i) ok
    have h23 : R 23 (fb_g i) = nI t := (hP i hi).1.symm.trans h12
    have ec : ∀ p, p < 2 → S 17 (2 * i + p) = R 24 (2 * fb_g i + p) := fun p hp => by
      rcases (show p = 0 ∨ p = 1 by omega) with rfl | rfl
      · exact (hP i hi).2.1
      · exact (hP i hi).2.2.1
    have rA : ∀ p, p < 2 → mf_ready R fr (fb_tF i) (fb_tT i) (nI p) = ch_A A0 A1 p := fun p hp => by
      rcases (show p = 0 ∨ p = 1 by omega) with rfl | rfl
      · exact r0
      · exact r1
    have rT : ∀ p, p < 2 → ch_A A0 A1 p = true → ∃ k, k < fr ∧ S 19 (3 * i + p) = nI k ∧ cf_ready S i (nI p) = nI k := fun p hp ha => by
      rcases ready_eq hM hi hp with ⟨a, b⟩ | ⟨a, b⟩
      · exact b
      · rw [rA p hp, ha] at a
        cases a
    have rF : ∀ p, p < 2 → ¬ ch_A A0 A1 p = true → cf_ready S i (nI p) = -1 := fun p hp ha => by
      rcases ready_eq hM hi hp with ⟨a, b⟩ | ⟨a, b⟩
      · rw [rA p hp] at a
        exact absurd a ha
      · exact b
    have eC : mf_can R (fb_tF i) (fb_tT i) A0 A1 = ch_A A0 A1 t := by
      show (if R 23 (fb_n (14 * fb_tF i + fb_tT i)) = 0 then A0 else A1) = _
      rw [tb_gi i hi, h23, ch_can ht]
    obtain ⟨kq, cq, hkq, e19q, e17q, cq11, mu1, mu2⟩ := hmu
    obtain ⟨kr, hkr, e19r, erq⟩ := rT q hq hA
    have ekr : kr = kq := (nI_eq (by omega) (by omega)).mp (e19r.symm.trans e19q)
    subst ekr
    obtain ⟨lq1, lq2, lq3⟩ := fb_lnI ok hkr
    have next : cf_steps i (n1 + 1) S = cf_steps i n1 (cf_step i S) → mf_steps fr (fb_tF i) (fb_tT i) A0 A1 (n2 + 1) R = mf_steps fr (fb_tF i) (fb_tT i) A0 A1 n2 (mf_step (fb_tF i) (fb_tT i) A0 A1 R) → (∀ k, k < fr → cf_ready S i (nI t) = nI k → S 17 (2 * i + t) < S 37 k) → ∃ S1 R1 t k, MID fl fr T 1 1 1 z S1 R1 ∧ t < 2 ∧ S1 12 i = nI t ∧ k < fr ∧ S1 19 (3 * i + t) = nI k ∧ ¬ S1 17 (2 * i + t) < S1 37 k ∧ (∀ j, S1 13 j = S 13 j) ∧ (∀ j, R1 18 j = R 18 j) ∧ cf_steps i (n1 + 1) S = cf_begin i k S1 ∧ mf_steps fr (fb_tF i) (fb_tT i) A0 A1 (n2 + 1) R = mf_last1 fr (fb_tF i) (fb_tT i) R1 := fun hc hm hlt => by
      have hM' := mid_step hM hi ht h12 r0 r1 hlt
      obtain ⟨s0, s12, s17⟩ := cstep_f (i := i) (s := S) h12 ht
      obtain ⟨m0, m23, m24⟩ := mstep_f (A0 := A0) (A1 := A1) hi h23 ht
      rw [hc, hm]
      have eln : fb_ln (cf_step i S) kr = fb_ln S kr := ln_c (s0 37 (by decide) kr)
      have mu' : 1 ≤ B ∧ ∃ c', cf_step i S 17 (2 * i + q) = nI c' ∧ c' ≤ 11 ∧ (cf_step i S 12 i = nI q → 2 * (fb_ln S kr - c') ≤ B - 1) ∧ (¬ cf_step i S 12 i = nI q → 1 ≤ B - 1 ∧ 2 * (fb_ln S kr - c') ≤ B - 1 + 1) := by
        rw [s12, if_pos rfl, s17]
        by_cases etq : t = q
        · subst etq
          have lt := hlt kr hkr erq
          rw [e17q, lq1] at lt
          have lt := (nI_ltI (by omega) (by omega)).mp lt
          have := mu1 h12
          rw [if_pos rfl, erq, if_neg (nI_pos (by omega))]
          refine ⟨by omega, cq, e17q, cq11, fun e => ?_, fun _ => ⟨by omega, by omega⟩⟩
          have := (nI_eq (by omega) (by omega)).mp e
          omega
        · have eq1 : q = 1 - t := by omega
          have ne : ¬ S 12 i = nI q := fun e => by
            rw [h12] at e
            exact etq ((nI_eq (by omega) (by omega)).mp e)
          obtain ⟨b1, b2⟩ := mu2 ne
          obtain ⟨d, ed, d1, d8⟩ := qu_of ok (q := q) hq
          obtain ⟨c, ecc, -, c3⟩ := cr_of hcr (j := 2 * i + q) (by omega)
          have c3 := c3 (by rw [show (2 * i + q) / 2 = i by omega, show (2 * i + q) % 2 = q by omega]; exact ne)
          have : c = cq := (nI_eq (by omega) (by omega)).mp (ecc.symm.trans e17q)
          subst this
          rw [if_neg (show ¬ 2 * i + q = 2 * i + t by omega), ← eq1, if_pos rfl, erq, if_neg (nI_pos (by omega)), e17q, ed, nI_add]
          exact ⟨b1, c + d, rfl, by omega, fun _ => by omega, fun e => absurd rfl e⟩
      obtain ⟨hB, c', q1, q2, q3, q4⟩ := mu'
      obtain ⟨S1, R1, t1, k1, a1, a2, a3, a4, a5, a6, a7, a8, a9, a10⟩ := ih (B - 1) (by omega) n1 n2 (cf_step i S) (mf_step (fb_tF i) (fb_tT i) A0 A1 R) hM' ((ready_c m0).trans r0) ((ready_c m0).trans r1) ⟨kr, c', hkr, by rw [s0 19 (by decide)]; exact e19r, q1, q2, by rw [eln]; exact q3, by rw [eln]; exact q4⟩ (by omega) (by omega)
      exact ⟨S1, R1, t1, k1, a1, a2, a3, a4, a5, a6, fun j => (a7 j).trans (s0 13 (by decide) j), fun j => (a8 j).trans (m0 18 (by decide) j), a9, a10⟩
    have nt : fb_n (nI t) = t := fb_nI (by omega)
    have uc : cf_steps i (n1 + 1) S = if cf_ready S i (nI t) < 0 then (if cf_ready S i (nI (1 - t)) < 0 then S else cf_steps i n1 (cf_step i S)) else if S 17 (2 * i + t) < S 37 (fb_n (cf_ready S i (nI t))) then cf_steps i n1 (cf_step i S) else cf_begin i (fb_n (cf_ready S i (nI t))) S := by
      simp only [cf_steps, h12, nI_o t ht, nt]
    have um : mf_steps fr (fb_tF i) (fb_tT i) A0 A1 (n2 + 1) R = if ch_A A0 A1 t = true then (if S 17 (2 * i + t) < R 17 (fb_n (S 19 (3 * i + t))) then mf_steps fr (fb_tF i) (fb_tT i) A0 A1 n2 (mf_step (fb_tF i) (fb_tT i) A0 A1 R) else mf_last1 fr (fb_tF i) (fb_tT i) R) else mf_steps fr (fb_tF i) (fb_tT i) A0 A1 n2 (mf_step (fb_tF i) (fb_tT i) A0 A1 R) := by
      simp only [mf_steps, eC, tb_gi i hi, h23, tb_gt i hi t ht, first_eq hM hi ht, ec t ht]
    by_cases ca : ch_A A0 A1 t = true
    · obtain ⟨k, hk, e19, er⟩ := rT t ht ca
      rw [er, if_neg (nI_pos (by omega)), fb_nI (by omega)] at uc
      rw [if_pos ca, e19, fb_nI (by omega), ← (hK k hk).2.1] at um
      by_cases c : S 17 (2 * i + t) < S 37 k
      · rw [if_pos c] at uc um
        refine next uc um (fun k' hk' e => ?_)
        rw [er] at e
        have : k = k' := (nI_eq (by omega) (by omega)).mp e
        subst this
        exact c
      · rw [if_neg c] at uc um
        exact ⟨S, R, t, k, hM, ht, h12, hk, e19, c, fun _ => rfl, fun _ => rfl, uc, um⟩
    · have ne : t ≠ q := fun e => ca (e ▸ hA)
      have eq1 : 1 - t = q := by omega
      rw [rF t ht ca, if_pos fb_m1, eq1, erq, if_neg (nI_pos (by omega))] at uc
      rw [if_neg ca] at um
      refine next uc um (fun k' hk' e => ?_)
      rw [rF t ht ca] at e
      exact absurd (show nI k' < 0 by rw [← e]; exact fb_m1) (nI_pos (by omega))
theorem steps_no {s : fb_S} {t : Nat} (ht : t < 2) (h12 : s 12 i = nI t) (h1 : cf_ready s i (nI t) = -1) (h2 : cf_ready s i (nI (1 - t)) = -1) : ∀ n, 0 < n → cf_steps i n s = s := by
  intro n hn
  cases n with
  | zero => omega
  | succ n =>
    simp only [cf_steps, h12, nI_o t ht]
    rw [h1, h2, if_pos fb_m1, if_pos fb_m1]
theorem choose_eq {m : fb_S} {fr : Nat} {u v : Int32} {A0 A1 : Bool} (hA0 : mf_ready m fr u v 0 = A0) (hA1 : mf_ready m fr u v 1 = A1) : mf_choose fr u v m = mf_go fr u v A0 A1 (fb_b (mf_more A0 A1)) 40 m := by
  subst hA0
  subst hA1
  rfl
theorem rA_of {m : fb_S} {fr : Nat} {u v : Int32} {A0 A1 : Bool} (hA0 : mf_ready m fr u v 0 = A0) (hA1 : mf_ready m fr u v 1 = A1) : ∀ q, q < 2 → mf_ready m fr u v (nI q) = ch_A A0 A1 q := fun q hq => by
  have h : ∀ w : Int32, ∀ p : Nat, (nI p = w) → ∀ B : Bool, ch_A A0 A1 p = B → mf_ready m fr u v w = B → mf_ready m fr u v (nI p) = ch_A A0 A1 p := fun w p e B e2 e3 => by rw [e, e2, e3]
  rcases (show q = 0 ∨ q = 1 by omega) with rfl | rfl
  · exact h 0 0 (by decide) A0 rfl hA0
  · exact h 1 1 (by decide) A1 rfl hA1
theorem tb_d : ∀ i, i < 32 → nI (fb_g i) / 14 = fb_tF i ∧ nI (fb_g i) - nI (fb_g i) / 14 * 14 = fb_tT i := by decide +kernel
theorem ch_port {s m : fb_S} (h : MID fl fr T 1 1 1 z s m) (hi : i < 32) : MID fl fr T 1 1 1 z (cf_choose i s) (mf_ch1 fr (fb_g i) m) ∧ ∀ j, (mf_ch1 fr (fb_g i) m 18 j = 4 ↔ m 18 j = 4) := by
  have h0 := h
  obtain ⟨ok, okm, hfl, hfr, hT1, hTb, hpa, hW, hSm, -, Q, hG, hP, hF, hR, hK, hC, hO, hN, hE, hcr, hZ, hJ1, hJ2⟩ := h
  have hs := cp_sends ok hfl hR hK hi fr (Nat.le_refl _)
  simp only [mf_ch1, cf_choose]
  rw [(tb_d i hi).2, (tb_d i hi).1, if_pos (tb_is hi)]
  by_cases c13 : s 13 i < 0
  · have ns : ¬ mf_sends m (fb_tF i) (fb_tT i) fr = true := fun e => by
      obtain ⟨k, hk, a, b⟩ := hs.mp e
      have := (hC.2.2.1 i hi k hk).mpr ((lc_t ok hfl hR hK hk hi).mpr ⟨a, b⟩)
      rw [this] at c13
      exact nI_pos (by omega) c13
    rw [if_pos c13, if_neg ns]
    generalize hA0 : mf_ready m fr (fb_tF i) (fb_tT i) 0 = A0
    generalize hA1 : mf_ready m fr (fb_tF i) (fb_tT i) 1 = A1
    have rA := rA_of hA0 hA1
    obtain ⟨t, ht, h12⟩ := t_of (i := i) ok
    rw [choose_eq hA0 hA1]
    unfold mf_go
    generalize h64 : (64 : Nat) = n64
    generalize h40 : (40 : Nat) = n40
    have any : ∀ q, q < 2 → ch_A A0 A1 q = true → MID fl fr T 1 1 1 z (cf_steps i n64 s) (mf_steps fr (fb_tF i) (fb_tT i) A0 A1 n40 m) ∧ ∀ j, (mf_steps fr (fb_tF i) (fb_tT i) A0 A1 n40 m 18 j = 4 ↔ m 18 j = 4) := fun q hq ha => by
      rcases ready_eq h0 hi hq with ⟨a, k, hk, b1, b2⟩ | ⟨a, b⟩
      · obtain ⟨c, ec, c11, -⟩ := cr_of hcr (j := 2 * i + q) (by omega)
        obtain ⟨l1, l2, l3⟩ := fb_lnI ok hk
        obtain ⟨S1, R1, t1, k1, a1, a2, a3, a4, a5, a6, a7, a8, a9, a10⟩ := ch_loop hi hq ha 8 n64 n40 s m h0 hA0 hA1 ⟨k, c, hk, b1, ec, c11, fun _ => by omega, fun _ => ⟨by omega, by omega⟩⟩ (by omega) (by omega)
        rw [a9, a10]
        obtain ⟨x1, x2⟩ := mid_begin a1 hi a2 a3 (by rw [a7]; exact c13) a4 a5 a6
        exact ⟨x1, fun j => by rw [x2, a8]⟩
      · rw [rA q hq, ha] at a
        cases a
    have none : A0 = false → A1 = false → cf_steps i n64 s = s := fun g0 g1 => by
      have no : ∀ p, p < 2 → cf_ready s i (nI p) = -1 := fun p hp => by
        rcases ready_eq h0 hi hp with ⟨a, -⟩ | ⟨a, b⟩
        · rw [rA p hp, g0, g1] at a
          rcases (show p = 0 ∨ p = 1 by omega) with rfl | rfl
          · cases a
          · cases a
        · exact b
      exact steps_no ht h12 (no t ht) (no (1 - t) (by omega)) n64 (by omega)
    cases A0 with
    | true =>
      rw [if_neg (show ¬ fb_b (mf_more true A1) = 0 from by cases A1 <;> decide)]
      exact any 0 (by omega) rfl
    | false =>
      cases A1 with
      | true =>
        rw [if_neg (show ¬ fb_b (mf_more false true) = 0 by decide)]
        exact any 1 (by omega) rfl
      | false =>
        rw [if_pos (show fb_b (mf_more false false) = 0 by decide), none rfl rfl]
        exact ⟨h0, fun _ => Iff.rfl⟩
  · have hk := fb_rl (ok 13 i) c13
    obtain ⟨k, hk31, ek⟩ := nI_of c13
    rw [ek, fb_nI hk31] at hk
    obtain ⟨a, b⟩ := (lc_t ok hfl hR hK hk hi).mp ((hC.2.2.1 i hi k hk).mp ek)
    rw [if_neg c13, if_pos (hs.mpr ⟨k, hk, a, b⟩)]
    exact ⟨h0, fun _ => Iff.rfl⟩
theorem ch_all {s m : fb_S} (h : MID fl fr T 1 1 1 z s m) : ∀ n, n ≤ 32 → MID fl fr T 1 1 1 z (fb_it cf_choose n s) (fb_it (fun i => mf_ch1 fr (fb_g i)) n m) ∧ ∀ j, (fb_it (fun i => mf_ch1 fr (fb_g i)) n m 18 j = 4 ↔ m 18 j = 4) := by
  intro n
  induction n with
  | zero => exact fun _ => ⟨h, fun _ => Iff.rfl⟩
  | succ n ih =>
    intro hn
    obtain ⟨a, b⟩ := ih (by omega)
    obtain ⟨c, d⟩ := ch_port a (show n < 32 by omega)
    exact ⟨c, fun j => (d j).trans (b j)⟩
end CHOOSE
