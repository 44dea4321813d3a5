/-! choose: one step of both sides -/
theorem tb_gt : ∀ i, i < 32 → ∀ t, t < 2 → fb_n (2 * (14 * fb_tF i + fb_tT i) + nI t) = 2 * fb_g i + t := by decide +kernel
theorem nI_o : ∀ t, t < 2 → 1 - nI t = nI (1 - t) := by decide
section STEP
variable {fl fr T z i t : Nat} {s m : fb_S}
theorem cstep_f (h12 : s 12 i = nI t) (ht : t < 2) : (∀ F, (F ≠ 12 ∧ F ≠ 17) → ∀ j, cf_step i s F j = s F j) ∧ (∀ j, cf_step i s 12 j = if j = i then nI (1 - t) else s 12 j) ∧ ∀ j, cf_step i s 17 j = if j = 2 * i + t then (if cf_ready s i (nI t) < 0 then 0 else s 17 j) else if j = 2 * i + (1 - t) then (if cf_ready s i (nI (1 - t)) < 0 then s 17 j else s 17 j + s 7 (1 - t)) else s 17 j := by
  have e : ∃ s1 : fb_S, (∀ F, F ≠ 17 → ∀ j, s1 F j = s F j) ∧ (∀ j, s1 17 j = if j = 2 * i + t then (if cf_ready s i (nI t) < 0 then 0 else s 17 j) else s 17 j) ∧ cf_step i s = if cf_ready s i (nI (1 - t)) < 0 then fb_up s1 12 i (nI (1 - t)) else fb_up (fb_up s1 12 i (nI (1 - t))) 17 (2 * i + (1 - t)) (fb_up s1 12 i (nI (1 - t)) 17 (2 * i + (1 - t)) + fb_up s1 12 i (nI (1 - t)) 7 (1 - t)) := by
    simp only [cf_step, h12, nI_o t ht]
    rw [fb_nI (show t < 2 ^ 31 by omega), fb_nI (show 1 - t < 2 ^ 31 by omega)]
    by_cases c : cf_ready s i (nI t) < 0
    · rw [if_pos c]
      refine ⟨_, fun F hF j => fb_up_F _ _ _ _ hF, fun j => ?_, rfl⟩
      by_cases e : j = 2 * i + t
      · rw [if_pos e, if_pos c, e, fb_up_same]
      · rw [if_neg e, fb_up_i _ _ _ _ e]
    · rw [if_neg c]
      refine ⟨s, fun _ _ _ => rfl, fun j => ?_, rfl⟩
      by_cases e : j = 2 * i + t
      · rw [if_pos e, if_neg c]
      · rw [if_neg e]
  obtain ⟨s1, a0, a17, es⟩ := e
  rw [es]
  by_cases c : cf_ready s i (nI (1 - t)) < 0
  · rw [if_pos c]
    refine ⟨fun F hF j => (fb_up_F _ _ _ _ hF.1).trans (a0 F hF.2 j), fun j => ?_, fun j => ?_⟩
    · by_cases e : j = i
      · rw [if_pos e, e, fb_up_same]
      · rw [if_neg e, fb_up_i _ _ _ _ e, a0 12 (by decide)]
    · rw [fb_up_F _ _ _ _ (by decide), a17]
      by_cases e : j = 2 * i + t
      · rw [if_pos e, if_pos e]
      · rw [if_neg e, if_neg e]
        by_cases e2 : j = 2 * i + (1 - t)
        · rw [if_pos e2, if_pos c]
        · rw [if_neg e2]
  · rw [if_neg c]
    refine ⟨fun F hF j => (fb_up_F _ _ _ _ hF.2).trans ((fb_up_F _ _ _ _ hF.1).trans (a0 F hF.2 j)), fun j => ?_, fun j => ?_⟩
    · rw [fb_up_F _ _ _ _ (by decide)]
      by_cases e : j = i
      · rw [if_pos e, e, fb_up_same]
      · rw [if_neg e, fb_up_i _ _ _ _ e, a0 12 (by decide)]
    · by_cases e2 : j = 2 * i + (1 - t)
      · rw [if_neg (show ¬ j = 2 * i + t by omega), if_pos e2, if_neg c, e2, fb_up_same, fb_up_F _ _ _ _ (by decide), fb_up_F _ _ _ _ (by decide), a17, if_neg (show ¬ 2 * i + (1 - t) = 2 * i + t by omega), a0 7 (by decide)]
      · rw [fb_up_i _ _ _ _ e2, fb_up_F _ _ _ _ (by decide), a17]
        by_cases e : j = 2 * i + t
        · rw [if_pos e, if_pos e]
        · rw [if_neg e, if_neg e, if_neg e2]
/-- whether queue t is ready, of two -/
def ch_A (A0 A1 : Bool) (t : Nat) : Bool := if t = 0 then A0 else A1
theorem ch_can {A0 A1 : Bool} (ht : t < 2) : (if nI t = 0 then A0 else A1) = ch_A A0 A1 t := by
  rcases (show t = 0 ∨ t = 1 by omega) with rfl | rfl
  · rfl
  · rfl
theorem mstep_f {A0 A1 : Bool} (hi : i < 32) (h23 : m 23 (fb_g i) = nI t) (ht : t < 2) : (∀ F, (F ≠ 23 ∧ F ≠ 24) → ∀ j, mf_step (fb_tF i) (fb_tT i) A0 A1 m F j = m F j) ∧ (∀ j, mf_step (fb_tF i) (fb_tT i) A0 A1 m 23 j = if j = fb_g i then nI (1 - t) else m 23 j) ∧ ∀ j, mf_step (fb_tF i) (fb_tT i) A0 A1 m 24 j = if j = 2 * fb_g i + t then (if ch_A A0 A1 t = true then m 24 j else 0) else if j = 2 * fb_g i + (1 - t) then (if ch_A A0 A1 (1 - t) = true then m 24 j + m 25 (1 - t) else m 24 j) else m 24 j := by
  have ec : mf_can m (fb_tF i) (fb_tT i) A0 A1 = ch_A A0 A1 t := by
    show (if m 23 (fb_n (14 * fb_tF i + fb_tT i)) = 0 then A0 else A1) = _
    rw [tb_gi i hi, h23, ch_can ht]
  have e : mf_step (fb_tF i) (fb_tT i) A0 A1 m = fb_up (fb_up (fb_up m 24 (2 * fb_g i + t) (if ch_A A0 A1 t = true then m 24 (2 * fb_g i + t) else 0)) 23 (fb_g i) (nI (1 - t))) 24 (2 * fb_g i + (1 - t)) (if ch_A A0 A1 (1 - t) = true then m 24 (2 * fb_g i + (1 - t)) + m 25 (1 - t) else m 24 (2 * fb_g i + (1 - t))) := by
    simp only [mf_step, ec, tb_gi i hi, h23, nI_o t ht, tb_gt i hi t ht, tb_gt i hi (1 - t) (by omega)]
    rw [ch_can (show 1 - t < 2 by omega), fb_nI (show 1 - t < 2 ^ 31 by omega), fb_up_F _ _ _ _ (show (24 : Nat) ≠ 23 by decide), fb_up_i _ _ _ _ (show 2 * fb_g i + (1 - t) ≠ 2 * fb_g i + t by omega), fb_up_F _ _ _ _ (show (25 : Nat) ≠ 23 by decide), fb_up_F _ _ _ _ (show (25 : Nat) ≠ 24 by decide)]
  rw [e]
  refine ⟨fun F hF j => ?_, fun j => ?_, fun j => ?_⟩
  · rw [fb_up_F _ _ _ _ hF.2, fb_up_F _ _ _ _ hF.1, fb_up_F _ _ _ _ hF.2]
  · rw [fb_up_F _ _ _ _ (by decide)]
    by_cases e : j = fb_g i
    · rw [if_pos e, e, fb_up_same]
    · rw [if_neg e, fb_up_i _ _ _ _ e, fb_up_F _ _ _ _ (by decide)]
  · by_cases e2 : j = 2 * fb_g i + (1 - t)
    · rw [if_neg (show ¬ j = 2 * fb_g i + t by omega), if_pos e2, e2, fb_up_same]
    · rw [fb_up_i _ _ _ _ e2, fb_up_F _ _ _ _ (by decide)]
      by_cases e : j = 2 * fb_g i + t
      · rw [if_pos e, e, fb_up_same]
      · rw [if_neg e, if_neg e2, fb_up_i _ _ _ _ e]
theorem ok_mstep {A0 A1 : Bool} (hi : i < 32) (h23 : m 23 (fb_g i) = nI t) (ht : t < 2) (okm : fb_okM fl fr T m) : fb_okM fl fr T (mf_step (fb_tF i) (fb_tT i) A0 A1 m) := by
  have h1 : (1 : Int32) - m 23 (fb_n (14 * fb_tF i + fb_tT i)) = 0 ∨ (1 : Int32) - m 23 (fb_n (14 * fb_tF i + fb_tT i)) = 1 := by
    rw [tb_gi i hi, h23]
    rcases (show t = 0 ∨ t = 1 by omega) with rfl | rfl
    · exact Or.inr (by decide)
    · exact Or.inl (by decide)
  exact fb_okM_up (fb_okM_up (fb_okM_up okm trivial) h1) trivial
/-- credits as numbers -/
theorem cr_of (h : cp_cr s) {j : Nat} (hj : j < 64) : ∃ c, s 17 j = nI c ∧ c ≤ 11 ∧ (¬ s 12 (j / 2) = nI (j % 2) → c ≤ 3) := by
  obtain ⟨a, b, d⟩ := h j hj
  obtain ⟨c, hc, e⟩ := nI_of2 (x := s 17 j) (M := 11) (n := 11) (by decide) (fb_pos0 a) b
  refine ⟨c, e, hc, fun q => ?_⟩
  have := d q
  rw [e, show (3 : Int32) = nI 3 from by decide] at this
  exact (nI_leI (by omega) (by omega)).mp this
theorem qu_of (ok : fb_okC fl fr s) {q : Nat} (hq : q < 2) : ∃ d, s 7 q = nI d ∧ 1 ≤ d ∧ d ≤ 8 := by
  have h := ok 7 q hq
  obtain ⟨d, hd, e⟩ := nI_of2 (x := s 7 q) (M := 8) (n := 8) (by decide) (fb_pos1 h.1) h.2
  refine ⟨d, e, ?_, hd⟩
  rcases Nat.eq_zero_or_pos d with rfl | q
  · rw [e] at h
    exact absurd h.1 (by decide)
  · exact q
theorem mid_step {A0 A1 : Bool} (h : MID fl fr T 1 1 1 z s m) (hi : i < 32) (ht : t < 2) (h12 : s 12 i = nI t) (r0 : mf_ready m fr (fb_tF i) (fb_tT i) 0 = A0) (r1 : mf_ready m fr (fb_tF i) (fb_tT i) 1 = A1) (hlt : ∀ k, k < fr → cf_ready s i (nI t) = nI k → s 17 (2 * i + t) < s 37 k) : MID fl fr T 1 1 1 z (cf_step i s) (mf_step (fb_tF i) (fb_tT i) A0 A1 m) := by
  have h0 := h
  obtain ⟨ok, okm, hfl, hfr, hT1, hTb, hpa, hW, hSm, -, Q, hG, hP, hF, hR, hK, hC, hO, hN, hE, hcr, hZ, hJ1, hJ2⟩ := h
  have h23 : m 23 (fb_g i) = nI t := (hP i hi).1.symm.trans h12
  have rA : ∀ q, q < 2 → mf_ready m fr (fb_tF i) (fb_tT i) (nI q) = ch_A A0 A1 q := fun q hq => by
    rcases (show q = 0 ∨ q = 1 by omega) with rfl | rfl
    · exact r0
    · exact r1
  have rC : ∀ q, q < 2 → (cf_ready s i (nI q) < 0 ↔ ¬ ch_A A0 A1 q = true) := fun q hq => by
    rcases ready_eq h0 hi hq with ⟨a, k, hk, -, b⟩ | ⟨a, b⟩
    · rw [← rA q hq, a, b]
      exact ⟨fun e => absurd e (nI_pos (by omega)), fun e => absurd rfl e⟩
    · rw [← rA q hq, a, b]
      exact ⟨fun _ => by decide, fun _ => fb_m1⟩
  obtain ⟨s0, s12, s17⟩ := cstep_f (i := i) (s := s) h12 ht
  obtain ⟨m0, m23, m24⟩ := mstep_f (A0 := A0) (A1 := A1) hi h23 ht
  refine mid_same h0 s0 m0 (ok_cstep ok) (ok_mstep hi h23 ht okm) ?_ ?_
  · intro c hc
    obtain ⟨p1, p2, p3, p4⟩ := hP c hc
    rw [s12, m23, s0 14 (by decide), m0 26 (by decide)]
    by_cases e : c = i
    · subst e
      have ec : ∀ q, q < 2 → s 17 (2 * c + q) = m 24 (2 * fb_g c + q) := fun q hq => by
        rcases (show q = 0 ∨ q = 1 by omega) with rfl | rfl
        · exact p2
        · exact p3
      have key : ∀ q, q < 2 → cf_step c s 17 (2 * c + q) = mf_step (fb_tF c) (fb_tT c) A0 A1 m 24 (2 * fb_g c + q) := fun q hq => by
        rw [s17, m24]
        by_cases eq : q = t
        · subst eq
          rw [if_pos rfl, if_pos rfl]
          by_cases c1 : ch_A A0 A1 q = true
          · rw [if_neg (fun e => (rC q hq).mp e c1), if_pos c1, ec q hq]
          · rw [if_pos ((rC q hq).mpr c1), if_neg c1]
        · have eq2 : q = 1 - t := by omega
          rw [if_neg (show ¬ 2 * c + q = 2 * c + t by omega), if_neg (show ¬ 2 * fb_g c + q = 2 * fb_g c + t by omega), eq2, if_pos rfl, if_pos rfl]
          have h7 : s 7 (1 - t) = m 25 (1 - t) := by
            rcases (show 1 - t = 0 ∨ 1 - t = 1 by omega) with e | e
            · rw [e]; exact hG.2.2.2.2.2.1
            · rw [e]; exact hG.2.2.2.2.2.2
          by_cases c1 : ch_A A0 A1 (1 - t) = true
          · rw [if_neg (fun e => (rC (1 - t) (by omega)).mp e c1), if_pos c1, ec (1 - t) (by omega), h7]
          · rw [if_pos ((rC (1 - t) (by omega)).mpr c1), if_neg c1, ec (1 - t) (by omega)]
      rw [if_pos rfl, if_pos rfl]
      exact ⟨rfl, key 0 (by omega), key 1 (by omega), p4⟩
    · have eg : ¬ fb_g c = fb_g i := fun q => e (tb_g c hc i hi q)
      rw [if_neg e, if_neg eg, s17, s17, m24, m24, if_neg (show ¬ 2 * c = 2 * i + t by omega), if_neg (show ¬ 2 * c = 2 * i + (1 - t) by omega), if_neg (show ¬ 2 * c + 1 = 2 * i + t by omega), if_neg (show ¬ 2 * c + 1 = 2 * i + (1 - t) by omega), if_neg (show ¬ 2 * fb_g c = 2 * fb_g i + t by omega), if_neg (show ¬ 2 * fb_g c = 2 * fb_g i + (1 - t) by omega), if_neg (show ¬ 2 * fb_g c + 1 = 2 * fb_g i + t by omega), if_neg (show ¬ 2 * fb_g c + 1 = 2 * fb_g i + (1 - t) by omega)]
      exact ⟨p1, p2, p3, p4⟩
  · intro j hj
    have le : ∀ a b, a ≤ b → b ≤ 100 → 0 ≤ nI a ∧ nI a ≤ nI b := fun a b h1 h2 => ⟨nI_pos' (by omega), nI_le h1 (by omega)⟩
    rw [s12, s17]
    by_cases e1 : j = 2 * i + t
    · rw [if_pos e1, if_pos (show j / 2 = i by omega)]
      rcases ready_eq h0 hi ht with ⟨a, k, hk, -, b⟩ | ⟨a, b⟩
      · have lt := hlt k hk b
        rw [b, if_neg (nI_pos (by omega))]
        obtain ⟨c, ec, c11, c3⟩ := cr_of hcr (j := j) hj
        obtain ⟨l1, l2, l3⟩ := fb_lnI ok hk
        rw [← e1, ec, l1] at lt
        have := (nI_ltI (by omega) (by omega)).mp lt
        rw [ec]
        exact ⟨(le c 11 c11 (by omega)).1, (le c 11 c11 (by omega)).2, fun _ => (le c 3 (by omega) (by omega)).2⟩
      · rw [b, if_pos fb_m1]
        exact ⟨by decide, by decide, fun _ => by decide⟩
    · rw [if_neg e1]
      by_cases e2 : j = 2 * i + (1 - t)
      · obtain ⟨c, ec, c11, c3⟩ := cr_of hcr (j := j) hj
        obtain ⟨d, ed, d1, d8⟩ := qu_of ok (q := 1 - t) (by omega)
        have c3 := c3 (by
          rw [show j / 2 = i by omega, h12, show j % 2 = 1 - t by omega]
          exact fun q => by
            have := (nI_eq (by omega) (by omega)).mp q
            omega)
        rw [if_pos e2, if_pos (show j / 2 = i by omega), show j % 2 = 1 - t by omega]
        by_cases c1 : cf_ready s i (nI (1 - t)) < 0
        · rw [if_pos c1, ec]
          exact ⟨(le c 11 c11 (by omega)).1, (le c 11 c11 (by omega)).2, fun q => absurd rfl q⟩
        · rw [if_neg c1, ec, ed, nI_add]
          exact ⟨(le (c + d) 11 (by omega) (by omega)).1, (le (c + d) 11 (by omega) (by omega)).2, fun q => absurd rfl q⟩
      · rw [if_neg e2, if_neg (show ¬ j / 2 = i by omega)]
        exact hcr j hj
end STEP
