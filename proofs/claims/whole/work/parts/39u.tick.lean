/-! a tick, and all of them -/
theorem endOne_4 {fr k : Nat} {m : fb_S} (j : Nat) : (mf_endOne fr k m 18 j = 4 ↔ m 18 j = 4) := by
  have u : ∀ x : fb_S, (∀ j, x 18 j = if j = k then 3 else m 18 j) → m 18 k = 2 → (x 18 j = 4 ↔ m 18 j = 4) := fun x e e2 => by
    rw [e j]
    by_cases c : j = k
    · rw [if_pos c, c, e2]
      decide
    · rw [if_neg c]
  have e18 : ∀ j, fb_up m 18 k 3 18 j = if j = k then 3 else m 18 j := fun j => by
    by_cases c : j = k
    · rw [if_pos c, c, fb_up_same]
    · rw [if_neg c, fb_up_i _ _ _ _ c]
  simp only [mf_endOne]
  by_cases c2 : m 18 k = 2
  · rw [if_pos c2]
    by_cases c3 : m 21 k = m 4 0
    · rw [if_pos c3]
      generalize fb_up m 18 k 3 = x at *
      split
      · exact u _ e18 c2
      · split
        · exact u _ (fun j => (fb_up_F _ _ _ _ (by decide)).trans (e18 j)) c2
        · exact u _ e18 c2
    · rw [if_neg c3]
  · rw [if_neg c2]
theorem ends_4 {fr : Nat} {m : fb_S} (n j : Nat) : (fb_it (mf_endOne fr) n m 18 j = 4 ↔ m 18 j = 4) := by
  induction n with
  | zero => exact Iff.rfl
  | succ n ih => exact (endOne_4 j).trans ih
theorem ok_rem2 {fl fr : Nat} {s : fb_S} (ok : fb_okC fl fr s) : fb_okC fl fr (cf_remember fl s) := by
  unfold cf_remember
  refine fb_it_inv (I := fun _ x => fb_okC fl fr x) (fb_it_inv (I := fun _ x => fb_okC fl fr x) ok (fun i x _ hx => fb_okC_up hx trivial)) (fun f x _ hx => ?_)
  exact fb_okC_up (fb_okC_up hx trivial) (Or.inl rfl)
theorem ok_rec {fl fr T : Nat} {m : fb_S} (ok : fb_okM fl fr T m) (n : Nat) : fb_okM fl fr T (fb_it mf_rec1 n m) :=
  fb_it_inv (I := fun _ x => fb_okM fl fr T x) ok (fun q x _ hx => fb_okM_up hx (show x 26 q = 0 ∨ x 26 q = 1 from hx 26 q))
theorem tick_one {fl fr T : Nat} {s m : fb_S} (h : CT fl fr T s m) : fb_okC fl fr (cf_tick1 fl s) ∧ fb_okM fl fr (T + 1) (mf_tick1 fl fr m) ∧ CP fl fr (T + 1) (cf_tick1 fl s) (mf_tick1 fl fr m) ∧ mf_arrived (mf_tick1 fl fr m) fr = mf_arrived m fr + cf_tick1A fl s := by
  have h0 := ph0 h
  obtain ⟨ok, okm, hfl, hfr, hTb, Q, hG, hP, hF, hR, hK, hC, hO, hT, -⟩ := h
  have e18 : ∀ j, fb_up m 4 0 (m 4 0 + 1) 18 j = m 18 j := fun j => fb_up_F _ _ _ _ (by decide)
  have e21 : ∀ j, fb_up m 4 0 (m 4 0 + 1) 21 j = m 21 j := fun j => fb_up_F _ _ _ _ (by decide)
  have h1 := ph1 h0 (fun k hk k3 e => by
    rw [e18] at k3
    rw [e21] at e
    obtain ⟨w, w1, w2, w3⟩ := (hT.1 k hk).2.1 k3
    have := (nI_eq (by omega) (by omega)).mp (w1.symm.trans e)
    omega)
  have h2 := ph2 h1
  have r18 : ∀ j, fb_it (mf_slow fr) fl (fb_it (mf_endOne fr) fr (fb_up m 4 0 (m 4 0 + 1))) 18 j = fb_it (mf_endOne fr) fr (fb_up m 4 0 (m 4 0 + 1)) 18 j := fun j => (rates_it h1 fl (Nat.le_refl _)).2.1 18 j (Or.inl (by unfold rt_m; decide))
  obtain ⟨h3, c3⟩ := ph3 h2
  obtain ⟨h4, c4⟩ := ph4 h3
  have h5 := ph5 h4 (Nat.le_refl _)
  have eT : cf_tick1 fl s = cf_remember fl (fb_it cf_choose 32 (fb_it cf_deliver 32 (fb_it cf_rate1 fl (fb_it cf_endSending 32 (fb_it cf_pause1 32 (fb_up s 6 0 (s 6 0 + 1))))))) := rfl
  have eM : mf_tick1 fl fr m = fb_it mf_rec1 196 (fb_it (mf_ch1 fr) 196 (mf_arrivals fr (fb_it (mf_slow fr) fl (fb_it (mf_endOne fr) fr (fb_up m 4 0 (m 4 0 + 1)))))) := rfl
  have eA : cf_tick1A fl s = cf_arr (fb_it cf_rate1 fl (fb_it cf_endSending 32 (fb_it cf_pause1 32 (fb_up s 6 0 (s 6 0 + 1))))) 32 := rfl
  rw [eT, eM, eA]
  have hm4 : fb_it (mf_ch1 fr) 196 (mf_arrivals fr (fb_it (mf_slow fr) fl (fb_it (mf_endOne fr) fr (fb_up m 4 0 (m 4 0 + 1))))) 4 0 = nI (T + 1) := h4.2.1 4 0 rfl
  refine ⟨ok_rem2 h4.1, ok_rec h4.2.1 196, h5, ?_⟩
  rw [arrived_c (m' := fb_it mf_rec1 196 (fb_it (mf_ch1 fr) 196 (mf_arrivals fr (fb_it (mf_slow fr) fl (fb_it (mf_endOne fr) fr (fb_up m 4 0 (m 4 0 + 1))))))) (m := mf_arrivals fr (fb_it (mf_slow fr) fl (fb_it (mf_endOne fr) fr (fb_up m 4 0 (m 4 0 + 1))))) (fun j _ => by
    rw [(rec_it hm4 (by omega) 196 (Nat.le_refl _)).1 18 j (Or.inl (by decide))]
    exact c4 j), c3]
  rw [arrived_c (m' := fb_it (mf_slow fr) fl (fb_it (mf_endOne fr) fr (fb_up m 4 0 (m 4 0 + 1)))) (m := m) (fun j _ => by
    rw [r18, ends_4, e18])]
theorem ticks_all {fl fr T : Nat} {s m : fb_S} (h : CO fl fr T s m) : ∀ n, n ≤ 20 → CT fl fr (T + n) (cf_ticks fl n s) (mf_ticks fl fr n m) ∧ mf_arrived (mf_ticks fl fr n m) fr = mf_arrived m fr + cf_ticksA fl s n := by
  obtain ⟨ok, okm, hfl, hfr, hTb, hCP⟩ := h
  intro n
  induction n with
  | zero => exact fun _ => ⟨⟨ok, okm, hfl, hfr, by omega, hCP⟩, (Int32.add_zero _).symm⟩
  | succ n ih =>
    intro hn
    obtain ⟨i1, i2⟩ := ih (by omega)
    obtain ⟨a, b, c, d⟩ := tick_one i1
    refine ⟨⟨a, b, hfl, hfr, by omega, c⟩, ?_⟩
    show mf_arrived (mf_tick1 fl fr (mf_ticks fl fr n m)) fr = mf_arrived m fr + (cf_ticksA fl s n + cf_tick1A fl (cf_ticks fl n s))
    rw [d, i2, Int32.add_assoc]
theorem i32_sub (a x : Int32) : a + x - a = x := by
  rw [Int32.add_comm, Int32.add_sub_cancel]
theorem co_tick {fl fr T : Nat} {s m : fb_S} (h : CO fl fr T s m) (n : Int32) : cf_tickA fl n s = mf_tickA fl fr n m ∧ CP fl fr (mf_T T n) (cf_tickS fl n s) (mf_tickS fl fr n m) := by
  unfold cf_tickA mf_tickA mf_T cf_tickS mf_tickS
  by_cases c1 : n < 1
  · rw [if_pos c1, if_pos c1, if_pos c1, if_pos c1, if_pos c1]
    exact ⟨rfl, h.2.2.2.2.2⟩
  · rw [if_neg c1, if_neg c1, if_neg c1, if_neg c1, if_neg c1]
    by_cases c2 : n ≤ 20
    · rw [if_pos c2, if_pos c2, if_pos c2, if_pos c2, if_pos c2]
      obtain ⟨t, ht, e⟩ := fb_to20 c1 c2
      have et : fb_n n = t := by rw [e, fb_nI (by omega)]
      rw [et]
      obtain ⟨a, b⟩ := ticks_all h t ht
      refine ⟨?_, a.2.2.2.2.2⟩
      rw [b, i32_sub]
    · rw [if_neg c2, if_neg c2, if_neg c2, if_neg c2, if_neg c2]
      exact ⟨rfl, h.2.2.2.2.2⟩
