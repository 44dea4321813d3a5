/-! choose: the reference's ports in another order -/
def oc_at (m : fb_S) (k i : Nat) : Prop := mf_node m (m 16 k) (m 19 k) = fb_tF i ∧ mf_node m (m 16 k) (m 19 k + 1) = fb_tT i
/-- what belongs to port i -/
def oc_O (m : fb_S) (fr i F j : Nat) : Prop := (F = 23 ∧ j = fb_g i) ∨ (F = 24 ∧ (j = 2 * fb_g i ∨ j = 2 * fb_g i + 1)) ∨ ((F = 18 ∨ F = 21) ∧ j < fr ∧ oc_at m j i) ∨ (F = 14 ∧ ¬ (8 : Int32) ≤ fb_tF i ∧ m 7 j = fb_tF i)
def oc_A (m : fb_S) (fr i : Nat) (a b : fb_S) : Prop := ∀ F j, (∀ c, c < 32 → c ≠ i → ¬ oc_O m fr c F j) → a F j = b F j
def oc_K (m a : fb_S) : Prop := ∀ F, (F ≠ 14 ∧ F ≠ 18 ∧ F ≠ 21 ∧ F ≠ 23 ∧ F ≠ 24) → ∀ j, a F j = m F j
def oc_H (m : fb_S) (fr i : Nat) (a : fb_S) : Prop := ∀ k, k < fr → oc_at m k i → a 18 k = 1 → ¬ (8 : Int32) ≤ fb_tF i → m 7 (fb_n (m 16 k)) = fb_tF i
theorem tb_hF : ∀ i, i < 32 → ∀ j, j < 32 → ¬ (8 : Int32) ≤ fb_tF i → fb_tF i = fb_tF j → i = j := by decide +kernel
section OC
variable {m : fb_S} {fr i : Nat}
theorem oc_uni {c F j : Nat} (hi : i < 32) (hc : c < 32) (h1 : oc_O m fr i F j) (h2 : oc_O m fr c F j) : i = c := by
  rcases h1 with ⟨a, b⟩ | ⟨a, b⟩ | ⟨a, a2, b⟩ | ⟨a, a2, b⟩
  · rcases h2 with ⟨d, e⟩ | ⟨d, e⟩ | ⟨d, d2, e⟩ | ⟨d, d2, e⟩
    · exact tb_g i hi c hc (b.symm.trans e)
    · omega
    · omega
    · omega
  · rcases h2 with ⟨d, e⟩ | ⟨d, e⟩ | ⟨d, d2, e⟩ | ⟨d, d2, e⟩
    · omega
    · exact tb_g i hi c hc (by omega)
    · omega
    · omega
  · rcases h2 with ⟨d, e⟩ | ⟨d, e⟩ | ⟨d, d2, e⟩ | ⟨d, d2, e⟩
    · omega
    · omega
    · exact tb_FT hi hc (b.1.symm.trans e.1) (b.2.symm.trans e.2)
    · omega
  · rcases h2 with ⟨d, e⟩ | ⟨d, e⟩ | ⟨d, d2, e⟩ | ⟨d, d2, e⟩
    · omega
    · omega
    · omega
    · exact tb_hF i hi c hc a2 (b.symm.trans e)
theorem oc_own {a b : fb_S} {F j : Nat} (hi : i < 32) (h : oc_A m fr i a b) (ho : oc_O m fr i F j) : a F j = b F j := h F j (fun _ hc hne q => hne (oc_uni hi hc ho q).symm)
theorem oc_KA {a : fb_S} (h : oc_A m fr i a m) : oc_K m a := fun F hF j => h F j (fun c _ _ q => by
  rcases q with ⟨d, e⟩ | ⟨d, e⟩ | ⟨d, d2, e⟩ | ⟨d, d2, e⟩
  · omega
  · omega
  · omega
  · omega)
theorem oc_nd {a : fb_S} (ka : oc_K m a) (f x : Int32) : mf_node a f x = mf_node m f x := node_c (ka 7 (by decide)) (ka 8 (by decide)) f x
theorem oc_btw {a : fb_S} (ka : oc_K m a) {k : Nat} (h : mf_btw a k (fb_tF i) (fb_tT i) = true) : oc_at m k i := by
  simp only [mf_btw, oc_nd ka, ka 16 (by decide), ka 19 (by decide)] at h
  by_cases c4 : 4 ≤ a 18 k
  · rw [if_pos c4] at h
    cases h
  · rw [if_neg c4] at h
    by_cases c1 : mf_node m (m 16 k) (m 19 k) = fb_tF i
    · rw [if_pos c1] at h
      by_cases c2 : mf_node m (m 16 k) (m 19 k + 1) = fb_tT i
      · exact ⟨c1, c2⟩
      · rw [if_neg c2] at h
        cases h
    · rw [if_neg c1] at h
      cases h
theorem here_at {a : fb_S} {u v q : Int32} {k : Nat} (h : mf_here a u v q k = true) : a 18 k = 1 ∧ mf_btw a k u v = true := by
  simp only [mf_here] at h
  by_cases c1 : a 18 k = 1
  · rw [if_pos c1] at h
    by_cases c2 : a 9 (fb_n (a 16 k)) = q
    · rw [if_pos c2] at h
      by_cases c3 : mf_btw a k u v = true
      · exact ⟨c1, c3⟩
      · rw [if_neg c3] at h
        cases h
    · rw [if_neg c2] at h
      cases h
  · rw [if_neg c1] at h
    cases h
theorem first_at {a : fb_S} {u v q : Int32} : ∀ n, n < 2 ^ 31 → mf_first a u v q n < 0 ∨ ∃ k, k < n ∧ mf_first a u v q n = nI k ∧ mf_here a u v q k = true := by
  intro n
  induction n with
  | zero => exact fun _ => Or.inl fb_m1
  | succ n ih =>
    intro hn
    simp only [mf_first]
    by_cases c : mf_here a u v q n = true
    · rw [if_pos c]
      rcases ih (by omega) with e | ⟨k, hk, e, hh⟩
      · rw [if_pos e]
        exact Or.inr ⟨n, by omega, rfl, c⟩
      · rw [e, if_neg (nI_pos (by omega)), fb_nI (by omega)]
        by_cases c2 : a 20 k ≤ a 20 n
        · rw [if_pos c2]
          exact Or.inr ⟨k, by omega, rfl, hh⟩
        · rw [if_neg c2]
          exact Or.inr ⟨n, by omega, rfl, c⟩
    · rw [if_neg c]
      rcases ih (by omega) with e | ⟨k, hk, e, hh⟩
      · exact Or.inl e
      · exact Or.inr ⟨k, by omega, e, hh⟩
variable {a b : fb_S}
theorem here_ag (hi : i < 32) (ka : oc_K m a) (kb : oc_K m b) (ag : oc_A m fr i a b) (q : Int32) {k : Nat} (hk : k < fr) : mf_here a (fb_tF i) (fb_tT i) q k = mf_here b (fb_tF i) (fb_tT i) q k := by
  by_cases c : oc_at m k i
  · exact here_c (fun j => (ka 7 (by decide) j).trans (kb 7 (by decide) j).symm) (fun j => (ka 8 (by decide) j).trans (kb 8 (by decide) j).symm) (fun j => (ka 9 (by decide) j).trans (kb 9 (by decide) j).symm) ((ka 16 (by decide) k).trans (kb 16 (by decide) k).symm) (oc_own hi ag (Or.inr (Or.inr (Or.inl ⟨Or.inl rfl, hk, c⟩)))) ((ka 19 (by decide) k).trans (kb 19 (by decide) k).symm)
  · have no : ∀ d, oc_K m d → mf_here d (fb_tF i) (fb_tT i) q k = false := fun d kd => by
      cases e : mf_here d (fb_tF i) (fb_tT i) q k with
      | false => rfl
      | true => exact absurd (oc_btw kd (here_at e).2) c
    rw [no a ka, no b kb]
theorem first_ag (hi : i < 32) (ka : oc_K m a) (kb : oc_K m b) (ag : oc_A m fr i a b) (q : Int32) : ∀ n, n ≤ fr → mf_first a (fb_tF i) (fb_tT i) q n = mf_first b (fb_tF i) (fb_tT i) q n := by
  intro n
  induction n with
  | zero => exact fun _ => rfl
  | succ n ih =>
    intro hn
    have e20 : ∀ j, a 20 j = b 20 j := fun j => (ka 20 (by decide) j).trans (kb 20 (by decide) j).symm
    simp only [mf_first, ih (by omega), here_ag hi ka kb ag q (show n < fr by omega), e20]
theorem sends_ag (hi : i < 32) (ka : oc_K m a) (kb : oc_K m b) (ag : oc_A m fr i a b) : ∀ n, n ≤ fr → mf_sends a (fb_tF i) (fb_tT i) n = mf_sends b (fb_tF i) (fb_tT i) n := by
  have one : ∀ k, k < fr → ((a 18 k = 2 ∧ mf_btw a k (fb_tF i) (fb_tT i) = true) ↔ (b 18 k = 2 ∧ mf_btw b k (fb_tF i) (fb_tT i) = true)) := fun k hk => by
    by_cases c : oc_at m k i
    · have e18 : a 18 k = b 18 k := oc_own hi ag (Or.inr (Or.inr (Or.inl ⟨Or.inl rfl, hk, c⟩)))
      have eb : mf_btw a k (fb_tF i) (fb_tT i) = mf_btw b k (fb_tF i) (fb_tT i) := by simp only [mf_btw, oc_nd ka, oc_nd kb, ka 16 (by decide), kb 16 (by decide), ka 19 (by decide), kb 19 (by decide), e18]
      rw [e18, eb]
    · exact ⟨fun q => absurd (oc_btw ka q.2) c, fun q => absurd (oc_btw kb q.2) c⟩
  have val : ∀ d : fb_S, ∀ k, (if d 18 k = 2 then (if mf_btw d k (fb_tF i) (fb_tT i) = true then true else false) else false) = decide (d 18 k = 2 ∧ mf_btw d k (fb_tF i) (fb_tT i) = true) := fun d k => by
    by_cases c1 : d 18 k = 2
    · rw [if_pos c1]
      by_cases c2 : mf_btw d k (fb_tF i) (fb_tT i) = true
      · rw [if_pos c2, decide_eq_true ⟨c1, c2⟩]
      · rw [if_neg c2, decide_eq_false (fun q => c2 q.2)]
    · rw [if_neg c1, decide_eq_false (fun q => c1 q.1)]
  intro n
  induction n with
  | zero => exact fun _ => rfl
  | succ n ih =>
    intro hn
    have e := one n (by omega)
    simp only [mf_sends, ih (by omega)]
    rw [val a n, val b n, decide_eq_decide.mpr e]
theorem ready_ag (hi : i < 32) (hfr : fr ≤ 100) (ka : oc_K m a) (kb : oc_K m b) (ag : oc_A m fr i a b) (hH : oc_H m fr i a) (q : Int32) : mf_ready a fr (fb_tF i) (fb_tT i) q = mf_ready b fr (fb_tF i) (fb_tT i) q := by
  have e1 := first_ag hi ka kb ag q fr (Nat.le_refl _)
  have ep : mf_paused a (fb_tF i) (fb_tT i) = mf_paused b (fb_tF i) (fb_tT i) := paused_c ((ka 0 (by decide) 0).trans (kb 0 (by decide) 0).symm) ((ka 4 (by decide) 0).trans (kb 4 (by decide) 0).symm) _ _ ((ka 27 (by decide) _).trans (kb 27 (by decide) _).symm)
  simp only [mf_ready, ← e1, ep, ka 4 (by decide), kb 4 (by decide), ka 16 (by decide), kb 16 (by decide)]
  rcases first_at (a := a) (u := fb_tF i) (v := fb_tT i) (q := q) fr (by omega) with e | ⟨k, hk, e, hh⟩
  · rw [if_pos e, if_pos e]
  · rw [e, fb_nI (by omega)]
    by_cases c8 : (8 : Int32) ≤ fb_tF i
    · have c7 : (7 : Int32) < fb_tF i := (show ∀ i, i < 32 → (8 : Int32) ≤ fb_tF i → (7 : Int32) < fb_tF i by decide +kernel) i hi c8
      rw [if_pos c7, if_pos c7]
    · obtain ⟨h1, h2⟩ := here_at hh
      rw [oc_own (F := 14) (j := fb_n (m 16 k)) hi ag (Or.inr (Or.inr (Or.inr ⟨rfl, c8, hH k hk (oc_btw ka h2) h1 c8⟩)))]
theorem ready_first {u v q : Int32} (h : mf_ready a fr u v q = true) : ¬ mf_first a u v q fr < 0 := fun e => by
  simp only [mf_ready] at h
  rw [if_pos e] at h
  cases h
/-- steps at one port: alike, and nothing else changes -/
theorem steps_ag {A0 A1 : Bool} (hi : i < 32) (hfr : fr ≤ 100) : ∀ n a b, oc_K m a → oc_K m b → oc_A m fr i a b → (∃ t, t < 2 ∧ a 23 (fb_g i) = nI t) → mf_ready a fr (fb_tF i) (fb_tT i) 0 = A0 → mf_ready a fr (fb_tF i) (fb_tT i) 1 = A1 → oc_H m fr i a → oc_A m fr i (mf_steps fr (fb_tF i) (fb_tT i) A0 A1 n a) (mf_steps fr (fb_tF i) (fb_tT i) A0 A1 n b) ∧ ∀ F j, ¬ oc_O m fr i F j → mf_steps fr (fb_tF i) (fb_tT i) A0 A1 n a F j = a F j := by
  intro n
  induction n with
  | zero => exact fun a b _ _ ag _ _ _ _ => ⟨ag, fun _ _ _ => rfl⟩
  | succ n ih =>
    intro a b ka kb ag ht r0 r1 hH
    obtain ⟨t, ht, h23⟩ := ht
    have o23 : oc_O m fr i 23 (fb_g i) := Or.inl ⟨rfl, rfl⟩
    have o24 : ∀ p, p < 2 → oc_O m fr i 24 (2 * fb_g i + p) := fun p hp => Or.inr (Or.inl ⟨rfl, by omega⟩)
    have h23b : b 23 (fb_g i) = nI t := (oc_own hi ag o23).symm.trans h23
    have eC : mf_can a (fb_tF i) (fb_tT i) A0 A1 = ch_A A0 A1 t := by
      show (if a 23 (fb_n (14 * fb_tF i + fb_tT i)) = 0 then A0 else A1) = _
      rw [tb_gi i hi, h23, ch_can ht]
    have eCb : mf_can b (fb_tF i) (fb_tT i) A0 A1 = ch_A A0 A1 t := by
      show (if b 23 (fb_n (14 * fb_tF i + fb_tT i)) = 0 then A0 else A1) = _
      rw [tb_gi i hi, h23b, ch_can ht]
    have e1 := first_ag hi ka kb ag (nI t) fr (Nat.le_refl _)
    have e24 := oc_own hi ag (o24 t ht)
    have ua : mf_steps fr (fb_tF i) (fb_tT i) A0 A1 (n + 1) a = if ch_A A0 A1 t = true then (if a 24 (2 * fb_g i + t) < m 17 (fb_n (mf_first a (fb_tF i) (fb_tT i) (nI t) fr)) then mf_steps fr (fb_tF i) (fb_tT i) A0 A1 n (mf_step (fb_tF i) (fb_tT i) A0 A1 a) else mf_last1 fr (fb_tF i) (fb_tT i) a) else mf_steps fr (fb_tF i) (fb_tT i) A0 A1 n (mf_step (fb_tF i) (fb_tT i) A0 A1 a) := by
      simp only [mf_steps, eC, tb_gi i hi, h23, tb_gt i hi t ht, ka 17 (by decide)]
    have ub : mf_steps fr (fb_tF i) (fb_tT i) A0 A1 (n + 1) b = if ch_A A0 A1 t = true then (if a 24 (2 * fb_g i + t) < m 17 (fb_n (mf_first a (fb_tF i) (fb_tT i) (nI t) fr)) then mf_steps fr (fb_tF i) (fb_tT i) A0 A1 n (mf_step (fb_tF i) (fb_tT i) A0 A1 b) else mf_last1 fr (fb_tF i) (fb_tT i) b) else mf_steps fr (fb_tF i) (fb_tT i) A0 A1 n (mf_step (fb_tF i) (fb_tT i) A0 A1 b) := by
      simp only [mf_steps, eCb, tb_gi i hi, h23b, tb_gt i hi t ht, kb 17 (by decide), ← e1, e24]
    rw [ua, ub]
    have next : oc_A m fr i (mf_steps fr (fb_tF i) (fb_tT i) A0 A1 n (mf_step (fb_tF i) (fb_tT i) A0 A1 a)) (mf_steps fr (fb_tF i) (fb_tT i) A0 A1 n (mf_step (fb_tF i) (fb_tT i) A0 A1 b)) ∧ ∀ F j, ¬ oc_O m fr i F j → mf_steps fr (fb_tF i) (fb_tT i) A0 A1 n (mf_step (fb_tF i) (fb_tT i) A0 A1 a) F j = a F j := by
      obtain ⟨a0, a23, a24⟩ := mstep_f (A0 := A0) (A1 := A1) hi h23 ht
      obtain ⟨b0, b23, b24⟩ := mstep_f (A0 := A0) (A1 := A1) hi h23b ht
      have r := ih (mf_step (fb_tF i) (fb_tT i) A0 A1 a) (mf_step (fb_tF i) (fb_tT i) A0 A1 b) (fun F hF j => (a0 F (by omega) j).trans (ka F hF j)) (fun F hF j => (b0 F (by omega) j).trans (kb F hF j)) (fun F j hno => by
        by_cases f23 : F = 23
        · subst f23
          rw [a23, b23, ag 23 j hno]
        · by_cases f24 : F = 24
          · subst f24
            rw [a24, b24, ag 24 j hno, ka 25 (by decide), kb 25 (by decide)]
          · rw [a0 F ⟨f23, f24⟩, b0 F ⟨f23, f24⟩]
            exact ag F j hno) ⟨1 - t, by omega, by rw [a23, if_pos rfl]⟩ ((ready_c a0).trans r0) ((ready_c a0).trans r1) (fun k hk q1 q2 q3 => hH k hk q1 (by rw [← a0 18 (by decide)]; exact q2) q3)
      refine ⟨r.1, fun F j hno => (r.2 F j hno).trans ?_⟩
      by_cases f23 : F = 23
      · subst f23
        rw [a23, if_neg (fun e => hno (by rw [e]; exact o23))]
      · by_cases f24 : F = 24
        · subst f24
          rw [a24, if_neg (fun e => hno (by rw [e]; exact o24 t ht)), if_neg (fun e => hno (by rw [e]; exact o24 (1 - t) (by omega)))]
        · exact a0 F ⟨f23, f24⟩ j
    by_cases ca : ch_A A0 A1 t = true
    · rw [if_pos ca, if_pos ca]
      by_cases c : a 24 (2 * fb_g i + t) < m 17 (fb_n (mf_first a (fb_tF i) (fb_tT i) (nI t) fr))
      · rw [if_pos c, if_pos c]
        exact next
      · rw [if_neg c, if_neg c]
        have rdy : mf_ready a fr (fb_tF i) (fb_tT i) (nI t) = true := (rA_of r0 r1 t ht).trans ca
        rcases first_at (a := a) (u := fb_tF i) (v := fb_tT i) (q := nI t) fr (by omega) with e | ⟨k, hk, e, hh⟩
        · exact absurd e (ready_first rdy)
        · obtain ⟨k1, kb1⟩ := here_at hh
          have kat := oc_btw ka kb1
          obtain ⟨a0, a18, a21, a14, a24⟩ := last1_f (m := a) (f := fb_n (m 16 k)) (fr := fr) (W := m 4 0 + ((64 * m 17 k + m 10 (fb_n (m 16 k))) - 1) / m 10 (fb_n (m 16 k))) hi (show k < 2 ^ 31 by omega) ht h23 e (by rw [ka 16 (by decide)]) (by rw [ka 4 (by decide), ka 17 (by decide), ka 10 (by decide)])
          obtain ⟨b0, b18, b21, b14, b24⟩ := last1_f (m := b) (f := fb_n (m 16 k)) (fr := fr) (W := m 4 0 + ((64 * m 17 k + m 10 (fb_n (m 16 k))) - 1) / m 10 (fb_n (m 16 k))) hi (show k < 2 ^ 31 by omega) ht h23b (e1.symm.trans e) (by rw [kb 16 (by decide)]) (by rw [kb 4 (by decide), kb 17 (by decide), kb 10 (by decide)])
          refine ⟨fun F j hno => ?_, fun F j hno => ?_⟩
          · by_cases f18 : F = 18
            · subst f18
              rw [a18, b18, ag 18 j hno]
            · by_cases f21 : F = 21
              · subst f21
                rw [a21, b21, ag 21 j hno, ka 4 (by decide), kb 4 (by decide), ka 17 (by decide), kb 17 (by decide)]
              · by_cases f14 : F = 14
                · subst f14
                  rw [a14, b14, ag 14 j hno]
                · by_cases f24 : F = 24
                  · subst f24
                    rw [a24, b24, ag 24 j hno, ka 17 (by decide), kb 17 (by decide)]
                  · rw [a0 F ⟨f18, f21, f14, f24⟩, b0 F ⟨f18, f21, f14, f24⟩]
                    exact ag F j hno
          · by_cases f18 : F = 18
            · subst f18
              rw [a18, if_neg (fun e => hno (by rw [e]; exact Or.inr (Or.inr (Or.inl ⟨Or.inl rfl, hk, kat⟩))))]
            · by_cases f21 : F = 21
              · subst f21
                rw [a21, if_neg (fun e => hno (by rw [e]; exact Or.inr (Or.inr (Or.inl ⟨Or.inr rfl, hk, kat⟩))))]
              · by_cases f14 : F = 14
                · subst f14
                  rw [a14, if_neg (fun e => hno (by rw [e.1]; exact Or.inr (Or.inr (Or.inr ⟨rfl, e.2, hH k hk kat k1 e.2⟩))))]
                · by_cases f24 : F = 24
                  · subst f24
                    rw [a24, if_neg (fun e => hno (by rw [e]; exact o24 t ht))]
                  · exact a0 F ⟨f18, f21, f14, f24⟩ j
    · rw [if_neg ca, if_neg ca]
      exact next
theorem oc_port (hi : i < 32) (hfr : fr ≤ 100) (ag : oc_A m fr i a m) (h23 : ∃ t, t < 2 ∧ m 23 (fb_g i) = nI t) (hH : oc_H m fr i m) : oc_A m fr i (mf_ch1 fr (fb_g i) a) (mf_ch1 fr (fb_g i) m) ∧ ∀ F j, ¬ oc_O m fr i F j → mf_ch1 fr (fb_g i) a F j = a F j := by
  have ka := oc_KA ag
  have km : oc_K m m := fun _ _ _ => rfl
  have hHa : oc_H m fr i a := fun k hk q1 q2 q3 => hH k hk q1 (by rw [← oc_own hi ag (Or.inr (Or.inr (Or.inl ⟨Or.inl rfl, hk, q1⟩)))]; exact q2) q3
  have es := sends_ag hi ka km ag fr (Nat.le_refl _)
  have e0 := ready_ag hi hfr ka km ag hHa 0
  have e1 := ready_ag hi hfr ka km ag hHa 1
  unfold mf_ch1
  rw [(tb_d i hi).2, (tb_d i hi).1, if_pos (tb_is hi), if_pos (tb_is hi), es]
  by_cases c : mf_sends m (fb_tF i) (fb_tT i) fr = true
  · rw [if_pos c, if_pos c]
    exact ⟨ag, fun _ _ _ => rfl⟩
  · rw [if_neg c, if_neg c]
    generalize hA0 : mf_ready m fr (fb_tF i) (fb_tT i) 0 = A0 at e0
    generalize hA1 : mf_ready m fr (fb_tF i) (fb_tT i) 1 = A1 at e1
    rw [choose_eq e0 e1, choose_eq hA0 hA1]
    unfold mf_go
    by_cases c2 : fb_b (mf_more A0 A1) = 0
    · rw [if_pos c2, if_pos c2]
      exact ⟨ag, fun _ _ _ => rfl⟩
    · rw [if_neg c2, if_neg c2]
      obtain ⟨t, ht, e⟩ := h23
      exact steps_ag hi hfr 40 a m ka km ag ⟨t, ht, (oc_own hi ag (Or.inl ⟨rfl, rfl⟩)).trans e⟩ e0 e1 hHa
/-- what a set of ports leaves, in any order -/
def oc_I (m : fb_S) (fr : Nat) (P : Nat → Prop) (x : fb_S) : Prop := ∀ F j, (∀ c, c < 32 → P c → oc_O m fr c F j → x F j = mf_ch1 fr (fb_g c) m F j) ∧ ((∀ c, c < 32 → P c → ¬ oc_O m fr c F j) → x F j = m F j)
theorem oc_step {P P' : Nat → Prop} {x : fb_S} (hfr : fr ≤ 100) (h23 : ∀ c, c < 32 → ∃ t, t < 2 ∧ m 23 (fb_g c) = nI t) (hH : ∀ c, c < 32 → oc_H m fr c m) (h : oc_I m fr P x) (hi : i < 32) (hP : ¬ P i) (hP' : ∀ c, c < 32 → (P' c ↔ (P c ∨ c = i))) : oc_I m fr P' (mf_ch1 fr (fb_g i) x) := by
  have ag : oc_A m fr i x m := fun F j hno => (h F j).2 (fun c hc pc => hno c hc (fun e => hP (e ▸ pc)))
  obtain ⟨g1, g2⟩ := oc_port hi hfr ag (h23 i hi) (hH i hi)
  intro F j
  refine ⟨fun c hc pc oc => ?_, fun hno => ?_⟩
  · by_cases e : c = i
    · subst e
      exact oc_own hi g1 oc
    · rw [g2 F j (fun q => e (oc_uni hi hc q oc).symm)]
      exact (h F j).1 c hc (((hP' c hc).mp pc).resolve_right e) oc
  · rw [g2 F j (hno i hi ((hP' i hi).mpr (Or.inr rfl)))]
    exact (h F j).2 (fun c hc pc => hno c hc ((hP' c hc).mpr (Or.inl pc)))
theorem tb_np : ∀ t, t < 196 → (∃ i, i < 32 ∧ fb_g i = t) ∨ ¬ mf_port (nI t / 14) (nI t - nI t / 14 * 14) = true := by decide +kernel
theorem oc_order (hfr : fr ≤ 100) (h23 : ∀ c, c < 32 → ∃ t, t < 2 ∧ m 23 (fb_g c) = nI t) (hH : ∀ c, c < 32 → oc_H m fr c m) : fb_it (mf_ch1 fr) 196 m = fb_it (fun i => mf_ch1 fr (fb_g i)) 32 m := by
  have i1 : oc_I m fr (fun c => fb_g c < 196) (fb_it (mf_ch1 fr) 196 m) := by
    refine fb_it_inv (f := mf_ch1 fr) (n := 196) (s := m) (I := fun t x => oc_I m fr (fun c => fb_g c < t) x) (fun F j => ⟨fun c _ pc => by omega, fun _ => rfl⟩) (fun t x ht hx => ?_)
    rcases tb_np t ht with ⟨i, hi, e⟩ | np
    · subst e
      refine oc_step hfr h23 hH hx hi (by omega) (fun c hc => ?_)
      constructor
      · intro q
        by_cases e : c = i
        · exact Or.inr e
        · have : fb_g c ≠ fb_g i := fun e2 => e (tb_g c hc i hi e2)
          exact Or.inl (by omega)
      · rintro (q | q)
        · omega
        · rw [q]
          omega
    · have e : mf_ch1 fr t x = x := by
        unfold mf_ch1
        rw [if_neg np]
      rw [e]
      have eq : ∀ c, c < 32 → (fb_g c < t + 1 ↔ fb_g c < t) := fun c hc => by
        have ne : fb_g c ≠ t := fun e => by
          have q := tb_d c hc
          rw [e] at q
          rw [q.2, q.1] at np
          exact np (tb_is hc)
        omega
      intro F j
      refine ⟨fun c hc pc => (hx F j).1 c hc ((eq c hc).mp pc), fun hno => (hx F j).2 (fun c hc pc => hno c hc ((eq c hc).mpr pc))⟩
  have i2 : oc_I m fr (fun c => c < 32) (fb_it (fun i => mf_ch1 fr (fb_g i)) 32 m) := by
    refine fb_it_inv (f := fun i => mf_ch1 fr (fb_g i)) (n := 32) (s := m) (I := fun t x => oc_I m fr (fun c => c < t) x) (fun F j => ⟨fun c _ pc => by omega, fun _ => rfl⟩) (fun t x ht hx => ?_)
    exact oc_step hfr h23 hH hx ht (by omega) (fun c hc => by omega)
  funext F j
  by_cases c : ∃ c, c < 32 ∧ oc_O m fr c F j
  · obtain ⟨c, hc, oc⟩ := c
    rw [(i1 F j).1 c hc (fb_g_lt c hc) oc, (i2 F j).1 c hc hc oc]
  · rw [(i1 F j).2 (fun d hd _ q => c ⟨d, hd, q⟩), (i2 F j).2 (fun d hd _ q => c ⟨d, hd, q⟩)]
end OC
theorem ph4 {fl fr T z : Nat} {s m : fb_S} (h : MID fl fr T 1 1 1 z s m) : MID fl fr T 1 1 1 z (fb_it cf_choose 32 s) (fb_it (mf_ch1 fr) 196 m) ∧ ∀ j, (fb_it (mf_ch1 fr) 196 m 18 j = 4 ↔ m 18 j = 4) := by
  have h0 := h
  obtain ⟨ok, okm, hfl, hfr, hT1, hTb, hpa, hW, hSm, -, Q, hG, hP, hF, hR, hK, hC, hO, hN, hE, hcr, hZ, hJ1, hJ2⟩ := h
  rw [oc_order hfr (fun c hc => by
    obtain ⟨t, ht, e⟩ := t_of (i := c) ok
    exact ⟨t, ht, (hP c hc).1.symm.trans e⟩) (fun c hc k hk kat k1 h8 => by
    obtain ⟨f, hf, ef, enf⟩ := cp_flow ok hfl hk
    have e16 : m 16 k = nI f := (hK k hk).1.symm.trans ef
    obtain ⟨hh, w1, w2, w3, w4, -⟩ := (hK k hk).2.2.2.2.2.2.2 (by rw [k1]; decide)
    rw [enf] at w4
    obtain ⟨i0, hi0, d1, d2, d3, d4, d5⟩ := (hR f hf).2 hh w1 w4
    obtain ⟨q1, q2⟩ := kat
    rw [e16, w2] at q1 q2
    rw [nI_1] at q2
    have : i0 = c := tb_FT hi0 hc (d2.symm.trans q1) (d3.symm.trans q2)
    subst this
    have hz : hh = 0 := by
      rcases Nat.eq_zero_or_pos hh with e | e
      · exact e
      · exact absurd (d5.mpr (by omega)) h8
    subst hz
    rw [← q1, e16]
    exact (if_pos nI_0).symm)]
  exact ch_all h0 32 (Nat.le_refl _)
