/-! arrivals: a frame is received, or dropped -/
theorem count_up {m' m : fb_S} {n k : Nat} {f x : Int32} (h16 : ∀ j, j < n → m' 16 j = m 16 j) (h18 : ∀ j, j < n → j ≠ k → (m' 18 j = x ↔ m 18 j = x)) (ha : ¬ m 18 k = x) (hb : m' 18 k = x) (hf : m 16 k = f) : mf_count m' f x n = if k < n then mf_count m f x n + 1 else mf_count m f x n := by
  induction n with
  | zero => rw [if_neg (by omega)]; rfl
  | succ n ih =>
    have ih := ih (fun j hj => h16 j (by omega)) (fun j hj => h18 j (by omega))
    simp only [mf_count, h16 n (by omega), ih]
    by_cases e : n = k
    · subst e
      rw [if_neg (show ¬ n < n by omega), if_pos (show n < n + 1 by omega), if_pos hf, if_pos hf, if_pos hb, if_neg ha]
    · have e2 := h18 n (by omega) e
      by_cases c : k < n
      · rw [if_pos c, if_pos (show k < n + 1 by omega)]
        by_cases c2 : m 16 n = f
        · rw [if_pos c2, if_pos c2]
          by_cases c3 : m 18 n = x
          · rw [if_pos c3, if_pos (e2.mpr c3)]
          · rw [if_neg c3, if_neg (fun q => c3 (e2.mp q))]
        · rw [if_neg c2, if_neg c2]
      · rw [if_neg c, if_neg (show ¬ k < n + 1 by omega)]
        by_cases c2 : m 16 n = f
        · rw [if_pos c2, if_pos c2]
          by_cases c3 : m 18 n = x
          · rw [if_pos c3, if_pos (e2.mpr c3)]
          · rw [if_neg c3, if_neg (fun q => c3 (e2.mp q))]
        · rw [if_neg c2, if_neg c2]
theorem arrived_c {m' m : fb_S} {n : Nat} (h18 : ∀ j, j < n → (m' 18 j = 4 ↔ m 18 j = 4)) : mf_arrived m' n = mf_arrived m n := by
  induction n with
  | zero => rfl
  | succ n ih =>
    have ih := ih (fun j hj => h18 j (by omega))
    have e := h18 n (by omega)
    simp only [mf_arrived, ih]
    by_cases c : m 18 n = 4
    · rw [if_pos c, if_pos (e.mpr c)]
    · rw [if_neg c, if_neg (fun q => c (e.mp q))]
theorem arrived_up {m' m : fb_S} {n k : Nat} (h18 : ∀ j, j < n → j ≠ k → (m' 18 j = 4 ↔ m 18 j = 4)) (ha : ¬ m 18 k = 4) (hb : m' 18 k = 4) : mf_arrived m' n = if k < n then mf_arrived m n + 1 else mf_arrived m n := by
  induction n with
  | zero => rw [if_neg (by omega)]; rfl
  | succ n ih =>
    have ih := ih (fun j hj => h18 j (by omega))
    simp only [mf_arrived, ih]
    by_cases e : n = k
    · subst e
      rw [if_neg (show ¬ n < n by omega), if_pos (show n < n + 1 by omega), if_pos hb, if_neg ha]
    · have e2 := h18 n (by omega) e
      by_cases c : k < n
      · rw [if_pos c, if_pos (show k < n + 1 by omega)]
        by_cases c3 : m 18 n = 4
        · rw [if_pos c3, if_pos (e2.mpr c3)]
        · rw [if_neg c3, if_neg (fun q => c3 (e2.mp q))]
      · rw [if_neg c, if_neg (show ¬ k < n + 1 by omega)]
        by_cases c3 : m 18 n = 4
        · rw [if_pos c3, if_pos (e2.mpr c3)]
        · rw [if_neg c3, if_neg (fun q => c3 (e2.mp q))]
theorem rcv_iff {m : fb_S} {f : Int32} {k : Nat} : mf_rcv m f k = true ↔ (m 16 k = f ∧ m 18 k = 4) := by
  simp only [mf_rcv]
  by_cases c : m 16 k = f
  · rw [if_pos c]
    by_cases c2 : m 18 k = 4
    · rw [if_pos c2]
      exact ⟨fun _ => ⟨c, c2⟩, fun _ => rfl⟩
    · rw [if_neg c2]
      exact ⟨fun h => (by cases h), fun h => absurd h.2 c2⟩
  · rw [if_neg c]
    exact ⟨fun h => (by cases h), fun h => absurd h.1 c⟩
/-- the one received last -/
theorem last_new {m : fb_S} {f : Int32} {k : Nat} (hF : mf_isF m f = true) (hk : m 16 k = f ∧ m 18 k = 4) : ∀ n, n < 2 ^ 31 → (∀ j, j < n → j ≠ k → m 16 j = f → m 18 j = 4 → m 21 j < m 21 k) → (mf_last m f n < 0 ∨ (fb_n (mf_last m f n) < n ∧ mf_rcv m f (fb_n (mf_last m f n)) = true)) ∧ (k < n → mf_last m f n = nI k) := by
  intro n
  induction n with
  | zero => intro _ _; exact ⟨Or.inl fb_m1, fun h => by omega⟩
  | succ n ih =>
    intro hn hlt
    obtain ⟨i1, i2⟩ := ih (by omega) (fun j hj => hlt j (by omega))
    simp only [mf_last]
    rw [if_pos hF]
    by_cases cr : mf_rcv m f n = true
    · rw [if_pos cr]
      by_cases c : mf_last m f n < 0
      · rw [if_pos c, fb_nI (by omega)]
        refine ⟨Or.inr ⟨by omega, cr⟩, fun h => ?_⟩
        by_cases e : k = n
        · rw [e]
        · have := i2 (by omega)
          rw [this] at c
          exact absurd c (nI_pos (by omega))
      · rw [if_neg c]
        obtain ⟨j1, j2⟩ := i1.resolve_left c
        obtain ⟨r1, r2⟩ := rcv_iff.mp cr
        by_cases e : k = n
        · subst e
          have hne : ¬ m 21 k ≤ m 21 (fb_n (mf_last m f k)) := by
            obtain ⟨y1, y2⟩ := rcv_iff.mp j2
            exact Int32.not_le.mpr (hlt _ (by omega) (by omega) y1 y2)
          rw [if_neg hne, fb_nI (by omega)]
          exact ⟨Or.inr ⟨by omega, cr⟩, fun _ => rfl⟩
        · by_cases c3 : m 21 n ≤ m 21 (fb_n (mf_last m f n))
          · rw [if_pos c3]
            exact ⟨Or.inr ⟨by omega, j2⟩, fun h => i2 (by omega)⟩
          · rw [if_neg c3, fb_nI (by omega)]
            refine ⟨Or.inr ⟨by omega, cr⟩, fun h => ?_⟩
            exfalso
            have hkn : k < n := by omega
            rw [i2 hkn, fb_nI (by omega)] at c3
            have := hlt n (by omega) (Ne.symm e) r1 r2
            exact c3 (Int32.le_of_lt this)
    · rw [if_neg cr]
      refine ⟨?_, fun h => ?_⟩
      · rcases i1 with q | ⟨q1, q2⟩
        · exact Or.inl q
        · exact Or.inr ⟨by omega, q2⟩
      · by_cases e : k = n
        · subst e
          exact absurd (rcv_iff.mpr hk) cr
        · exact i2 (by omega)
theorem tb_host : ∀ i, i < 32 → (cf_host (fb_tT i) = true ↔ ¬ (8 : Int32) ≤ fb_tT i) := by decide +kernel
section RECV
variable {fl fr T z n k : Nat} {x M : fb_S}
/-- the flows' last ports: of what was received now, a port before n -/
def ar_L (fr T n : Nat) (x M : fb_S) : Prop := ∀ a, a < fr → M 18 a = 4 → M 21 a = nI T → ∃ i, i < n ∧ x 33 (4 * fb_n (M 16 a) + (fb_n (x 34 (fb_n (M 16 a))) - 1)) = nI i
/-- the class's queues where the wire's first goes away for good -/
theorem dv_C {x' : fb_S} {Q : Nat → List Nat} {L : List Nat} {M' : fb_S} (ok : fb_okC fl fr x) (hfr : fr ≤ 100) (hn : n < 32) (hk : k < fr) (e19 : x 19 (3 * n + 2) = nI k) (hC : cp_C fr x Q) (hL : Q (3 * n + 2) = k :: L) (fs : FS k x M x' M') (clc : fb_lc x k = 3 * n + 2) (chb : fb_hb x k = 200) (h38 : x' 38 k = 4 ∨ x' 38 k = 5) (q : ∀ F, (F = 19 ∨ F = 20 ∨ F = 21 ∨ F = 44) → ∀ j, x' F j = cf_rem (3 * n + 2) x F j) (q13 : ∀ j, x' 13 j = x 13 j) (q18 : ∀ j, x' 18 j = x 18 j) : cp_C fr x' (fb_Qu Q (3 * n + 2) L) := by
  have ln := fb_lnI ok hk
  unfold cp_C
  rw [fs_lc fs (lc_no h38), fs_hb fs (hb_no (Or.inr h38)), fs_ln fs, cu_id chb]
  refine ⟨ci_q_rem hC.1 hfr (by omega) hL (by omega) (q 19 (by omega)) (q 20 (by omega)) (q 44 (by omega)), fun j hj => ?_, fun i hi a ha => ?_, fun j hj => ?_⟩
  · refine sm_mv hk (hC.2.1 j hj) (fun e => by omega) ?_
    rw [q 21 (by omega), cf_rem_21 e19 (by omega), ← ln.1, clc, if_neg (show ¬ 200 = j by omega)]
    by_cases e : j = 3 * n + 2
    · rw [if_pos e, if_pos e.symm, e]
    · rw [if_neg e, if_neg (Ne.symm e)]
  · rw [q13, hC.2.2.1 i hi a ha]
    unfold fb_cu
    by_cases e : a = k
    · rw [if_pos e, e, clc]
      exact ⟨fun e => by omega, fun e => by omega⟩
    · rw [if_neg e]
  · rw [q18]
    exact hC.2.2.2 j hj
theorem dv_O {x' M' : fb_S} {Q : Nat → List Nat} {L : List Nat} (hn : n < 32) (hO : cp_O fr x M Q) (hL : Q (3 * n + 2) = k :: L) (q43 : ∀ j, x' 43 j = x 43 j) (q20 : ∀ j, M' 20 j = M 20 j) (q5 : M' 5 0 = M 5 0) : cp_O fr x' M' (fb_Qu Q (3 * n + 2) L) := by
  refine ⟨fun a ha => by rw [q20, q5]; exact hO.1 a ha, fun i p hi hp => ?_, fun i hi => ?_⟩
  · have e : fb_Qu Q (3 * n + 2) L (3 * i + p) = Q (3 * i + p) := if_neg (by omega)
    rw [e]
    exact pw_c (fun a _ => q20 a) (hO.2.1 i p hi hp)
  · by_cases ei : i = n
    · subst ei
      have e : fb_Qu Q (3 * i + 2) L (3 * i + 2) = L := if_pos rfl
      rw [e]
      have := hO.2.2 i hi
      rw [hL] at this
      exact pw_c (fun a _ => q43 a) (List.pairwise_cons.mp this).2
    · have e : fb_Qu Q (3 * n + 2) L (3 * i + 2) = Q (3 * i + 2) := if_neg (by omega)
      rw [e]
      exact pw_c (fun a _ => q43 a) (hO.2.2 i hi)
theorem dv_receive (h : MID fl fr T 1 0 1 z x M) (hn : n < 32) (hk : k < fr) (e19 : x 19 (3 * n + 2) = nI k) (e43 : x 43 k = x 6 0) (hl : ar_L fr T n x M) (hh : ¬ (8 : Int32) ≤ fb_tT n) : FS k x M (cf_deliver n x) (mf_arrive fr k (fb_tF n) (fb_tT n) M) ∧ mf_arrive fr k (fb_tF n) (fb_tT n) M 18 k = 4 ∧ MID fl fr T 1 0 1 z (cf_deliver n x) (mf_arrive fr k (fb_tF n) (fb_tT n) M) ∧ x 33 (4 * fb_n (M 16 k) + (fb_n (x 34 (fb_n (M 16 k))) - 1)) = nI n ∧ cf_deliverA n x = 1 := by
  have h0 := h
  obtain ⟨k38, e18, hloc, clc, chb, h43, f, ht, hf, ef, enf, e16, ht4, w2, w3, w4, e33, ndT, h8⟩ := dv_pre h hn hk e19
  obtain ⟨ok, okm, hfl, hfr, hT1, hTb, hpa, hW, hSm, ⟨o, o1, o2⟩, Q, hG, hP, hF, hR, hK, hC, hO, hN, hE, hcr, hZ, hJ1, hJ2⟩ := h
  obtain ⟨L, hL⟩ := q_head hC.1 hfr (j := 3 * n + 2) (by omega) hk e19
  have hm4 : M 4 0 = nI T := okm 4 0 rfl
  have nk : fb_n (nI k) = k := fb_nI (by omega)
  have x11 : x 11 n = fb_tT n := ok 11 n hn
  have e34 : x 34 f = nI (ht + 1) := by
    have a : ¬ nI (ht + 1) < x 34 f := fun q => hh (h8.mpr q)
    have b : x 34 f = 2 ∨ x 34 f = 4 := ok 34 f hf
    have hc : ∀ t, t < 4 → ∀ u : Int32, (u = 2 ∨ u = 4) → nI t < u → ¬ nI (t + 1) < u → u = nI (t + 1) := by
      intro t ht u hu
      rcases hu with rfl | rfl
      · revert t; decide
      · revert t; decide
    exact hc ht ht4 _ b w4 a
  have eend : M 19 k + 1 = mf_end M (M 16 k) := by
    rw [w2, nI_1, e16, ← (hR f hf).1, e34]
  have okD := ok_deliver (i := n) hn ok hfr
  have eD : cf_deliver n x = cf_receive k (fb_up (cf_rem (3 * n + 2) x) 39 k (fb_tT n)) := by
    simp only [cf_deliver]
    rw [e19, if_neg (nI_pos (by omega)), nk, if_pos e43, fb_up_F (cf_rem (3 * n + 2) x) _ _ _ (show (11 : Nat) ≠ 39 by decide), rem_k (by decide), x11, if_pos ((tb_host n hn).mpr hh)]
  have eA : cf_deliverA n x = 1 := by
    simp only [cf_deliverA]
    rw [e19, if_neg (nI_pos (by omega)), nk, if_pos e43, fb_up_F (cf_rem (3 * n + 2) x) _ _ _ (show (11 : Nat) ≠ 39 by decide), rem_k (by decide), x11, if_pos ((tb_host n hn).mpr hh)]
  have eM : mf_arrive fr k (fb_tF n) (fb_tT n) M = fb_up (fb_up (fb_up M 19 k (nI (ht + 1))) 18 k 4) 21 k (nI T) := by
    simp only [mf_arrive]
    rw [if_pos eend, w2, nI_1, fb_up_F _ _ _ _ (show (4 : Nat) ≠ 18 by decide), fb_up_F _ _ _ _ (show (4 : Nat) ≠ 19 by decide), hm4]
  rw [eD] at okD
  rw [eD, eM]
  -- the class's fields
  have y0 : ∀ F, (F ≠ 39) → ∀ j, fb_up (cf_rem (3 * n + 2) x) 39 k (fb_tT n) F j = cf_rem (3 * n + 2) x F j := fun F hF j => fb_up_F _ _ _ _ hF
  have y36 : fb_n (fb_up (cf_rem (3 * n + 2) x) 39 k (fb_tT n) 36 k) = f := by rw [y0 36 (by decide), rem_k (by decide), enf]
  have r1 : ∀ F, (F ≠ 38 ∧ F ≠ 30 ∧ F ≠ 32 ∧ F ≠ 28 ∧ F ≠ 39) → ∀ j, cf_receive k (fb_up (cf_rem (3 * n + 2) x) 39 k (fb_tT n)) F j = cf_rem (3 * n + 2) x F j := fun F hF j => by
    simp only [cf_receive]
    split
    · rw [fb_up_F _ _ _ _ hF.2.2.1, fb_up_F _ _ _ _ hF.2.1, fb_up_F _ _ _ _ hF.1, y0 F hF.2.2.2.2]
    · rw [fb_up_F _ _ _ _ hF.2.2.2.1, fb_up_F _ _ _ _ hF.2.2.1, fb_up_F _ _ _ _ hF.2.1, fb_up_F _ _ _ _ hF.1, y0 F hF.2.2.2.2]
  have r2 : ∀ F, (F ≠ 38 ∧ F ≠ 30 ∧ F ≠ 32 ∧ F ≠ 28 ∧ F ≠ 39 ∧ F ≠ 19 ∧ F ≠ 20 ∧ F ≠ 21 ∧ F ≠ 44) → ∀ j, cf_receive k (fb_up (cf_rem (3 * n + 2) x) 39 k (fb_tT n)) F j = x F j := fun F hF j => (r1 F (by omega) j).trans (rem_k (by omega))
  have r38 : ∀ j, cf_receive k (fb_up (cf_rem (3 * n + 2) x) 39 k (fb_tT n)) 38 j = if j = k then 4 else x 38 j := fun j => by
    have a : ∀ (s : fb_S), fb_up (fb_up (fb_up s 38 k 4) 30 f (s 30 f + 1)) 32 f (s 35 k) 38 j = if j = k then 4 else s 38 j := fun s => by
      rw [fb_up_F _ _ _ _ (by decide), fb_up_F _ _ _ _ (by decide)]
      by_cases e : j = k
      · rw [e, fb_up_same, if_pos rfl]
      · rw [fb_up_i _ _ _ _ e, if_neg e]
    simp only [cf_receive, y36]
    have e38 : fb_up (cf_rem (3 * n + 2) x) 39 k (fb_tT n) 38 j = x 38 j := by rw [y0 38 (by decide), rem_k (by decide)]
    split
    · rw [fb_up_F _ _ _ _ (by decide), fb_up_F _ _ _ _ (by decide)]
      by_cases e : j = k
      · rw [e, fb_up_same, if_pos rfl]
      · rw [fb_up_i _ _ _ _ e, if_neg e, e38]
    · rw [fb_up_F _ _ _ _ (by decide), fb_up_F _ _ _ _ (by decide), fb_up_F _ _ _ _ (by decide)]
      by_cases e : j = k
      · rw [e, fb_up_same, if_pos rfl]
      · rw [fb_up_i _ _ _ _ e, if_neg e, e38]
  have r39 : ∀ j, cf_receive k (fb_up (cf_rem (3 * n + 2) x) 39 k (fb_tT n)) 39 j = if j = k then fb_tT n else x 39 j := fun j => by
    have e39 : fb_up (cf_rem (3 * n + 2) x) 39 k (fb_tT n) 39 j = if j = k then fb_tT n else x 39 j := by
      by_cases e : j = k
      · rw [e, fb_up_same, if_pos rfl]
      · rw [fb_up_i _ _ _ _ e, if_neg e, rem_k (by decide)]
    simp only [cf_receive, y36]
    split
    · rw [fb_up_F _ _ _ _ (by decide), fb_up_F _ _ _ _ (by decide), fb_up_F _ _ _ _ (by decide), e39]
    · rw [fb_up_F _ _ _ _ (by decide), fb_up_F _ _ _ _ (by decide), fb_up_F _ _ _ _ (by decide), fb_up_F _ _ _ _ (by decide), e39]
  have r30 : ∀ j, cf_receive k (fb_up (cf_rem (3 * n + 2) x) 39 k (fb_tT n)) 30 j = if j = f then x 30 f + 1 else x 30 j := fun j => by
    have e30 : ∀ j, fb_up (fb_up (cf_rem (3 * n + 2) x) 39 k (fb_tT n)) 38 k 4 30 j = x 30 j := fun j => by rw [fb_up_F _ _ _ _ (by decide), y0 30 (by decide), rem_k (by decide)]
    simp only [cf_receive, y36]
    split
    · rw [fb_up_F _ _ _ _ (by decide)]
      by_cases e : j = f
      · rw [e, fb_up_same, if_pos rfl, e30]
      · rw [fb_up_i _ _ _ _ e, if_neg e, e30]
    · rw [fb_up_F _ _ _ _ (by decide), fb_up_F _ _ _ _ (by decide)]
      by_cases e : j = f
      · rw [e, fb_up_same, if_pos rfl, e30]
      · rw [fb_up_i _ _ _ _ e, if_neg e, e30]
  have r32 : ∀ j, cf_receive k (fb_up (cf_rem (3 * n + 2) x) 39 k (fb_tT n)) 32 j = if j = f then nI k else x 32 j := fun j => by
    have e35 : ∀ w, fb_up (fb_up (fb_up (cf_rem (3 * n + 2) x) 39 k (fb_tT n)) 38 k 4) 30 f w 35 k = nI k := fun w => by rw [fb_up_F _ _ _ _ (by decide), fb_up_F _ _ _ _ (by decide), y0 35 (by decide), rem_k (by decide), (hK k hk).2.2.2.2.1]
    have e32 : ∀ w j, fb_up (fb_up (fb_up (cf_rem (3 * n + 2) x) 39 k (fb_tT n)) 38 k 4) 30 f w 32 j = x 32 j := fun w j => by rw [fb_up_F _ _ _ _ (by decide), fb_up_F _ _ _ _ (by decide), y0 32 (by decide), rem_k (by decide)]
    simp only [cf_receive, y36]
    split
    · by_cases e : j = f
      · rw [e, fb_up_same, if_pos rfl, e35]
      · rw [fb_up_i _ _ _ _ e, if_neg e, e32]
    · rw [fb_up_F _ _ _ _ (by decide)]
      by_cases e : j = f
      · rw [e, fb_up_same, if_pos rfl, e35]
      · rw [fb_up_i _ _ _ _ e, if_neg e, e32]
  have r28 : ∀ j, cf_receive k (fb_up (cf_rem (3 * n + 2) x) 39 k (fb_tT n)) 28 j = if j = f ∧ ¬ M 22 k = 0 then 1 else x 28 j := fun j => by
    have e40 : ∀ w w', fb_up (fb_up (fb_up (fb_up (cf_rem (3 * n + 2) x) 39 k (fb_tT n)) 38 k 4) 30 f w) 32 f w' 40 k = M 22 k := fun w w' => by rw [fb_up_F _ _ _ _ (by decide), fb_up_F _ _ _ _ (by decide), fb_up_F _ _ _ _ (by decide), y0 40 (by decide), rem_k (by decide), (hK k hk).2.2.2.1]
    have e28 : ∀ w w' j, fb_up (fb_up (fb_up (fb_up (cf_rem (3 * n + 2) x) 39 k (fb_tT n)) 38 k 4) 30 f w) 32 f w' 28 j = x 28 j := fun w w' j => by rw [fb_up_F _ _ _ _ (by decide), fb_up_F _ _ _ _ (by decide), fb_up_F _ _ _ _ (by decide), y0 28 (by decide), rem_k (by decide)]
    simp only [cf_receive, y36, e40]
    by_cases c : M 22 k = 0
    · rw [if_pos c, if_neg (fun q => q.2 c), e28]
    · rw [if_neg c]
      by_cases e : j = f
      · rw [e, fb_up_same, if_pos ⟨rfl, c⟩]
      · rw [fb_up_i _ _ _ _ e, if_neg (fun q => e q.1), e28]
  have t0 : ∀ F, (F ≠ 18 ∧ F ≠ 19 ∧ F ≠ 21) → ∀ j, fb_up (fb_up (fb_up M 19 k (nI (ht + 1))) 18 k 4) 21 k (nI T) F j = M F j := fun F hF j => by
    rw [fb_up_F _ _ _ _ hF.2.2, fb_up_F _ _ _ _ hF.1, fb_up_F _ _ _ _ hF.2.1]
  have tk : ∀ F j, j ≠ k → fb_up (fb_up (fb_up M 19 k (nI (ht + 1))) 18 k 4) 21 k (nI T) F j = M F j := fun F j hj => by
    rw [fb_up_i _ _ _ _ hj, fb_up_i _ _ _ _ hj, fb_up_i _ _ _ _ hj]
  have t18 : fb_up (fb_up (fb_up M 19 k (nI (ht + 1))) 18 k 4) 21 k (nI T) 18 k = 4 := by rw [fb_up_F _ _ _ _ (by decide), fb_up_same]
  have t21 : fb_up (fb_up (fb_up M 19 k (nI (ht + 1))) 18 k 4) 21 k (nI T) 21 k = nI T := fb_up_same _ _ _ _
  have t19 : fb_up (fb_up (fb_up M 19 k (nI (ht + 1))) 18 k 4) 21 k (nI T) 19 k = nI (ht + 1) := by rw [fb_up_F _ _ _ _ (by decide), fb_up_F _ _ _ _ (by decide), fb_up_same]
  have okM' : fb_okM fl fr T (fb_up (fb_up (fb_up M 19 k (nI (ht + 1))) 18 k 4) 21 k (nI T)) := fb_okM_up (fb_okM_up (fb_okM_up okm trivial) trivial) trivial
  generalize cf_receive k (fb_up (cf_rem (3 * n + 2) x) 39 k (fb_tT n)) = x' at *
  generalize fb_up (fb_up (fb_up M 19 k (nI (ht + 1))) 18 k 4) 21 k (nI T) = M' at *
  have fs : FS k x M x' M' := ⟨fun F hF j => r2 F (by omega) j, fun F hF j => t0 F (by omega) j, fun F hF j hj => by
      by_cases e1 : F = 38
      · subst e1
        rw [r38, if_neg hj]
      · by_cases e2 : F = 39
        · subst e2
          rw [r39, if_neg hj]
        · exact r2 F (by omega) j, fun F hF j hj => tk F j hj⟩
  have k4 : x' 38 k = 4 := (r38 k).trans (if_pos rfl)
  have port : x 33 (4 * fb_n (M 16 k) + (fb_n (x 34 (fb_n (M 16 k))) - 1)) = nI n := by
    rw [e16, fb_nI (by omega), e34, fb_nI (by omega), Nat.add_sub_cancel]
    exact e33
  have s18 : ∀ j, j ≠ k → (M' 18 j = 4 ↔ M 18 j = 4) := fun j hj => by rw [tk 18 j hj]
  refine ⟨fs, t18, ?_, port, eA⟩
  refine fs_M (k := k) (Q' := fb_Qu Q (3 * n + 2) L) h0 fs (fun j _ => t0 22 (by omega) j) okD okM' ?_ ?_ ⟨o, by rw [t0 5 (by omega)]; exact o1, o2⟩ ?_ ?_ (fun f _ => t0 14 (by omega) f) ?_ (dv_C ok hfr hn hk e19 hC hL fs clc chb (Or.inl k4) (fun F hF j => r1 F (by omega) j) (r2 13 (by omega)) (r2 18 (by omega))) (dv_O hn hO hL (r2 43 (by omega)) (t0 20 (by omega)) (t0 5 (by omega) 0)) ?_ ?_ (fun _ => by rw [e18]; decide) (fun _ _ => t21)
  · exact fs_W fs hW ⟨fun e => by rw [t18] at e; exact absurd e (by decide), fun e => by rw [t18] at e; exact absurd e (by decide), fun _ => ⟨T, t21, hT1, by omega⟩⟩
  · intro g hg
    rw [r28 g]
    have old := hSm g hg
    constructor
    · intro q
      by_cases c : g = f ∧ ¬ M 22 k = 0
      · refine ⟨k, hk, ?_, t18, ?_, t21⟩
        · rw [t0 16 (by omega), e16, c.1]
        · rw [t0 22 (by omega)]
          exact c.2
      · rw [if_neg c] at q
        obtain ⟨a, ha, b1, b2, b3, b4⟩ := old.mp q
        have e : a ≠ k := fun e => by rw [e, e18] at b2; exact absurd b2 (by decide)
        exact ⟨a, ha, by rw [tk _ a e]; exact b1, by rw [tk _ a e]; exact b2, by rw [tk _ a e]; exact b3, by rw [tk _ a e]; exact b4⟩
    · rintro ⟨a, ha, b1, b2, b3, b4⟩
      by_cases e : a = k
      · subst e
        rw [t0 16 (by omega), e16] at b1
        rw [t0 22 (by omega)] at b3
        have : f = g := (nI_eq (by omega) (by omega)).mp b1
        rw [if_pos ⟨this.symm, b3⟩]
        decide
      · rw [tk _ a e] at b1 b2 b3 b4
        by_cases c : g = f ∧ ¬ M 22 k = 0
        · rw [if_pos c]
          decide
        · rw [if_neg c]
          exact old.mpr ⟨a, ha, b1, b2, b3, b4⟩
  · intro c hc
    rw [r2 12 (by omega), r2 17 (by omega), r2 17 (by omega), r2 14 (by omega), t0 23 (by omega), t0 24 (by omega), t0 24 (by omega), t0 26 (by omega)]
    exact hP c hc
  · intro g hg
    rw [r2 27 (by omega), t0 14 (by omega)]
    exact (hF g hg).2.2.2.2.2
  · refine fs_K fs hK (k4.trans t18.symm) ?_ ?_ (Or.inr (Or.inr (Or.inr (Or.inl t18)))) (fun e => by rw [t18] at e; exact absurd e (by decide))
    · rw [r2 40 (by omega), t0 22 (by omega)]
      exact (hK k hk).2.2.2.1
    · rw [r39, if_pos rfl, t19, e16, ndT]
  · intro g hg
    have F5 : mf_count M' (nI g) 5 fr = mf_count M (nI g) 5 fr := count_k (fun j _ => t0 16 (by omega) j) (fun j _ => by
      by_cases e : j = k
      · rw [e, t18, e18]
        decide
      · rw [tk 18 j e]) _
    rw [r30, r32, r2 31 (by omega), F5]
    by_cases e : g = f
    · subst e
      rw [if_pos rfl, if_pos rfl, count_up (k := k) (fun j _ => t0 16 (by omega) j) (fun j _ hj => s18 j hj) (by rw [e18]; decide) t18 e16, if_pos hk, (hN g hg).1]
      refine ⟨rfl, (hN g hg).2.1, ?_⟩
      have isF : mf_isF M' (nI g) = true := by
        unfold mf_isF
        rw [if_neg (nI_pos (by omega)), t0 6 (by omega), show M 6 0 = nI fl from okm 6 0 rfl, if_neg (nI_ge hg (by omega))]
      refine ((last_new isF ⟨by rw [t0 16 (by omega)]; exact e16, t18⟩ fr (by omega) (fun j hj hne b1 b2 => ?_)).2 hk).symm
      rw [tk _ j hne] at b1 b2
      rw [tk _ j hne, t21]
      obtain ⟨w, y1, y2, y3⟩ := (hW j hj).2.2 b2
      have : w ≠ T := fun ew => by
        obtain ⟨i, hi, ei⟩ := hl j hj b2 (by rw [y1, ew])
        rw [b1, ← e16, port] at ei
        have := (nI_eq (by omega) (by omega)).mp ei
        omega
      rw [y1]
      exact nI_lt (by omega) (by omega)
    · have ne : ∀ j, M 16 j = nI g → j ≠ k := fun j q q2 => by
        rw [q2, e16] at q
        exact e ((nI_eq (by omega) (by omega)).mp q).symm
      have c4 : mf_count M' (nI g) 4 fr = mf_count M (nI g) 4 fr := by
        have key : ∀ t, mf_count M' (nI g) 4 t = mf_count M (nI g) 4 t := by
          intro t
          induction t with
          | zero => rfl
          | succ t ih =>
            simp only [mf_count, t0 16 (by omega), ih]
            by_cases c : M 16 t = nI g
            · rw [tk 18 t (ne t c)]
            · rw [if_neg c, if_neg c]
        exact key fr
      rw [if_neg e, if_neg e, c4, (last_k (t0 6 (by omega) 0) (fun j _ => t0 16 (by omega) j) (fun j _ q => s18 j (ne j q)) (fun j _ q => tk 21 j (fun e => by rw [e, e18] at q; exact absurd q (by decide))) (by omega)).1]
      exact hN g hg
  · intro j hj
    rw [r2 17 (by omega), r2 12 (by omega)]
    exact hcr j hj
end RECV
