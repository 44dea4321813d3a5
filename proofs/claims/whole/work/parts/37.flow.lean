/-! flow: pure -/
theorem host_iff (u : Int32) : cf_host u = true ↔ (¬ u < 0 ∧ ¬ 7 < u) := by
  unfold cf_host
  by_cases c0 : u < 0
  · rw [if_pos c0]
    exact ⟨fun h => (by cases h), fun h => absurd c0 h.1⟩
  · rw [if_neg c0]
    by_cases c8 : 8 ≤ u
    · rw [if_pos c8]
      refine ⟨fun h => (by cases h), fun h => absurd ?_ h.2⟩
      have a := Int32.le_iff_toInt_le.mp c8
      refine Int32.lt_iff_toInt_lt.mpr ?_
      have e8 : (8 : Int32).toInt = 8 := by decide
      have e7 : (7 : Int32).toInt = 7 := by decide
      omega
    · rw [if_neg c8]
      refine ⟨fun _ => ⟨c0, fun h => c8 ?_⟩, fun _ => rfl⟩
      have a := Int32.lt_iff_toInt_lt.mp h
      refine Int32.le_iff_toInt_le.mpr ?_
      have e8 : (8 : Int32).toInt = 8 := by decide
      have e7 : (7 : Int32).toInt = 7 := by decide
      omega
theorem prio_iff2 (q : Int32) : cf_prio q = true ↔ (¬ q < 0 ∧ ¬ 1 < q) := by
  rw [prio_iff]
  constructor
  · rintro (rfl | rfl) <;> decide
  · rintro ⟨a, b⟩
    exact fb_01 a b
/-- the nodes of a route: start a, goal b, spine w -/
def rt_n (a b : Nat) (w : Int32) (h : Nat) : Int32 := if h = 0 then nI a else if nI h = (if nI a / 2 = nI b / 2 then 2 else 4) then nI b else if h = 2 then w else if h = 1 then 8 + nI a / 2 else 8 + nI b / 2
def rt_e (a b : Nat) : Int32 := if nI a / 2 = nI b / 2 then 2 else 4
def rt_ok (a b : Nat) (w : Int32) (h : Nat) : Bool := (List.range 32).any (fun i => decide (rt_n a b w h = fb_tF i) && decide (rt_n a b w (h + 1) = fb_tT i) && (decide (8 ≤ fb_tT i) == decide (nI (h + 1) < rt_e a b)) && (decide (8 ≤ fb_tF i) == decide (h ≠ 0)))
theorem rt_all0 : ∀ a, a < 8 → ∀ b, b < 8 → ∀ h, h < 4 → (decide (a = b) || !(decide (nI h < rt_e a b)) || (rt_ok a b (nI 12) h && rt_ok a b (nI 13) h)) = true := by decide +kernel
theorem rt_all (a : Nat) (ha : a < 8) (b : Nat) (hb : b < 8) (hab : a ≠ b) (h : Nat) (hh : h < 4) (hl : nI h < rt_e a b) : rt_ok a b (nI 12) h = true ∧ rt_ok a b (nI 13) h = true := by
  have e := rt_all0 a ha b hb h hh
  rw [decide_eq_false hab, decide_eq_true hl] at e
  simpa using e
theorem rt_leaf : ∀ a, a < 8 → ∀ b, b < 8 → ((cf_leaf (nI a) = cf_leaf (nI b)) ↔ nI a / 2 = nI b / 2) := by decide +kernel
theorem rt_spine : ∀ f, f < 12 → (cf_spine (nI f) = 12 + (mf_ones (nI f) - mf_ones (nI f) / 2 * 2)) ∧ (cf_spine (nI f) = nI 12 ∨ cf_spine (nI f) = nI 13) := by decide +kernel
theorem rt_lt : ∀ a, a < 8 → ∀ b, b < 8 → ∀ h, h < 4 → (nI h < rt_e a b ↔ h < cf_rtN (nI a) (nI b)) := by decide +kernel
theorem rt_eN : ∀ a, a < 8 → ∀ b, b < 8 → rt_e a b = nI (cf_rtN (nI a) (nI b)) := by decide +kernel
theorem rt_pb {s : fb_S} {f a b h : Nat} (ha : a < 8) (hb : b < 8) (hh : h < cf_rtN (nI a) (nI b)) : cf_rt s (nI f) (nI a) (nI b) h = cf_pb s (rt_n a b (cf_spine (nI f)) h) (rt_n a b (cf_spine (nI f)) (h + 1)) 32 0 := by
  have e2 : ∀ x : Int32, (8 : Int32) + x / 2 = cf_leaf x := fun _ => rfl
  unfold cf_rtN at hh
  unfold cf_rt rt_n
  by_cases c : cf_leaf (nI a) = cf_leaf (nI b)
  · have c2 := (rt_leaf a ha b hb).mp c
    rw [if_pos c] at hh
    rw [if_pos c, if_pos c2]
    rcases (show h = 0 ∨ h = 1 by omega) with rfl | rfl
    · rw [if_pos rfl, if_pos rfl, if_neg (by decide), if_neg (by decide), if_neg (by decide), if_pos rfl, e2]
    · rw [if_neg (by decide), if_pos rfl, if_neg (by decide), if_neg (by decide), if_neg (by decide), if_pos rfl, if_neg (by decide), if_pos (by decide), e2]
  · have c2 : ¬ nI a / 2 = nI b / 2 := fun h => c ((rt_leaf a ha b hb).mpr h)
    rw [if_neg c] at hh
    rw [if_neg c, if_neg c2]
    rcases (show h = 0 ∨ h = 1 ∨ h = 2 ∨ h = 3 by omega) with rfl | rfl | rfl | rfl
    · rw [if_pos rfl, if_pos rfl, if_neg (by decide), if_neg (by decide), if_neg (by decide), if_pos rfl, e2]
    · rw [if_neg (by decide), if_pos rfl, if_neg (by decide), if_neg (by decide), if_neg (by decide), if_pos rfl, if_neg (by decide), if_neg (by decide), if_pos rfl, e2]
    · rw [if_neg (by decide), if_neg (by decide), if_pos rfl, if_neg (by decide), if_neg (by decide), if_pos rfl, if_neg (by decide), if_neg (by decide), if_neg (by decide), if_neg (by decide), e2]
    · rw [if_neg (by decide), if_neg (by decide), if_neg (by decide), if_pos rfl, if_neg (by decide), if_neg (by decide), if_neg (by decide), if_neg (by decide), if_neg (by decide), if_pos (by decide), e2]
theorem rt_node {m : fb_S} {f a b : Nat} (hf : f < 12) (h7 : m 7 f = nI a) (h8 : m 8 f = nI b) (h : Nat) (hh : h < 5) : mf_node m (nI f) (nI h) = rt_n a b (cf_spine (nI f)) h := by
  have e0 : nI h = 0 ↔ h = 0 := by rw [show (0 : Int32) = nI 0 from rfl, nI_eq (by omega) (by omega)]
  have e2 : nI h = 2 ↔ h = 2 := by rw [show (2 : Int32) = nI 2 from rfl, nI_eq (by omega) (by omega)]
  have e1 : nI h = 1 ↔ h = 1 := by rw [show (1 : Int32) = nI 1 from rfl, nI_eq (by omega) (by omega)]
  unfold mf_node rt_n mf_end
  rw [fb_nI (by omega), h7, h8, (rt_spine f hf).1]
  simp only [e0, e1, e2]
/-- a new flow's route is as the reference has it -/
theorem rt_new {fl fr : Nat} {s m : fb_S} (ok : fb_okC fl fr s) {f a b : Nat} (hf : f < 12) (ha : a < 8) (hb : b < 8) (hab : a ≠ b) (h7 : m 7 f = nI a) (h8 : m 8 f = nI b) : nI (cf_rtN (nI a) (nI b)) = mf_end m (nI f) ∧ ∀ h : Nat, h < 4 → nI h < nI (cf_rtN (nI a) (nI b)) → ∃ i, i < 32 ∧ cf_rt s (nI f) (nI a) (nI b) h = nI i ∧ mf_node m (nI f) (nI h) = fb_tF i ∧ mf_node m (nI f) (nI (h + 1)) = fb_tT i ∧ (8 ≤ fb_tT i ↔ nI (h + 1) < nI (cf_rtN (nI a) (nI b))) ∧ (8 ≤ fb_tF i ↔ h ≠ 0) := by
  refine ⟨?_, fun h hh hlt => ?_⟩
  · unfold mf_end
    rw [fb_nI (by omega), h7, h8]
    exact (rt_eN a ha b hb).symm
  · have hlt2 : nI h < rt_e a b := by rw [rt_eN a ha b hb]; exact hlt
    have hlt3 := (rt_lt a ha b hb h hh).mp hlt2
    have hok : rt_ok a b (cf_spine (nI f)) h = true := by
      rcases (rt_spine f hf).2 with e | e
      · rw [e]; exact (rt_all a ha b hb hab h hh hlt2).1
      · rw [e]; exact (rt_all a ha b hb hab h hh hlt2).2
    unfold rt_ok at hok
    rw [List.any_eq_true] at hok
    obtain ⟨i, hi, h2⟩ := hok
    have hi := List.mem_range.mp hi
    rw [Bool.and_eq_true, Bool.and_eq_true, Bool.and_eq_true, decide_eq_true_iff, decide_eq_true_iff, beq_iff_eq, beq_iff_eq, decide_eq_decide, decide_eq_decide] at h2
    obtain ⟨⟨⟨q1, q2⟩, q3⟩, q4⟩ := h2
    refine ⟨i, hi, ?_, ?_, ?_, ?_, q4⟩
    · rw [rt_pb ha hb hlt3, q1, q2]
      exact pb_at ok hi
    · rw [rt_node hf h7 h8 h (by omega)]; exact q1
    · rw [rt_node hf h7 h8 (h + 1) (by omega)]; exact q2
    · rw [q3, rt_eN a ha b hb]
theorem lc_c2 {s' s : fb_S} {k : Nat} (h38 : s' 38 k = s 38 k) (hl : (s 38 k = 1 ∨ s 38 k = 2 ∨ s 38 k = 3) → fb_loc s' k = fb_loc s k ∧ fb_prk s' k = fb_prk s k) : fb_lc s' k = fb_lc s k := by
  unfold fb_lc
  rw [h38]
  by_cases c1 : s 38 k = 1
  · rw [if_pos c1, if_pos c1, (hl (Or.inl c1)).1, (hl (Or.inl c1)).2]
  · rw [if_neg c1, if_neg c1]
    by_cases c2 : s 38 k = 2
    · rw [if_pos c2, if_pos c2, (hl (Or.inr (Or.inl c2))).1]
    · rw [if_neg c2, if_neg c2]
      by_cases c3 : s 38 k = 3
      · rw [if_pos c3, if_pos c3, (hl (Or.inr (Or.inr c3))).1]
      · rw [if_neg c3, if_neg c3]
theorem count0 {m : fb_S} {f x : Int32} {n : Nat} (h : ∀ k, k < n → ¬ m 16 k = f) : mf_count m f x n = 0 := by
  induction n with
  | zero => rfl
  | succ n ih => simp only [mf_count, if_neg (h n (by omega))]; exact ih (fun k hk => h k (by omega))
theorem last0 {m : fb_S} {f : Int32} {n : Nat} (h : ∀ k, k < n → ¬ m 16 k = f) : mf_last m f n = -1 := by
  induction n with
  | zero => rfl
  | succ n ih =>
    have hr : ¬ mf_rcv m f n = true := by
      simp only [mf_rcv, if_neg (h n (by omega))]
      decide
    simp only [mf_last, if_neg hr, ite_self]
    exact ih (fun k hk => h k (by omega))
theorem last_c2 {m' m : fb_S} {n : Nat} {f : Int32} (h6 : mf_isF m' f = mf_isF m f) (h16 : ∀ j, j < n → m' 16 j = m 16 j) (h18 : ∀ j, j < n → m' 18 j = m 18 j) (h21 : ∀ j, j < n → m' 21 j = m 21 j) (hn : n < 2 ^ 31) : mf_last m' f n = mf_last m f n := by
  induction n with
  | zero => rfl
  | succ n ih =>
    have ih := ih (fun j hj => h16 j (by omega)) (fun j hj => h18 j (by omega)) (fun j hj => h21 j (by omega)) (by omega)
    have hr : mf_rcv m' f n = mf_rcv m f n := by simp only [mf_rcv, h16 n (by omega), h18 n (by omega)]
    simp only [mf_last, h6, hr, ih, h21 n (by omega)]
    by_cases c : mf_last m f n < 0
    · rw [if_pos c]
      simp only [if_pos c]
    · have := fb_rl (rg_last m f n (by omega)) c
      rw [h21 _ (by omega)]
/-- the stores behind a flow -/
theorem flowU_s {fl : Nat} {u v q : Int32} {s : fb_S} {F j : Nat} (h : (F < 22 ∧ F ≠ 8 ∧ F ≠ 4) ∨ 34 < F ∨ (22 ≤ F ∧ F ≠ 33 ∧ j ≠ fl) ∨ (F = 33 ∧ j / 4 ≠ fl)) : cf_flowU fl u v q s F j = s F j := by
  simp only [cf_flowU]
  rw [fb_up_F _ _ _ _ (by omega), fb_up_F _ _ _ _ (by omega)]
  exact cf_newF_other (by omega)
theorem flowU_m {fl : Nat} {u v q : Int32} {m : fb_S} {F j : Nat} (h : F ≠ 6 ∧ (F < 7 ∨ 12 < F ∨ j ≠ fl)) : mf_flowU fl u v q m F j = m F j := by
  have key : ∀ (x : fb_S) (G : Nat) (w : Int32), 7 ≤ G → G ≤ 12 → fb_up x G fl w F j = x F j := fun x G w g1 g2 => by
    by_cases e : F = G
    · exact fb_up_i x _ _ w (by omega)
    · exact fb_up_F x _ _ w e
  simp only [mf_flowU]
  rw [fb_up_F _ _ _ _ h.1, key _ 12 _ (by omega) (by omega), key _ 11 _ (by omega) (by omega), key _ 10 _ (by omega) (by omega), key _ 9 _ (by omega) (by omega), key _ 8 _ (by omega) (by omega), key _ 7 _ (by omega) (by omega)]
theorem co_flow {fl fr T : Nat} {s m : fb_S} (h : CO fl fr T s m) (u v q : Int32) : cf_flowA s u v q = mf_flowA m u v q ∧ cf_flC s fl u v q = mf_flC m fl u v q ∧ CP (cf_flC s fl u v q) fr T (cf_flow fl u v q s) (mf_flow fl u v q m) := by
  obtain ⟨ok, okm, hfl, hfr, hTb, hCP⟩ := h
  have h4 : s 4 0 = nI fl := ok 4 0 rfl
  have h6 : m 6 0 = nI fl := okm 6 0 rfl
  unfold cf_flowA mf_flowA cf_flC mf_flC cf_flow mf_flow
  rw [h4, h6]
  by_cases cu : cf_host u = true
  · obtain ⟨u0, u7⟩ := (host_iff u).mp cu
    simp only [if_pos cu, if_neg u0, if_neg u7]
    by_cases cv : cf_host v = true
    · obtain ⟨v0, v7⟩ := (host_iff v).mp cv
      simp only [if_pos cv, if_neg v0, if_neg v7]
      by_cases cuv : u = v
      · simp only [if_pos cuv]
        exact ⟨trivial, trivial, hCP⟩
      · simp only [if_neg cuv]
        by_cases cq : cf_prio q = true
        · obtain ⟨q0, q1⟩ := (prio_iff2 q).mp cq
          simp only [if_pos cq, if_neg q0, if_neg q1]
          by_cases c12 : nI fl < 12
          · simp only [if_pos c12]
            refine ⟨trivial, trivial, ?_⟩
            have hl12 : fl < 12 := fb_lt12 rfl hfl c12
            obtain ⟨a, ha, rfl⟩ : ∃ a, a < 8 ∧ u = nI a := by
              obtain ⟨j, hj, e⟩ := nI_of u0
              refine ⟨j, ?_, e⟩
              rcases Nat.lt_or_ge j 8 with x | x
              · exact x
              · rw [e] at u7
                exact absurd (nI_lt (a := 7) (b := j) (by omega) hj) u7
            obtain ⟨b, hb, rfl⟩ : ∃ b, b < 8 ∧ v = nI b := by
              obtain ⟨j, hj, e⟩ := nI_of v0
              refine ⟨j, ?_, e⟩
              rcases Nat.lt_or_ge j 8 with x | x
              · exact x
              · rw [e] at v7
                exact absurd (nI_lt (a := 7) (b := j) (by omega) hj) v7
            have hab : a ≠ b := fun e => cuv (by rw [e])
            obtain ⟨Q, hG, hP, hF, hR, hK, hC, hO, hT, hA, hB, hN, hE, hcr, hZ⟩ := hCP
            have hs : ∀ F j, ((F < 22 ∧ F ≠ 8 ∧ F ≠ 4) ∨ 34 < F ∨ (22 ≤ F ∧ F ≠ 33 ∧ j ≠ fl) ∨ (F = 33 ∧ j / 4 ≠ fl)) → cf_flowU fl (nI a) (nI b) q s F j = s F j := fun F j h => flowU_s h
            have hm : ∀ F j, (F ≠ 6 ∧ (F < 7 ∨ 12 < F ∨ j ≠ fl)) → mf_flowU fl (nI a) (nI b) q m F j = m F j := fun F j h => flowU_m h
            have n22 : cf_flowU fl (nI a) (nI b) q s 22 fl = q := by simp [cf_flowU, cf_newF, fb_up]
            have n23 : cf_flowU fl (nI a) (nI b) q s 23 fl = 64 := by simp [cf_flowU, cf_newF, fb_up]
            have n24 : cf_flowU fl (nI a) (nI b) q s 24 fl = 64 := by simp [cf_flowU, cf_newF, fb_up]
            have n25 : cf_flowU fl (nI a) (nI b) q s 25 fl = 64 := by simp [cf_flowU, cf_newF, fb_up]
            have n26 : cf_flowU fl (nI a) (nI b) q s 26 fl = 0 := by simp [cf_flowU, cf_newF, fb_up]
            have n27 : cf_flowU fl (nI a) (nI b) q s 27 fl = 0 := by simp [cf_flowU, cf_newF, fb_up]
            have n28 : cf_flowU fl (nI a) (nI b) q s 28 fl = 0 := by simp [cf_flowU, cf_newF, fb_up]
            have n29 : cf_flowU fl (nI a) (nI b) q s 29 fl = 0 := by simp [cf_flowU, cf_newF, fb_up]
            have n30 : cf_flowU fl (nI a) (nI b) q s 30 fl = 0 := by simp [cf_flowU, cf_newF, fb_up]
            have n31 : cf_flowU fl (nI a) (nI b) q s 31 fl = 0 := by simp [cf_flowU, cf_newF, fb_up]
            have n32 : cf_flowU fl (nI a) (nI b) q s 32 fl = -1 := by simp [cf_flowU, cf_newF, fb_up]
            have n34 : cf_flowU fl (nI a) (nI b) q s 34 fl = nI (cf_rtN (nI a) (nI b)) := by simp [cf_flowU, cf_newF, fb_up]
            have n33 : ∀ h, h < 4 → cf_flowU fl (nI a) (nI b) q s 33 (4 * fl + h) = cf_rt s (nI fl) (nI a) (nI b) h := fun h hh => by
              rw [← h4]
              rcases (show h = 0 ∨ h = 1 ∨ h = 2 ∨ h = 3 by omega) with rfl | rfl | rfl | rfl <;> simp [cf_flowU, cf_newF, fb_up]
            have m7 : mf_flowU fl (nI a) (nI b) q m 7 fl = nI a := by simp [mf_flowU, fb_up]
            have m8 : mf_flowU fl (nI a) (nI b) q m 8 fl = nI b := by simp [mf_flowU, fb_up]
            have m9 : mf_flowU fl (nI a) (nI b) q m 9 fl = q := by simp [mf_flowU, fb_up]
            have m10 : mf_flowU fl (nI a) (nI b) q m 10 fl = 64 := by simp [mf_flowU, fb_up]
            have m11 : mf_flowU fl (nI a) (nI b) q m 11 fl = 64 := by simp [mf_flowU, fb_up]
            have m12 : mf_flowU fl (nI a) (nI b) q m 12 fl = 64 := by simp [mf_flowU, fb_up]
            have m6 : mf_flowU fl (nI a) (nI b) q m 6 0 = nI (fl + 1) := by
              rw [← nI_1, ← h6]
              simp [mf_flowU, fb_up]
            generalize cf_flowU fl (nI a) (nI b) q s = s' at *
            generalize mf_flowU fl (nI a) (nI b) q m = m' at *
            have nd : ∀ f i, f < fl → mf_node m' (nI f) i = mf_node m (nI f) i := fun f i hf => by
              simp only [mf_node, mf_end, fb_nI (show f < 2 ^ 31 by omega), hm 7 f ⟨by decide, Or.inr (Or.inr (by omega))⟩, hm 8 f ⟨by decide, Or.inr (Or.inr (by omega))⟩]
            have en : ∀ f, f < fl → mf_end m' (nI f) = mf_end m (nI f) := fun f hf => by
              simp only [mf_end, fb_nI (show f < 2 ^ 31 by omega), hm 7 f ⟨by decide, Or.inr (Or.inr (by omega))⟩, hm 8 f ⟨by decide, Or.inr (Or.inr (by omega))⟩]
            have k36 : ∀ k, k < fr → ∃ f, f < fl ∧ s 36 k = nI f ∧ fb_n (s 36 k) = f ∧ m 16 k = nI f := fun k hk => by
              obtain ⟨f, hf, e, en⟩ := cp_flow ok hfl hk
              exact ⟨f, hf, e, en, (hK k hk).1 ▸ e⟩
            have prk : ∀ k, k < fr → fb_prk s' k = fb_prk s k := fun k hk => by
              obtain ⟨f, hf, e, en, -⟩ := k36 k hk
              simp only [fb_prk, hs 36 k (by omega), en, hs 22 f (by omega)]
            have loc : ∀ k, k < fr → (s 38 k = 1 ∨ s 38 k = 2 ∨ s 38 k = 3) → fb_loc s' k = fb_loc s k ∧ fb_prk s' k = fb_prk s k := fun k hk hst => by
              refine ⟨?_, prk k hk⟩
              obtain ⟨f, hf, e, en, -⟩ := k36 k hk
              have h18 : m 18 k < 4 := by rw [← (hK k hk).2.2.1]; rcases hst with e | e | e <;> rw [e] <;> decide
              obtain ⟨h, hh4, -, h41, -⟩ := (hK k hk).2.2.2.2.2.2.2 h18
              simp only [fb_loc, hs 36 k (by omega), hs 41 k (by omega), en, h41, fb_nI (show h < 2 ^ 31 by omega)]
              exact hs 33 _ (by omega)
            have elc : ∀ k, k < fr → fb_lc s' k = fb_lc s k := fun k hk => lc_c2 (hs 38 k (by omega)) (loc k hk)
            have ehb : ∀ k, k < fr → fb_hb s' k = fb_hb s k := fun k hk => hb_c (hs 38 k (by omega)) (hs 42 k (by omega)) (prk k hk)
            have eln : ∀ k, fb_ln s' k = fb_ln s k := fun k => ln_c (hs 37 k (by omega))
            refine ⟨Q, ?_, ?_, ?_, ?_, ?_, ⟨?_, ?_, ?_, ?_⟩, ?_, ?_, ?_, ?_, ?_, ?_, ?_, ?_⟩
            · simp only [cp_G, hs 0 0 (by omega), hs 1 0 (by omega), hs 2 0 (by omega), hs 3 0 (by omega), hs 6 0 (by omega), hs 7 0 (by omega), hs 7 1 (by omega), hm 0 0 (by omega), hm 1 0 (by omega), hm 2 0 (by omega), hm 3 0 (by omega), hm 4 0 (by omega), hm 25 0 (by omega), hm 25 1 (by omega)]
              exact hG
            · intro i hi
              rw [hs 12 _ (by omega), hs 17 _ (by omega), hs 17 _ (by omega), hs 14 _ (by omega), hm 23 _ (by omega), hm 24 _ (by omega), hm 24 _ (by omega), hm 26 _ (by omega)]
              exact hP i hi
            · intro f hf
              by_cases e : f = fl
              · subst e
                rw [n22, n23, n24, n25, n26, n27, m9, m10, m11, m12, hm 13 f (by omega), hm 14 f (by omega), (hZ.1 f (Nat.le_refl _)).1, (hZ.1 f (Nat.le_refl _)).2]
                exact ⟨rfl, rfl, rfl, rfl, rfl, rfl⟩
              · rw [hs 22 f (by omega), hs 23 f (by omega), hs 24 f (by omega), hs 25 f (by omega), hs 26 f (by omega), hs 27 f (by omega), hm 9 f (by omega), hm 10 f (by omega), hm 11 f (by omega), hm 12 f (by omega), hm 13 f (by omega), hm 14 f (by omega)]
                exact hF f (by omega)
            · intro f hf
              by_cases e : f = fl
              · subst e
                obtain ⟨x1, x2⟩ := rt_new (m := m') ok hl12 ha hb hab m7 m8
                rw [n34]
                refine ⟨x1, fun h hh hlt => ?_⟩
                rw [n33 h hh]
                exact x2 h hh hlt
              · rw [hs 34 f (by omega), en f (by omega)]
                refine ⟨(hR f (by omega)).1, fun h hh hlt => ?_⟩
                rw [hs 33 _ (by omega), nd f _ (by omega), nd f _ (by omega)]
                exact (hR f (by omega)).2 h hh hlt
            · intro k hk
              obtain ⟨f, hf, e, en2, e16⟩ := k36 k hk
              have hkk := hK k hk
              rw [e16] at hkk
              simp only [cp_way, en2] at hkk
              simp only [cp_way, hs 36 k (by omega), hs 37 k (by omega), hs 38 k (by omega), hs 40 k (by omega), hs 35 k (by omega), hs 39 k (by omega), hs 41 k (by omega), hs 42 k (by omega), hs 43 k (by omega), hm 16 k (by omega), hm 17 k (by omega), hm 18 k (by omega), hm 22 k (by omega), hm 19 k (by omega), hm 21 k (by omega), hm 0 0 (by omega), e16, en2, nd f _ hf, hs 34 f (by omega)]
              refine ⟨hkk.1, hkk.2.1, hkk.2.2.1, hkk.2.2.2.1, hkk.2.2.2.2.1, hkk.2.2.2.2.2.1, hkk.2.2.2.2.2.2.1, fun h4 => ?_⟩
              obtain ⟨h, w1, w2, w3, w4, w5, w6⟩ := hkk.2.2.2.2.2.2.2 h4
              refine ⟨h, w1, w2, w3, w4, fun h3 => ?_, w6⟩
              rw [w5 h3]
              by_cases c : h = 0
              · rw [if_pos c, if_pos c]
              · rw [if_neg c, if_neg c, hs 33 _ (by omega)]
            · exact ci_q_congr hC.1 (fun j => hs 19 j (by omega)) (fun j => hs 20 j (by omega)) (fun j => hs 44 j (by omega)) (fun k hk => elc k hk)
            · intro j hj
              rw [hs 21 j (by omega), hC.2.1 j hj, ci_sum_congr (fun k hk => ⟨elc k hk, eln k⟩)]
            · intro i hi k hk
              rw [hs 13 i (by omega), hC.2.2.1 i hi k hk, elc k hk]
            · intro j hj
              rw [hs 18 j (by omega), hC.2.2.2 j hj, ci_sum_congr (fun k hk => ⟨ehb k hk, eln k⟩)]
            · simp only [cp_O, hm 20 _ (show (20 : Nat) ≠ 6 ∧ _ from ⟨by decide, Or.inr (Or.inl (by decide))⟩), hm 5 0 (by omega), hs 43 _ (show _ from Or.inr (Or.inl (by decide)))]
              exact hO
            · simp only [cp_T, hm 18 _ (show (18 : Nat) ≠ 6 ∧ _ from ⟨by decide, Or.inr (Or.inl (by decide))⟩), hm 21 _ (show (21 : Nat) ≠ 6 ∧ _ from ⟨by decide, Or.inr (Or.inl (by decide))⟩), hm 5 0 (by omega), hs 0 0 (by omega)]
              exact hT
            · intro i hi
              rw [paused_c (hm 0 0 (by omega)) (hm 4 0 (by omega)) _ _ (hm 27 _ (by omega)), hs 16 i (by omega), hs 15 i (by omega)]
              simp only [hm 27 _ (show (27 : Nat) ≠ 6 ∧ _ from ⟨by decide, Or.inr (Or.inl (by decide))⟩)]
              exact hA i hi
            · intro f hf
              simp only [hm 16 _ (show (16 : Nat) ≠ 6 ∧ _ from ⟨by decide, Or.inr (Or.inl (by decide))⟩), hm 18 _ (show (18 : Nat) ≠ 6 ∧ _ from ⟨by decide, Or.inr (Or.inl (by decide))⟩), hm 22 _ (show (22 : Nat) ≠ 6 ∧ _ from ⟨by decide, Or.inr (Or.inl (by decide))⟩), hm 21 _ (show (21 : Nat) ≠ 6 ∧ _ from ⟨by decide, Or.inr (Or.inl (by decide))⟩)]
              by_cases e : f = fl
              · subst e
                refine ⟨n28, 0, by omega, n29, fun j hj => ?_⟩
                rw [Nat.zero_testBit]
                refine ⟨fun h => (by cases h), fun ⟨k, hk, e16, _⟩ => ?_⟩
                obtain ⟨g, hg, -, -, e2⟩ := k36 k hk
                have := (nI_eq (by omega) (by omega)).mp (e2.symm.trans e16)
                omega
              · rw [hs 28 f (by omega), hs 29 f (by omega)]
                exact hB f (by omega)
            · intro f hf
              by_cases e : f = fl
              · subst e
                have no : ∀ k, k < fr → ¬ m' 16 k = nI f := fun k hk e16 => by
                  rw [hm 16 k (by omega)] at e16
                  obtain ⟨g, hg, -, -, e2⟩ := k36 k hk
                  have := (nI_eq (by omega) (by omega)).mp (e2.symm.trans e16)
                  omega
                rw [n30, n31, n32, count0 no, count0 no, last0 no]
                exact ⟨rfl, rfl, rfl⟩
              · have hisF : mf_isF m' (nI f) = mf_isF m (nI f) := by
                  simp only [mf_isF, m6, h6]
                  rw [if_neg (nI_pos (by omega)), if_neg (nI_pos (by omega)), if_neg (nI_ge (by omega) (by omega)), if_neg (nI_ge (by omega) (by omega))]
                rw [hs 30 f (by omega), hs 31 f (by omega), hs 32 f (by omega), count_c (fun j _ => hm 16 j (by omega)) (fun j _ => hm 18 j (by omega)), count_c (fun j _ => hm 16 j (by omega)) (fun j _ => hm 18 j (by omega)), last_c2 hisF (fun j _ => hm 16 j (by omega)) (fun j _ => hm 18 j (by omega)) (fun j _ => hm 21 j (by omega)) (by omega)]
                exact hN f (by omega)
            · intro f hf
              by_cases e : f = fl
              · subst e
                rw [m7, m8]
                exact fun e2 => hab ((nI_eq (by omega) (by omega)).mp e2)
              · rw [hm 7 f (by omega), hm 8 f (by omega)]
                exact hE f (by omega)
            · intro j hj
              rw [hs 17 j (by omega), hs 12 (j / 2) (by omega)]
              exact hcr j hj
            · refine ⟨fun f hf => ?_, fun k hk => ?_⟩
              · rw [hm 13 f (by omega), hm 14 f (by omega)]
                exact hZ.1 f (by omega)
              · rw [hm 22 k (by omega)]
                exact hZ.2 k hk
          · simp only [if_neg c12]
            exact ⟨trivial, trivial, hCP⟩
        · have : q < 0 ∨ (¬ q < 0 ∧ 1 < q) := by
            by_cases c0 : q < 0
            · exact Or.inl c0
            · refine Or.inr ⟨c0, ?_⟩
              by_cases c1 : 1 < q
              · exact c1
              · exact absurd ((prio_iff2 q).mpr ⟨c0, c1⟩) cq
          rcases this with c0 | ⟨c0, c1⟩
          · simp only [if_neg cq, if_pos c0]
            exact ⟨trivial, trivial, hCP⟩
          · simp only [if_neg cq, if_neg c0, if_pos c1]
            exact ⟨trivial, trivial, hCP⟩
    · have : v < 0 ∨ (¬ v < 0 ∧ 7 < v) := by
        by_cases c0 : v < 0
        · exact Or.inl c0
        · refine Or.inr ⟨c0, ?_⟩
          by_cases c1 : 7 < v
          · exact c1
          · exact absurd ((host_iff v).mpr ⟨c0, c1⟩) cv
      rcases this with c0 | ⟨c0, c1⟩
      · simp only [if_neg cv, if_pos c0]
        exact ⟨trivial, trivial, hCP⟩
      · simp only [if_neg cv, if_neg c0, if_pos c1]
        exact ⟨trivial, trivial, hCP⟩
  · have : u < 0 ∨ (¬ u < 0 ∧ 7 < u) := by
      by_cases c0 : u < 0
      · exact Or.inl c0
      · refine Or.inr ⟨c0, ?_⟩
        by_cases c1 : 7 < u
        · exact c1
        · exact absurd ((host_iff u).mpr ⟨c0, c1⟩) cu
    rcases this with c0 | ⟨c0, c1⟩
    · simp only [if_neg cu, if_pos c0]
      exact ⟨trivial, trivial, hCP⟩
    · simp only [if_neg cu, if_neg c0, if_pos c1]
      exact ⟨trivial, trivial, hCP⟩
