/-! the coupling of the two sides between two calls, and what the law needs of it -/
/-- the codes of a frame, out of the class's store -/
def fb_lc (s : fb_S) (k : Nat) : Nat := if s 38 k = 1 then 3 * fb_n (fb_loc s k) + fb_n (fb_prk s k) else if s 38 k = 2 then 96 + fb_n (fb_loc s k) else if s 38 k = 3 then 3 * fb_n (fb_loc s k) + 2 else 200
def fb_hb (s : fb_S) (k : Nat) : Nat := if s 42 k < 0 then 200 else if s 38 k = 1 then 2 * fb_n (s 42 k) + fb_n (fb_prk s k) else if s 38 k = 2 then 2 * fb_n (s 42 k) + fb_n (fb_prk s k) else 200
/-- the class's own: queues Q, sums, what is sent -/
def cp_C (fr : Nat) (s : fb_S) (Q : Nat → List Nat) : Prop := ci_q fr s (fb_lc s) Q ∧ ci_l fr s (fb_lc s) (fb_ln s) ∧ ci_s fr s (fb_lc s) ∧ ci_h fr s (fb_hb s) (fb_ln s)
/-- orders: frames in a queue by when they came, on a wire by when they arrive -/
def cp_O (fr : Nat) (s m : fb_S) (Q : Nat → List Nat) : Prop := (∀ k, k < fr → ¬ m 20 k < 0 ∧ m 20 k < m 5 0) ∧ (∀ i q, i < 32 → q < 2 → (Q (3 * i + q)).Pairwise (fun a b => m 20 a < m 20 b)) ∧ ∀ i, i < 32 → (Q (3 * i + 2)).Pairwise (fun a b => s 43 a < s 43 b)
/-- times: sending ends later, what is sent arrives later -/
def cp_T (fr T : Nat) (s m : fb_S) : Prop := (∀ k, k < fr → (m 18 k = 2 → ∃ w, m 21 k = nI w ∧ T < w ∧ w ≤ T + 4) ∧ (m 18 k = 3 → ∃ w, m 21 k = nI w ∧ w ≤ T ∧ T < w + fb_n (s 0 0)) ∧ (m 18 k = 4 → ∃ w, m 21 k = nI w ∧ w ≤ T)) ∧ ∃ o, m 5 0 = nI o ∧ o ≤ 100 * (T + 1)
/-- histories -/
def cp_A (T : Nat) (s m : fb_S) : Prop := ∀ i, i < 32 → s 16 i = fb_b (mf_paused m (fb_tF i) (fb_tT i)) ∧ ∃ h : Nat, h < 256 ∧ s 15 i = nI h ∧ ∀ j, j < 8 → (h.testBit j = true ↔ j < T ∧ ¬ m 27 (((T - j) % 9) * 196 + fb_g i) = 0)
def cp_B (fl fr T : Nat) (s m : fb_S) : Prop := ∀ f, f < fl → s 28 f = 0 ∧ ∃ h : Nat, h < 256 ∧ s 29 f = nI h ∧ ∀ j, j < 8 → (h.testBit j = true ↔ ∃ k, k < fr ∧ m 16 k = nI f ∧ m 18 k = 4 ∧ ¬ m 22 k = 0 ∧ j < T ∧ m 21 k = nI (T - j))
/-- counts -/
def cp_N (fl fr : Nat) (s m : fb_S) : Prop := ∀ f, f < fl → s 30 f = mf_count m (nI f) 4 fr ∧ s 31 f = mf_count m (nI f) 5 fr ∧ s 32 f = mf_last m (nI f) fr
/-- start and goal of the flows are different hosts; what a port's credit may be -/
def cp_E (fl : Nat) (m : fb_S) : Prop := ∀ f, f < fl → ¬ m 7 f = m 8 f
def cp_cr (s : fb_S) : Prop := ∀ j, j < 64 → 0 ≤ s 17 j ∧ s 17 j ≤ 11
def CP (fl fr T : Nat) (s m : fb_S) : Prop := ∃ Q : Nat → List Nat, cp_G s m ∧ cp_P s m ∧ cp_F fl s m ∧ cp_R fl s m ∧ cp_K fr s m ∧ cp_C fr s Q ∧ cp_O fr s m Q ∧ cp_T fr T s m ∧ cp_A T s m ∧ cp_B fl fr T s m ∧ cp_N fl fr s m ∧ cp_E fl m ∧ cp_cr s
/-- the reference's store at its start -/
def mf_st0 (d x r k : Int32) : fb_S := fun F i => match F with
  | 0 => d
  | 1 => x
  | 2 => r
  | 3 => k
  | 25 => if i < 2 then 1 else 0
  | _ => 0
/-- both sides' ranges and what lives -/
def CO (fl fr T : Nat) (s m : fb_S) : Prop := fb_okC fl fr s ∧ fb_okM fl fr T m ∧ fl ≤ 12 ∧ fr ≤ 100 ∧ T ≤ 20000 ∧ CP fl fr T s m
theorem co_init (d x r k : Int32) : CP 0 0 0 (cf_st0 (cf_near d 1 8) (cf_near x 4 40) (cf_near r 0 40) (cf_near k 1 40)) (mf_st0 (mf_near d 1 8) (mf_near x 4 40) (mf_near r 0 40) (mf_near k 1 40)) := by
  sorry
theorem co_flow {fl fr T : Nat} {s m : fb_S} (h : CO fl fr T s m) (u v q : Int32) : cf_flowA s u v q = mf_flowA m u v q ∧ cf_flC s fl u v q = mf_flC m fl u v q ∧ CP (cf_flC s fl u v q) fr T (cf_flow fl u v q s) (mf_flow fl u v q m) := by
  sorry
theorem co_share {fl fr T : Nat} {s m : fb_S} (h : CO fl fr T s m) (q x : Int32) : cf_shareA q x = mf_shareA q x ∧ CP fl fr T (cf_share q x s) (mf_share q x m) := by
  sorry
theorem co_inject {fl fr T : Nat} {s m : fb_S} (h : CO fl fr T s m) (f n : Int32) : cf_injA s f n = mf_injA m f n ∧ cf_frC s fr f n = mf_frC m fr f n ∧ CP fl (cf_frC s fr f n) T (cf_inj fr f n s) (mf_inj fr f n m) := by
  sorry
theorem co_tick {fl fr T : Nat} {s m : fb_S} (h : CO fl fr T s m) (n : Int32) : cf_tickA fl n s = mf_tickA fl fr n m ∧ CP fl fr (mf_T T n) (cf_tickS fl n s) (mf_tickS fl fr n m) := by
  sorry
theorem co_clock {fl fr T : Nat} {s m : fb_S} (h : CO fl fr T s m) : s 6 0 = m 4 0 := by
  obtain ⟨-, -, -, -, -, Q, hG, -⟩ := h
  exact hG.2.2.2.2.1
theorem co_state {fl fr T : Nat} {s m : fb_S} (h : CO fl fr T s m) (k : Int32) : cf_qK s 38 k = mf_state m k := by
  sorry
theorem co_node {fl fr T : Nat} {s m : fb_S} (h : CO fl fr T s m) (k : Int32) : cf_qK s 39 k = mf_nodeQ m k := by
  sorry
theorem co_marked {fl fr T : Nat} {s m : fb_S} (h : CO fl fr T s m) (k : Int32) : cf_qM s k = mf_marked m k := by
  sorry
theorem co_queued {fl fr T : Nat} {s m : fb_S} (h : CO fl fr T s m) (u v q : Int32) : cf_queued s u v q = mf_queued m fr u v q := by
  sorry
theorem co_held {fl fr T : Nat} {s m : fb_S} (h : CO fl fr T s m) (u v q : Int32) : cf_held s u v q = mf_held m fr u v q := by
  sorry
theorem co_asks {fl fr T : Nat} {s m : fb_S} (h : CO fl fr T s m) (u v : Int32) : cf_qP s 14 u v = mf_asks m u v := by
  sorry
theorem co_paused {fl fr T : Nat} {s m : fb_S} (h : CO fl fr T s m) (u v : Int32) : cf_qP s 16 u v = mf_pausedQ m u v := by
  sorry
theorem co_rate {fl fr T : Nat} {s m : fb_S} (h : CO fl fr T s m) (f : Int32) : cf_qF s 23 f 0 = mf_rate m 10 f := by
  sorry
theorem co_alpha {fl fr T : Nat} {s m : fb_S} (h : CO fl fr T s m) (f : Int32) : cf_qF s 25 f 0 = mf_rate m 12 f := by
  sorry
theorem co_received {fl fr T : Nat} {s m : fb_S} (h : CO fl fr T s m) (f : Int32) : cf_qF s 30 f 0 = mf_cnt m fr f 4 := by
  sorry
theorem co_dropped {fl fr T : Nat} {s m : fb_S} (h : CO fl fr T s m) (f : Int32) : cf_qF s 31 f 0 = mf_cnt m fr f 5 := by
  sorry
theorem co_last {fl fr T : Nat} {s m : fb_S} (h : CO fl fr T s m) (f : Int32) : cf_qF s 32 f (-1) = mf_last m f fr := by
  sorry
