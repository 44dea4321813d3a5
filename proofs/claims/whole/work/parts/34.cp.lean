/-! the coupling of the two sides between two calls, and what the law needs of it -/
/-- the codes of a frame, out of the class's store -/
def fb_lc (s : fb_S) (k : Nat) : Nat := if s 38 k = 1 then 3 * fb_n (fb_loc s k) + fb_n (fb_prk s k) else if s 38 k = 2 then 96 + fb_n (fb_loc s k) else if s 38 k = 3 then 3 * fb_n (fb_loc s k) + 2 else 200
def fb_hb (s : fb_S) (k : Nat) : Nat := if s 42 k < 0 then 200 else if s 38 k = 1 then 2 * fb_n (s 42 k) + fb_n (fb_prk s k) else if s 38 k = 2 then 2 * fb_n (s 42 k) + fb_n (fb_prk s k) else 200
/-- the class's own: queues Q, sums, what is sent -/
def cp_C (fr : Nat) (s : fb_S) (Q : Nat → List Nat) : Prop := ci_q fr s (fb_lc s) Q ∧ ci_l fr s (fb_lc s) (fb_ln s) ∧ ci_s fr s (fb_lc s) ∧ ci_h fr s (fb_hb s) (fb_ln s)
/-- orders: frames in a queue by when they came, on a wire by when they arrive -/
def cp_O (fr : Nat) (s m : fb_S) (Q : Nat → List Nat) : Prop := (∀ k, k < fr → ¬ m 20 k < 0 ∧ m 20 k < m 5 0) ∧ (∀ i q, i < 32 → q < 2 → (Q (3 * i + q)).Pairwise (fun a b => m 20 a < m 20 b)) ∧ ∀ i, i < 32 → (Q (3 * i + 2)).Pairwise (fun a b => s 43 a < s 43 b)
/-- times: sending ends later, what is sent arrives later -/
def cp_T (fr T : Nat) (s m : fb_S) : Prop := (∀ k, k < fr → (m 18 k = 2 → ∃ w, m 21 k = nI w ∧ T < w ∧ w ≤ T + 4) ∧ (m 18 k = 3 → ∃ w, m 21 k = nI w ∧ w ≤ T ∧ T < w + fb_n (s 0 0)) ∧ (m 18 k = 4 → ∃ w, m 21 k = nI w ∧ 1 ≤ w ∧ w ≤ T)) ∧ ∃ o, m 5 0 = nI o ∧ o ≤ fr + 32 * T
/-- histories -/
def cp_A (T : Nat) (s m : fb_S) : Prop := ∀ i, i < 32 → s 16 i = fb_b (mf_paused m (fb_tF i) (fb_tT i)) ∧ ∃ h : Nat, h < 256 ∧ s 15 i = nI h ∧ ∀ j, j < 8 → (h.testBit j = true ↔ j < T ∧ ¬ m 27 (((T - j) % 9) * 196 + fb_g i) = 0)
def cp_B (fl fr T : Nat) (s m : fb_S) : Prop := ∀ f, f < fl → s 28 f = 0 ∧ ∃ h : Nat, h < 256 ∧ s 29 f = nI h ∧ ∀ j, j < 8 → (h.testBit j = true ↔ ∃ k, k < fr ∧ m 16 k = nI f ∧ m 18 k = 4 ∧ ¬ m 22 k = 0 ∧ j < T ∧ m 21 k = nI (T - j))
/-- counts -/
def cp_N (fl fr : Nat) (s m : fb_S) : Prop := ∀ f, f < fl → s 30 f = mf_count m (nI f) 4 fr ∧ s 31 f = mf_count m (nI f) 5 fr ∧ s 32 f = mf_last m (nI f) fr
/-- start and goal of the flows are different hosts; what a port's credit may be -/
def cp_E (fl : Nat) (m : fb_S) : Prop := ∀ f, f < fl → ¬ m 7 f = m 8 f
def cp_cr (s : fb_S) : Prop := ∀ j, j < 64 → 0 ≤ s 17 j ∧ s 17 j ≤ 11 ∧ (¬ s 12 (j / 2) = nI (j % 2) → s 17 j ≤ 3)
/-- what the reference has not used yet -/
def cp_Z (fl fr : Nat) (m : fb_S) : Prop := (∀ f, fl ≤ f → m 13 f = 0 ∧ m 14 f = 0) ∧ ∀ k, fr ≤ k → m 22 k = 0
def CP (fl fr T : Nat) (s m : fb_S) : Prop := ∃ Q : Nat → List Nat, cp_G s m ∧ cp_P s m ∧ cp_F fl s m ∧ cp_R fl s m ∧ cp_K fr s m ∧ cp_C fr s Q ∧ cp_O fr s m Q ∧ cp_T fr T s m ∧ cp_A T s m ∧ cp_B fl fr T s m ∧ cp_N fl fr s m ∧ cp_E fl m ∧ cp_cr s ∧ cp_Z fl fr m
/-- the reference's store at its start -/
def mf_st0 (d x r k : Int32) : fb_S := fun F i => match F with
  | 0 => d
  | 1 => x
  | 2 => r
  | 3 => k
  | 25 => if i < 2 then 1 else 0
  | _ => 0
/-- both sides' ranges and what lives -/
def CO (fl fr T : Nat) (s m : fb_S) : Prop := fb_okC fl fr s ∧ fb_okM fl fr T m ∧ fl ≤ 12 ∧ fr ≤ 100 ∧ T ≤ 20000 ∧ CP fl fr T s m
theorem co_clock {fl fr T : Nat} {s m : fb_S} (h : CO fl fr T s m) : s 6 0 = m 4 0 := by
  obtain ⟨-, -, -, -, -, Q, hG, -⟩ := h
  exact hG.2.2.2.2.1
