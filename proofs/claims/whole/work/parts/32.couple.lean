/-! pure: the class's store against the reference's -/
/-- where a frame is: the port of its route at its hop; its priority; its length -/
def fb_loc (s : fb_S) (k : Nat) : Int32 := s 33 (4 * fb_n (s 36 k) + fb_n (s 41 k))
def fb_prk (s : fb_S) (k : Nat) : Int32 := s 22 (fb_n (s 36 k))
def cp_G (s m : fb_S) : Prop := s 0 0 = m 0 0 ∧ s 1 0 = m 1 0 ∧ s 2 0 = m 2 0 ∧ s 3 0 = m 3 0 ∧ s 6 0 = m 4 0 ∧ s 7 0 = m 25 0 ∧ s 7 1 = m 25 1
def cp_P (s m : fb_S) : Prop := ∀ i, i < 32 → s 12 i = m 23 (fb_g i) ∧ s 17 (2 * i) = m 24 (2 * fb_g i) ∧ s 17 (2 * i + 1) = m 24 (2 * fb_g i + 1) ∧ s 14 i = m 26 (fb_g i)
def cp_F (fl : Nat) (s m : fb_S) : Prop := ∀ f, f < fl → s 22 f = m 9 f ∧ s 23 f = m 10 f ∧ s 24 f = m 11 f ∧ s 25 f = m 12 f ∧ s 26 f = m 13 f ∧ s 27 f = m 14 f
/-- the routes -/
def cp_R (fl : Nat) (s m : fb_S) : Prop := ∀ f, f < fl → s 34 f = mf_end m (nI f) ∧ ∀ h : Nat, h < 4 → nI h < s 34 f → ∃ i, i < 32 ∧ s 33 (4 * f + h) = nI i ∧ mf_node m (nI f) (nI h) = fb_tF i ∧ mf_node m (nI f) (nI (h + 1)) = fb_tT i ∧ (8 ≤ fb_tT i ↔ nI (h + 1) < s 34 f) ∧ (8 ≤ fb_tF i ↔ h ≠ 0)
/-- a frame on its way, h ports behind it -/
def cp_way (s m : fb_S) (k h : Nat) : Prop := h < 4 ∧ m 19 k = nI h ∧ s 41 k = nI h ∧ nI h < s 34 (fb_n (s 36 k)) ∧ (m 18 k < 3 → s 42 k = if h = 0 then -1 else s 33 (4 * fb_n (s 36 k) + (h - 1))) ∧ (m 18 k = 2 → s 43 k = m 21 k) ∧ (m 18 k = 3 → s 43 k = m 21 k + m 0 0)
def cp_K (fr : Nat) (s m : fb_S) : Prop := ∀ k, k < fr → s 36 k = m 16 k ∧ s 37 k = m 17 k ∧ s 38 k = m 18 k ∧ s 40 k = m 22 k ∧ s 35 k = nI k ∧ s 39 k = mf_node m (m 16 k) (m 19 k) ∧ (m 18 k = 1 ∨ m 18 k = 2 ∨ m 18 k = 3 ∨ m 18 k = 4 ∨ m 18 k = 5) ∧ (m 18 k < 4 → ∃ h, cp_way s m k h)
section CPL
variable {fl fr : Nat} {s m : fb_S}
/-- a frame's flow as a number -/
theorem cp_flow (ok : fb_okC fl fr s) (hfl : fl ≤ 12) {k : Nat} (hk : k < fr) : ∃ f, f < fl ∧ s 36 k = nI f ∧ fb_n (s 36 k) = f := by
  have h := ok 36 k hk
  obtain ⟨f, hf, e⟩ := vp_in_of h (by omega)
  exact ⟨f, hf, e, by rw [e]; exact nI_clamp (by omega)⟩
/-- the port at which a frame on its way is -/
theorem cp_at (ok : fb_okC fl fr s) (hfl : fl ≤ 12) (hR : cp_R fl s m) (hK : cp_K fr s m) {k h : Nat} (hk : k < fr) (hw : cp_way s m k h) : ∃ i, i < 32 ∧ fb_loc s k = nI i ∧ mf_node m (m 16 k) (m 19 k) = fb_tF i ∧ mf_node m (m 16 k) (m 19 k + 1) = fb_tT i := by
  obtain ⟨f, hf, e, en⟩ := cp_flow ok hfl hk
  obtain ⟨h4, h19, h41, hlt, -⟩ := hw
  rw [en] at hlt
  obtain ⟨i, hi, e1, e2, e3, -⟩ := (hR f hf).2 h h4 hlt
  have e16 : m 16 k = nI f := (hK k hk).1 ▸ e
  refine ⟨i, hi, ?_, ?_, ?_⟩
  · unfold fb_loc
    rw [en, h41, show fb_n (nI h) = h from nI_clamp (by omega)]
    exact e1
  · rw [e16, h19]; exact e2
  · rw [e16, h19, nI_1]; exact e3
theorem cp_btw (ok : fb_okC fl fr s) (hfl : fl ≤ 12) (hR : cp_R fl s m) (hK : cp_K fr s m) {k i : Nat} (hk : k < fr) (hi : i < 32) (hs : m 18 k < 4) : mf_btw m k (fb_tF i) (fb_tT i) = true ↔ fb_loc s k = nI i := by
  obtain ⟨h, hw⟩ := (hK k hk).2.2.2.2.2.2.2 hs
  obtain ⟨j, hj, e0, e1, e2⟩ := cp_at ok hfl hR hK hk hw
  have hn : ¬ (4 : Int32) ≤ m 18 k := Int32.not_le.mpr hs
  simp only [mf_btw, if_neg hn, e1, e2, e0]
  constructor
  · intro q
    by_cases c1 : fb_tF j = fb_tF i
    · by_cases c2 : fb_tT j = fb_tT i
      · rw [tb_FT hj hi c1 c2]
      · rw [if_pos c1, if_neg c2] at q; cases q
    · rw [if_neg c1] at q; cases q
  · intro q
    have : j = i := (nI_eq (by omega) (by omega)).mp q
    subst this
    rw [if_pos rfl, if_pos rfl]
theorem cp_btw4 {k : Nat} {u v : Int32} (hs : ¬ m 18 k < 4) : mf_btw m k u v = false := by
  simp only [mf_btw, if_pos (Int32.not_lt.mp hs)]
theorem cp_here (ok : fb_okC fl fr s) (hfl : fl ≤ 12) (hF : cp_F fl s m) (hR : cp_R fl s m) (hK : cp_K fr s m) {k i : Nat} {q : Int32} (hk : k < fr) (hi : i < 32) : mf_here m (fb_tF i) (fb_tT i) q k = true ↔ s 38 k = 1 ∧ fb_prk s k = q ∧ fb_loc s k = nI i := by
  obtain ⟨f, hf, e, en⟩ := cp_flow ok hfl hk
  have k1 := hK k hk
  have e9 : m 9 (fb_n (m 16 k)) = fb_prk s k := by
    unfold fb_prk
    rw [← k1.1, en]
    exact (hF f hf).1.symm
  simp only [mf_here, ← k1.2.2.1, e9]
  by_cases c1 : s 38 k = 1
  · rw [if_pos c1]
    have hs : m 18 k < 4 := by rw [← k1.2.2.1, c1]; decide
    by_cases c2 : fb_prk s k = q
    · rw [if_pos c2]
      by_cases c3 : mf_btw m k (fb_tF i) (fb_tT i) = true
      · rw [if_pos c3]
        exact ⟨fun _ => ⟨c1, c2, (cp_btw ok hfl hR hK hk hi hs).mp c3⟩, fun _ => rfl⟩
      · rw [if_neg c3]
        exact ⟨fun h => (by cases h), fun h => absurd ((cp_btw ok hfl hR hK hk hi hs).mpr h.2.2) c3⟩
    · rw [if_neg c2]
      exact ⟨fun h => (by cases h), fun h => absurd h.2.1 c2⟩
  · rw [if_neg c1]
    exact ⟨fun h => (by cases h), fun h => absurd h.1 c1⟩
/-- lengths as Nats -/
def fb_ln (s : fb_S) (k : Nat) : Nat := fb_n (s 37 k)
theorem fb_lnI (ok : fb_okC fl fr s) {k : Nat} (hk : k < fr) : s 37 k = nI (fb_ln s k) ∧ 1 ≤ fb_ln s k ∧ fb_ln s k ≤ 4 := by
  have h := ok 37 k hk
  obtain ⟨j, hj, e⟩ := nI_of2 (x := s 37 k) (M := 4) (n := 4) (by decide) (fb_pos1 h.1) h.2
  have e2 : fb_ln s k = j := by unfold fb_ln; rw [e]; exact nI_clamp (by omega)
  refine ⟨by rw [e2]; exact e, ?_, by omega⟩
  rcases Nat.eq_zero_or_pos j with rfl | q
  · rw [e] at h
    exact absurd h.1 (by decide)
  · omega
/-- what lies in a queue, what is held, among the first n frames -/
def cp_q (s : fb_S) (i : Nat) (q : Int32) (n : Nat) : Nat := fb_sum (fun k => if s 38 k = 1 ∧ fb_prk s k = q ∧ fb_loc s k = nI i then fb_ln s k else 0) n
def cp_h (s m : fb_S) (i : Nat) (q : Int32) (n : Nat) : Nat := fb_sum (fun k => if (m 18 k = 1 ∨ m 18 k = 2) ∧ fb_prk s k = q ∧ s 42 k = nI i then fb_ln s k else 0) n
theorem cp_qlen (ok : fb_okC fl fr s) (hfl : fl ≤ 12) (hF : cp_F fl s m) (hR : cp_R fl s m) (hK : cp_K fr s m) {i : Nat} (q : Int32) (hi : i < 32) : ∀ n, n ≤ fr → mf_qlen m (fb_tF i) (fb_tT i) q n = nI (cp_q s i q n) := by
  intro n
  induction n with
  | zero => intro _; rfl
  | succ n ih =>
    intro hn
    have ih := ih (by omega)
    have hh := cp_here ok hfl hF hR hK (k := n) (i := i) (q := q) (by omega) hi
    simp only [mf_qlen, cp_q, fb_sum]
    by_cases c : mf_here m (fb_tF i) (fb_tT i) q n = true
    · rw [if_pos c, if_pos (hh.mp c), ih, ← (hK n (by omega)).2.1, (fb_lnI ok (k := n) (by omega)).1, nI_add]
      rfl
    · rw [if_neg c, if_neg (fun h => c (hh.mpr h)), ih]
      rfl
/-- a frame behind its first port: it came by port i -/
theorem cp_came (ok : fb_okC fl fr s) (hfl : fl ≤ 12) (hR : cp_R fl s m) (hK : cp_K fr s m) {k i : Nat} (hk : k < fr) (hi : i < 32) (hs : m 18 k = 1 ∨ m 18 k = 2) : (¬ m 19 k ≤ 0 ∧ mf_node m (m 16 k) (m 19 k) = fb_tT i ∧ mf_node m (m 16 k) (m 19 k - 1) = fb_tF i) ↔ s 42 k = nI i := by
  have h4 : m 18 k < 4 := by rcases hs with e | e <;> rw [e] <;> decide
  have h3 : m 18 k < 3 := by rcases hs with e | e <;> rw [e] <;> decide
  obtain ⟨h, hh4, h19, h41, hlt, h42, -⟩ := (hK k hk).2.2.2.2.2.2.2 h4
  obtain ⟨f, hf, e, en⟩ := cp_flow ok hfl hk
  have e16 : m 16 k = nI f := (hK k hk).1 ▸ e
  have h42 := h42 h3
  rw [en] at hlt h42
  rw [e16, h19]
  rcases Nat.eq_zero_or_pos h with rfl | hp
  · rw [if_pos rfl] at h42
    constructor
    · intro q
      exact absurd (by decide) q.1
    · intro q
      rw [h42] at q
      exact absurd (q ▸ fb_m1) (nI_pos (by omega))
  · obtain ⟨g, rfl⟩ : ∃ g, h = g + 1 := ⟨h - 1, by omega⟩
    rw [if_neg (by omega), Nat.add_sub_cancel] at h42
    obtain ⟨hl0, hr⟩ := hR f hf
    have hltg : nI g < s 34 f := by
      have a := Int32.lt_iff_toInt_lt.mp hlt
      refine Int32.lt_iff_toInt_lt.mpr ?_
      rw [nI_toInt (by omega)] at a ⊢
      omega
    obtain ⟨j, hj, e1, e2, e3, -⟩ := hr g (by omega) hltg
    rw [nI_pred, e2, e3, h42, e1]
    constructor
    · rintro ⟨-, a, b⟩
      rw [tb_FT hj hi b a]
    · intro q
      have : j = i := (nI_eq (by omega) (by omega)).mp q
      subst this
      refine ⟨fun q2 => ?_, rfl, rfl⟩
      exact absurd q2 (nI_nle (by omega) (by omega))
/-- the reference's holds, also where some frames have gone from SENDING to SENT -/
theorem cp_holds (ok : fb_okC fl fr s) (hfl : fl ≤ 12) (hF : cp_F fl s m) (hR : cp_R fl s m) (hK : cp_K fr s m) {m' : fb_S} (ha : ∀ F j, F ≠ 18 → F ≠ 26 → m' F j = m F j) (hst : ∀ k, k < fr → (m' 18 k = 1 ∨ m' 18 k = 2) → (m 18 k = 1 ∨ m 18 k = 2)) {i : Nat} (q : Int32) (hi : i < 32) : ∀ n, n ≤ fr → mf_holds m' (fb_tF i) (fb_tT i) q n = nI (cp_h s m' i q n) := by
  have hend : ∀ f, mf_end m' f = mf_end m f := fun f => by simp only [mf_end, ha 7 _ (by decide) (by decide), ha 8 _ (by decide) (by decide)]
  have hnode : ∀ f x, mf_node m' f x = mf_node m f x := fun f x => by simp only [mf_node, hend, ha 7 _ (by decide) (by decide), ha 8 _ (by decide) (by decide)]
  intro n
  induction n with
  | zero => intro _; rfl
  | succ n ih =>
    intro hn
    have ih := ih (by omega)
    have hk : n < fr := by omega
    obtain ⟨f, hf, e, en⟩ := cp_flow ok hfl hk
    have e9 : m 9 (fb_n (m 16 n)) = fb_prk s n := by
      unfold fb_prk
      rw [← (hK n hk).1, en]
      exact (hF f hf).1.symm
    simp only [mf_holds, cp_h, fb_sum, mf_isin, hnode, ha 19 _ (by decide) (by decide), ha 9 _ (by decide) (by decide), ha 16 _ (by decide) (by decide), ha 17 _ (by decide) (by decide), e9]
    have key : ∀ (a : m' 18 n = 1 ∨ m' 18 n = 2), (if (if m 19 n ≤ 0 then false else if fb_prk s n = q then true else false) = true then (if mf_node m (m 16 n) (m 19 n) = fb_tT i then (if mf_node m (m 16 n) (m 19 n - 1) = fb_tF i then mf_holds m' (fb_tF i) (fb_tT i) q n + m 17 n else mf_holds m' (fb_tF i) (fb_tT i) q n) else mf_holds m' (fb_tF i) (fb_tT i) q n) else mf_holds m' (fb_tF i) (fb_tT i) q n) = nI (cp_h s m' i q n + if (m' 18 n = 1 ∨ m' 18 n = 2) ∧ fb_prk s n = q ∧ s 42 n = nI i then fb_ln s n else 0) := by
      intro a
      have hc := cp_came ok hfl hR hK hk hi (hst n hk a)
      by_cases c : (m' 18 n = 1 ∨ m' 18 n = 2) ∧ fb_prk s n = q ∧ s 42 n = nI i
      · obtain ⟨c1, c2, c3⟩ := c
        obtain ⟨d1, d2, d3⟩ := hc.mpr c3
        rw [if_neg d1, if_pos c2, if_pos rfl, if_pos d2, if_pos d3, if_pos ⟨c1, c2, c3⟩, ih, ← (hK n hk).2.1, (fb_lnI ok hk).1, nI_add]
      · rw [if_neg c, ih, Nat.add_zero]
        by_cases d1 : m 19 n ≤ 0
        · rw [if_pos d1, if_neg (by decide)]
        · rw [if_neg d1]
          by_cases c2 : fb_prk s n = q
          · rw [if_pos c2, if_pos rfl]
            by_cases d2 : mf_node m (m 16 n) (m 19 n) = fb_tT i
            · rw [if_pos d2]
              by_cases d3 : mf_node m (m 16 n) (m 19 n - 1) = fb_tF i
              · exact absurd ⟨a, c2, hc.mp ⟨d1, d2, d3⟩⟩ c
              · rw [if_neg d3]
            · rw [if_neg d2]
          · rw [if_neg c2, if_neg (by decide)]
    by_cases a1 : m' 18 n = 1
    · rw [if_pos a1]
      exact key (Or.inl a1)
    · rw [if_neg a1]
      by_cases a2 : m' 18 n = 2
      · rw [if_pos a2]
        exact key (Or.inr a2)
      · rw [if_neg a2, if_neg (by decide), if_neg (fun h => h.1.elim a1 a2), ih, Nat.add_zero]
        rfl
/-- first: none, or the one that came first -/
theorem cp_first (ok : fb_okC fl fr s) (hfl : fl ≤ 12) (hF : cp_F fl s m) (hR : cp_R fl s m) (hK : cp_K fr s m) {i : Nat} (q : Int32) (hi : i < 32) (hfr : fr ≤ 100) : ∀ n, n ≤ fr → (mf_first m (fb_tF i) (fb_tT i) q n = -1 ∧ ∀ k, k < n → ¬ (s 38 k = 1 ∧ fb_prk s k = q ∧ fb_loc s k = nI i)) ∨ ∃ k, k < n ∧ mf_first m (fb_tF i) (fb_tT i) q n = nI k ∧ (s 38 k = 1 ∧ fb_prk s k = q ∧ fb_loc s k = nI i) ∧ ∀ k', k' < n → (s 38 k' = 1 ∧ fb_prk s k' = q ∧ fb_loc s k' = nI i) → m 20 k ≤ m 20 k' := by
  intro n
  induction n with
  | zero => intro _; exact Or.inl ⟨rfl, fun k hk => by omega⟩
  | succ n ih =>
    intro hn
    have hh := cp_here ok hfl hF hR hK (k := n) (i := i) (q := q) (by omega) hi
    simp only [mf_first]
    rcases ih (by omega) with ⟨e, hno⟩ | ⟨k, hk, e, hp, hmin⟩
    · by_cases c : mf_here m (fb_tF i) (fb_tT i) q n = true
      · rw [if_pos c, e, if_pos fb_m1]
        refine Or.inr ⟨n, by omega, rfl, hh.mp c, fun k' hk' h' => ?_⟩
        by_cases en : k' = n
        · subst en; exact Int32.le_refl _
        · exact absurd h' (hno k' (by omega))
      · rw [if_neg c]
        refine Or.inl ⟨e, fun k hk h => ?_⟩
        by_cases en : k = n
        · subst en; exact c (hh.mpr h)
        · exact hno k (by omega) h
    · have hnk : ¬ nI k < 0 := nI_pos (by omega)
      have hck : fb_n (nI k) = k := nI_clamp (by omega)
      by_cases c : mf_here m (fb_tF i) (fb_tT i) q n = true
      · rw [if_pos c, e, if_neg hnk, hck]
        by_cases le : m 20 k ≤ m 20 n
        · rw [if_pos le]
          refine Or.inr ⟨k, by omega, rfl, hp, fun k' hk' h' => ?_⟩
          by_cases en : k' = n
          · subst en; exact le
          · exact hmin k' (by omega) h'
        · rw [if_neg le]
          refine Or.inr ⟨n, by omega, rfl, hh.mp c, fun k' hk' h' => ?_⟩
          have lt := Int32.not_le.mp le
          by_cases en : k' = n
          · subst en; exact Int32.le_refl _
          · have h1 := hmin k' (by omega) h'
            have a := Int32.lt_iff_toInt_lt.mp lt
            have b := Int32.le_iff_toInt_le.mp h1
            exact Int32.le_iff_toInt_le.mpr (by omega)
      · rw [if_neg c]
        refine Or.inr ⟨k, by omega, e, hp, fun k' hk' h' => ?_⟩
        by_cases en : k' = n
        · subst en; exact absurd (hh.mpr h') c
        · exact hmin k' (by omega) h'
/-- sends -/
theorem cp_sends (ok : fb_okC fl fr s) (hfl : fl ≤ 12) (hR : cp_R fl s m) (hK : cp_K fr s m) {i : Nat} (hi : i < 32) : ∀ n, n ≤ fr → (mf_sends m (fb_tF i) (fb_tT i) n = true ↔ ∃ k, k < n ∧ s 38 k = 2 ∧ fb_loc s k = nI i) := by
  intro n
  induction n with
  | zero => intro _; exact ⟨fun h => (by cases h), fun ⟨k, hk, _⟩ => by omega⟩
  | succ n ih =>
    intro hn
    have ih := ih (by omega)
    have e18 := (hK n (by omega)).2.2.1
    simp only [mf_sends]
    by_cases c : mf_sends m (fb_tF i) (fb_tT i) n = true
    · rw [if_pos c]
      obtain ⟨k, hk, h⟩ := ih.mp c
      exact ⟨fun _ => ⟨k, by omega, h⟩, fun _ => rfl⟩
    · rw [if_neg c, ← e18]
      have no : ∀ k, k < n → ¬ (s 38 k = 2 ∧ fb_loc s k = nI i) := fun k hk h => c (ih.mpr ⟨k, hk, h⟩)
      by_cases c2 : s 38 n = 2
      · have hs : m 18 n < 4 := by rw [← e18, c2]; decide
        have hb := cp_btw ok hfl hR hK (k := n) (by omega) hi hs
        rw [if_pos c2]
        by_cases c3 : mf_btw m n (fb_tF i) (fb_tT i) = true
        · rw [if_pos c3]
          exact ⟨fun _ => ⟨n, by omega, c2, hb.mp c3⟩, fun _ => rfl⟩
        · rw [if_neg c3]
          refine ⟨fun h => (by cases h), fun ⟨k, hk, h1, h2⟩ => ?_⟩
          by_cases en : k = n
          · subst en; exact absurd (hb.mpr h2) c3
          · exact absurd ⟨h1, h2⟩ (no k (by omega))
      · rw [if_neg c2]
        refine ⟨fun h => (by cases h), fun ⟨k, hk, h1, h2⟩ => ?_⟩
        by_cases en : k = n
        · subst en; exact absurd h1 c2
        · exact absurd ⟨h1, h2⟩ (no k (by omega))
end CPL
