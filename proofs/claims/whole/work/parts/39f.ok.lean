/-! a tick: ranges behind each function -/
section OKC
variable {fl fr : Nat} {s : fb_S}
theorem ok_add {j k : Nat} (h : fb_okC fl fr s) (hk : k < fr) (hfr : fr ≤ 100) : fb_okC fl fr (cf_add j k s) := by
  have rk : fb_rg fr (nI k) := fb_rk hk (by omega)
  have rm : fb_rg fr (-1) := Or.inl rfl
  simp only [cf_add]
  refine fb_okC_up (fb_okC_up ?_ rk) trivial
  split
  · exact fb_okC_up (fb_okC_up h rm) rk
  · exact fb_okC_up (fb_okC_up h rm) rk
theorem ok_rem {j : Nat} (h : fb_okC fl fr s) : fb_okC fl fr (cf_rem j s) := by
  have rm : fb_rg fr (-1) := Or.inl rfl
  have r44 : fb_rg fr (s 44 (fb_n (s 19 j))) := h 44 _
  simp only [cf_rem]
  split
  · exact h
  · refine fb_okC_up (fb_okC_up ?_ rm) trivial
    split
    · exact fb_okC_up (fb_okC_up h r44) rm
    · exact fb_okC_up h r44
theorem ok_release {k i : Nat} (h : fb_okC fl fr s) : fb_okC fl fr (cf_release k i s) := by
  simp only [cf_release]
  split
  · split
    · exact fb_okC_up h trivial
    · exact fb_okC_up (fb_okC_up h trivial) (Or.inl rfl)
  · exact fb_okC_up h trivial
theorem ok_endS {i : Nat} (h : fb_okC fl fr s) (hfr : fr ≤ 100) : fb_okC fl fr (cf_endSending i s) := by
  have rm : fb_rg fr (-1) := Or.inl rfl
  simp only [cf_endSending]
  split
  · exact h
  · rename_i h1
    have hk : fb_n (s 13 i) < fr := fb_rl (h 13 i) h1
    split
    · split
      · exact ok_add (fb_okC_up (fb_okC_up (fb_okC_up h rm) trivial) trivial) hk hfr
      · exact ok_release (ok_add (fb_okC_up (fb_okC_up (fb_okC_up h rm) trivial) trivial) hk hfr)
    · exact h
theorem ok_enq {k : Nat} (h : fb_okC fl fr s) (hk : k < fr) (hfr : fr ≤ 100) : fb_okC fl fr (cf_enq k s) := by
  simp only [cf_enq]
  split
  · exact h
  · exact ok_add (fb_okC_up (fb_okC_up h trivial) trivial) hk hfr
theorem ok_hold {i k : Nat} (hi : i < 32) (h : fb_okC fl fr s) (hk : k < fr) (hfr : fr ≤ 100) : fb_okC fl fr (cf_hold i k s) := by
  have h1 : ∀ v, fb_okC fl fr (fb_up s 18 (2 * i + fb_n (s 22 (fb_n (s 36 k)))) v) := fun v => fb_okC_up h trivial
  have h2 : ∀ (c1 c2 : Prop) [Decidable c1] [Decidable c2] (x : fb_S), fb_okC fl fr x → fb_okC fl fr (if c1 then (if c2 then x else fb_up x 14 i 1) else x) := fun c1 c2 _ _ x hx => by
    split
    · split
      · exact hx
      · exact fb_okC_up hx (Or.inr rfl)
    · exact hx
  have h3 : ∀ x, fb_okC fl fr x → fb_okC fl fr (cf_enq k (fb_up (fb_up x 42 k (nI i)) 41 k (fb_up x 42 k (nI i) 41 k + 1))) := fun x hx => ok_enq (fb_okC_up (fb_okC_up hx (fb_rk hi (by decide))) trivial) hk hfr
  have h4 : ∀ (c : Prop) [Decidable c] (x : fb_S), fb_okC fl fr x → fb_okC fl fr (if c then x else fb_up x 40 k 1) := fun c _ x hx => by
    split
    · exact hx
    · exact fb_okC_up hx (Or.inr rfl)
  simp only [cf_hold]
  exact h4 _ _ (h3 _ (h2 _ _ _ (h1 _)))
theorem ok_receive {k : Nat} (h : fb_okC fl fr s) : fb_okC fl fr (cf_receive k s) := by
  simp only [cf_receive]
  split
  · exact fb_okC_up (fb_okC_up (fb_okC_up h trivial) trivial) trivial
  · exact fb_okC_up (fb_okC_up (fb_okC_up (fb_okC_up h trivial) trivial) trivial) (Or.inr rfl)
theorem ok_drop {k : Nat} (h : fb_okC fl fr s) : fb_okC fl fr (cf_drop k s) := fb_okC_up (fb_okC_up h trivial) trivial
theorem ok_deliver {i : Nat} (hi : i < 32) (h : fb_okC fl fr s) (hfr : fr ≤ 100) : fb_okC fl fr (cf_deliver i s) := by
  simp only [cf_deliver]
  split
  · exact h
  · rename_i h1
    have hk : fb_n (s 19 (3 * i + 2)) < fr := fb_rl (h 19 _) h1
    have h2 : ∀ v, fb_okC fl fr (fb_up (cf_rem (3 * i + 2) s) 39 (fb_n (s 19 (3 * i + 2))) v) := fun v => fb_okC_up (ok_rem h) trivial
    split
    · split
      · exact ok_receive (h2 _)
      · split
        · exact ok_hold hi (h2 _) hk hfr
        · exact ok_drop (h2 _)
    · exact h
theorem ok_cstep {i : Nat} (h : fb_okC fl fr s) : fb_okC fl fr (cf_step i s) := by
  have o12 := fb_o01 (show s 12 i = 0 ∨ s 12 i = 1 from h 12 i)
  have h1 : ∀ (c : Prop) [Decidable c] (j : Nat), fb_okC fl fr (if c then fb_up s 17 j 0 else s) := fun c _ j => by
    split
    · exact fb_okC_up h trivial
    · exact h
  simp only [cf_step]
  split
  · exact fb_okC_up (h1 _ _) o12
  · exact fb_okC_up (fb_okC_up (h1 _ _) o12) trivial
theorem ok_begin {i k : Nat} (h : fb_okC fl fr s) (hk : k < fr) (hfr : fr ≤ 100) : fb_okC fl fr (cf_begin i k s) := by
  have rk : fb_rg fr (nI k) := fb_rk hk (by omega)
  simp only [cf_begin, cf_waitFrom]
  split
  · exact fb_okC_up (fb_okC_up (fb_okC_up (fb_okC_up (fb_okC_up (ok_rem h) trivial) rk) trivial) trivial) trivial
  · exact fb_okC_up (fb_okC_up (fb_okC_up (fb_okC_up (ok_rem h) trivial) rk) trivial) trivial
end OKC
/-! sums, counts, lists where one frame moves -/
theorem sm_mv {F : Nat} {s s' : fb_S} {c l : Nat → Nat} {k b j n : Nat} (hk : k < n) (h : s F j = nI (ci_sum c l j n)) (hcb : c k = j → b ≠ j) (e : s' F j = if c k = j then s F j - nI (l k) else if b = j then s F j + nI (l k) else s F j) : s' F j = nI (ci_sum (fb_cu c k b) l j n) := by
  have m := ci_sum_mv (c := c) (l := l) (k := k) (b := b) (j := j) (n := n) hk
  rw [e, h]
  by_cases c1 : c k = j
  · rw [if_pos c1]
    rw [if_pos c1, if_neg (hcb c1)] at m
    rw [fb_sub (by omega)]
    congr 1
    omega
  · rw [if_neg c1]
    rw [if_neg c1] at m
    by_cases c2 : b = j
    · rw [if_pos c2, nI_add]
      rw [if_pos c2] at m
      congr 1
      omega
    · rw [if_neg c2]
      rw [if_neg c2] at m
      congr 1
      omega
theorem count_k {m' m : fb_S} {n : Nat} {x : Int32} (h16 : ∀ j, j < n → m' 16 j = m 16 j) (h18 : ∀ j, j < n → (m' 18 j = x ↔ m 18 j = x)) (f : Int32) : mf_count m' f x n = mf_count m f x n := by
  induction n with
  | zero => rfl
  | succ n ih =>
    have ih := ih (fun j hj => h16 j (by omega)) (fun j hj => h18 j (by omega))
    have e := h18 n (by omega)
    simp only [mf_count, h16 n (by omega), ih]
    by_cases c : m 18 n = x
    · rw [if_pos c, if_pos (e.mpr c)]
    · rw [if_neg c, if_neg (fun q => c (e.mp q))]
theorem last_k {m' m : fb_S} {n : Nat} {f : Int32} (h6 : m' 6 0 = m 6 0) (h16 : ∀ j, j < n → m' 16 j = m 16 j) (h18 : ∀ j, j < n → m 16 j = f → (m' 18 j = 4 ↔ m 18 j = 4)) (h21 : ∀ j, j < n → m 18 j = 4 → m' 21 j = m 21 j) (hn : n < 2 ^ 31) : mf_last m' f n = mf_last m f n ∧ (¬ mf_last m f n < 0 → m 18 (fb_n (mf_last m f n)) = 4) := by
  induction n with
  | zero => exact ⟨rfl, fun h => absurd fb_m1 h⟩
  | succ n ih =>
    obtain ⟨ih, ih2⟩ := ih (fun j hj => h16 j (by omega)) (fun j hj => h18 j (by omega)) (fun j hj => h21 j (by omega)) (by omega)
    have hF : mf_isF m' f = mf_isF m f := by simp only [mf_isF, h6]
    have hr : mf_rcv m' f n = mf_rcv m f n := by
      simp only [mf_rcv, h16 n (by omega)]
      by_cases c : m 16 n = f
      · have e := h18 n (by omega) c
        rw [if_pos c, if_pos c]
        by_cases c2 : m 18 n = 4
        · rw [if_pos c2, if_pos (e.mpr c2)]
        · rw [if_neg c2, if_neg (fun q => c2 (e.mp q))]
      · rw [if_neg c, if_neg c]
    have r4 : mf_rcv m f n = true → m 18 n = 4 := fun h => by
      simp only [mf_rcv] at h
      by_cases c : m 16 n = f
      · rw [if_pos c] at h
        by_cases c2 : m 18 n = 4
        · exact c2
        · rw [if_neg c2] at h
          cases h
      · rw [if_neg c] at h
        cases h
    simp only [mf_last, hF, hr, ih]
    by_cases cF : mf_isF m f = true
    · rw [if_pos cF, if_pos cF]
      by_cases cr : mf_rcv m f n = true
      · rw [if_pos cr, if_pos cr]
        by_cases c : mf_last m f n < 0
        · rw [if_pos c, if_pos c]
          exact ⟨rfl, fun _ => by rw [fb_nI (by omega)]; exact r4 cr⟩
        · rw [if_neg c, if_neg c]
          have hl := fb_rl (rg_last m f n (by omega)) c
          rw [h21 n (by omega) (r4 cr), h21 _ (by omega) (ih2 c)]
          refine ⟨rfl, fun h => ?_⟩
          by_cases c3 : m 21 n ≤ m 21 (fb_n (mf_last m f n))
          · rw [if_pos c3]
            exact ih2 c
          · rw [if_neg c3, fb_nI (by omega)]
            exact r4 cr
      · rw [if_neg cr, if_neg cr]
        exact ⟨rfl, ih2⟩
    · rw [if_neg cF, if_neg cF]
      exact ⟨rfl, ih2⟩
theorem pw_c {f f' : Nat → Int32} {L : List Nat} (h : ∀ a, a ∈ L → f' a = f a) (hp : L.Pairwise (fun a b => f a < f b)) : L.Pairwise (fun a b => f' a < f' b) := by
  induction L with
  | nil => exact List.Pairwise.nil
  | cons a L ih =>
    obtain ⟨h1, h2⟩ := List.pairwise_cons.mp hp
    refine List.pairwise_cons.mpr ⟨fun b hb => ?_, ih (fun x hx => h x (by simp [hx])) h2⟩
    rw [h a (by simp), h b (by simp [hb])]
    exact h1 b hb
theorem pw_snoc {f : Nat → Int32} {L : List Nat} {k : Nat} (hp : L.Pairwise (fun a b => f a < f b)) (h : ∀ a, a ∈ L → f a < f k) : (L ++ [k]).Pairwise (fun a b => f a < f b) := by
  refine List.pairwise_append.mpr ⟨hp, by simp, fun a ha b hb => ?_⟩
  have : b = k := by simpa using hb
  subst this
  exact h a ha
