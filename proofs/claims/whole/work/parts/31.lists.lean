/-! pure: loops, sums, queues chained through the frames -/
theorem fb_it_inv {α : Type} {f : Nat → α → α} (I : Nat → α → Prop) {n : Nat} {s : α} (h0 : I 0 s) (hs : ∀ i x, i < n → I i x → I (i + 1) (f i x)) : I n (fb_it f n s) := by
  have h : ∀ k, k ≤ n → I k (fb_it f k s) := by
    intro k
    induction k with
    | zero => exact fun _ => h0
    | succ k ih => exact fun hk => hs k _ (by omega) (ih (by omega))
  exact h n (Nat.le_refl n)
theorem fb_it_congr {α : Type} {f g : Nat → α → α} {n : Nat} {s : α} (h : ∀ i x, i < n → f i x = g i x) : fb_it f n s = fb_it g n s := by
  induction n with
  | zero => rfl
  | succ n ih =>
    show f n (fb_it f n s) = g n (fb_it g n s)
    rw [ih (fun i x hi => h i x (by omega)), h n _ (by omega)]
/-- a field that no step touches -/
theorem fb_it_keep {f : Nat → fb_S → fb_S} {n : Nat} {s : fb_S} (F j : Nat) (h : ∀ i x, i < n → f i x F j = x F j) : fb_it f n s F j = s F j :=
  fb_it_inv (I := fun _ x => x F j = s F j) rfl (fun i x hi hx => (h i x hi).trans hx)
/-- a sum of Nats -/
def fb_sum (g : Nat → Nat) : Nat → Nat
  | 0 => 0
  | n + 1 => fb_sum g n + g n
theorem fb_sum_congr {g h : Nat → Nat} {n : Nat} (e : ∀ k, k < n → g k = h k) : fb_sum g n = fb_sum h n := by
  induction n with
  | zero => rfl
  | succ n ih => simp only [fb_sum]; rw [ih (fun k hk => e k (by omega)), e n (by omega)]
theorem fb_sum_one {g h : Nat → Nat} {n k0 : Nat} (hk : k0 < n) (e : ∀ k, k < n → k ≠ k0 → h k = g k) : fb_sum h n + g k0 = fb_sum g n + h k0 := by
  induction n with
  | zero => omega
  | succ n ih =>
    simp only [fb_sum]
    by_cases hn : k0 = n
    · subst hn
      rw [fb_sum_congr (g := h) (h := g) (fun k hk' => e k (by omega) (by omega))]
      omega
    · have h1 := ih (by omega) (fun k hk' hne => e k (by omega) hne)
      rw [e n (by omega) (Ne.symm hn)]
      omega
theorem fb_sum_le {g : Nat → Nat} {n b : Nat} (h : ∀ k, k < n → g k ≤ b) : fb_sum g n ≤ b * n := by
  induction n with
  | zero => simp [fb_sum]
  | succ n ih =>
    simp only [fb_sum]
    have h1 := ih (fun k hk => h k (by omega))
    have h2 := h n (by omega)
    rw [Nat.mul_succ]
    omega
/-- the queue j holds the frames L, in their order: 19 first, 20 end, 44 next -/
def fb_hd (L : List Nat) : Int32 := match L with
  | [] => -1
  | k :: _ => nI k
def fb_ch (s : fb_S) : List Nat → Prop
  | [] => True
  | k :: r => s 44 k = fb_hd r ∧ fb_ch s r
def fb_qu (s : fb_S) (j : Nat) (L : List Nat) : Prop := fb_ch s L ∧ s 19 j = fb_hd L ∧ s 20 j = fb_hd L.reverse
theorem fb_ch_congr {s t : fb_S} {L : List Nat} (h : ∀ k, k ∈ L → t 44 k = s 44 k) (hs : fb_ch s L) : fb_ch t L := by
  induction L with
  | nil => trivial
  | cons k r ih => exact ⟨(h k (by simp)).trans hs.1, ih (fun x hx => h x (by simp [hx])) hs.2⟩
theorem fb_qu_congr {s t : fb_S} {j : Nat} {L : List Nat} (h : ∀ k, k ∈ L → t 44 k = s 44 k) (h1 : t 19 j = s 19 j) (h2 : t 20 j = s 20 j) (hs : fb_qu s j L) : fb_qu t j L :=
  ⟨fb_ch_congr h hs.1, h1.trans hs.2.1, h2.trans hs.2.2⟩
theorem fb_hd_neg {L : List Nat} (hL : ∀ k, k ∈ L → k < 2 ^ 31) : fb_hd L < 0 ↔ L = [] := by
  cases L with
  | nil => exact ⟨fun _ => rfl, fun _ => fb_m1⟩
  | cons k r => exact ⟨fun h => absurd h (nI_pos (hL k (by simp))), fun h => (by cases h)⟩
/-- what add touches -/
theorem cf_add_keep {j k : Nat} {s : fb_S} {F i : Nat} (hF : F ≠ 44) (h19 : F = 19 → i ≠ j) (h20 : F = 20 → i ≠ j) (h21 : F = 21 → i ≠ j) : cf_add j k s F i = s F i := by
  have a : ∀ (x : fb_S) (v : Int32), fb_up x 21 j v F i = x F i := fun x v => by
    by_cases e : F = 21
    · exact fb_up_i x _ _ v (h21 e)
    · exact fb_up_F x _ _ v e
  have b : ∀ (x : fb_S) (v : Int32), fb_up x 20 j v F i = x F i := fun x v => by
    by_cases e : F = 20
    · exact fb_up_i x _ _ v (h20 e)
    · exact fb_up_F x _ _ v e
  have d : ∀ (x : fb_S) (v : Int32), fb_up x 19 j v F i = x F i := fun x v => by
    by_cases e : F = 19
    · exact fb_up_i x _ _ v (h19 e)
    · exact fb_up_F x _ _ v e
  simp only [cf_add]
  rw [a, b]
  split
  · rw [d, fb_up_F _ _ _ _ hF]
  · rw [fb_up_F _ _ _ _ hF, fb_up_F _ _ _ _ hF]
theorem cf_rem_keep {j : Nat} {s : fb_S} {F i : Nat} (hF : F ≠ 44) (h19 : F = 19 → i ≠ j) (h20 : F = 20 → i ≠ j) (h21 : F = 21 → i ≠ j) : cf_rem j s F i = s F i := by
  have a : ∀ (x : fb_S) (v : Int32), fb_up x 21 j v F i = x F i := fun x v => by
    by_cases e : F = 21
    · exact fb_up_i x _ _ v (h21 e)
    · exact fb_up_F x _ _ v e
  have b : ∀ (x : fb_S) (v : Int32), fb_up x 20 j v F i = x F i := fun x v => by
    by_cases e : F = 20
    · exact fb_up_i x _ _ v (h20 e)
    · exact fb_up_F x _ _ v e
  have d : ∀ (x : fb_S) (v : Int32), fb_up x 19 j v F i = x F i := fun x v => by
    by_cases e : F = 19
    · exact fb_up_i x _ _ v (h19 e)
    · exact fb_up_F x _ _ v e
  simp only [cf_rem]
  split
  · rfl
  · rw [a, fb_up_F _ _ _ _ hF]
    split
    · rw [b, d]
    · rw [d]
/-- next of the frames, behind add: k has none, the last one has k -/
theorem cf_add_44 {j k : Nat} {s : fb_S} {x : Nat} (hx : x ≠ k) (he : ¬ s 20 j < 0 → x ≠ fb_n (s 20 j)) : cf_add j k s 44 x = s 44 x := by
  simp only [cf_add]
  rw [fb_up_F _ _ _ _ (by decide), fb_up_F _ _ _ _ (by decide), fb_up_F s k j _ (show (20 : Nat) ≠ 44 by decide)]
  · split
    · rw [fb_up_F _ _ _ _ (by decide), fb_up_i _ _ _ _ hx]
    · rename_i h
      rw [fb_up_i _ _ _ _ (he h), fb_up_i _ _ _ _ hx]
theorem fb_ch_snoc {s t : fb_S} {k e : Nat} : ∀ L : List Nat, fb_ch s (L ++ [e]) → (∀ x, x ∈ L → t 44 x = s 44 x) → t 44 e = nI k → t 44 k = -1 → fb_ch t (L ++ [e] ++ [k])
  | [], _, _, h1, h2 => ⟨h1, h2, trivial⟩
  | a :: r, hs, hx, h1, h2 => by
    refine ⟨?_, fb_ch_snoc r hs.2 (fun x q => hx x (by simp [q])) h1 h2⟩
    rw [hx a (by simp)]
    have h0 : s 44 a = fb_hd (r ++ [e]) := hs.1
    rw [h0]
    cases r with
    | nil => rfl
    | cons b r => rfl
theorem fb_hd_rev (L : List Nat) (e : Nat) : fb_hd (L ++ [e]).reverse = nI e := by
  rw [List.reverse_append]
  rfl
theorem qu_add {s : fb_S} {j k : Nat} {L : List Nat} (hq : fb_qu s j L) (hk : k ∉ L) (hn : L.Nodup) (h31 : ∀ x, x ∈ L → x < 2 ^ 31) : fb_qu (cf_add j k s) j (L ++ [k]) := by
  obtain ⟨hc, h1, h2⟩ := hq
  rcases List.eq_nil_or_concat L with rfl | ⟨r, e, rfl⟩
  · have h20 : s 20 j < 0 := by rw [h2]; exact fb_m1
    simp only [cf_add]
    rw [if_pos (by rw [fb_up_F _ _ _ _ (by decide)]; exact h20)]
    refine ⟨⟨?_, trivial⟩, ?_, ?_⟩
    · rw [fb_up_F _ _ _ _ (by decide), fb_up_F _ _ _ _ (by decide), fb_up_F _ _ _ _ (by decide), fb_up_same]; rfl
    · rw [fb_up_F _ _ _ _ (by decide), fb_up_F _ _ _ _ (by decide), fb_up_same]; rfl
    · rw [fb_up_F _ _ _ _ (by decide), fb_up_same]; rfl
  · rw [List.concat_eq_append] at *
    have he : s 20 j = nI e := h2.trans (fb_hd_rev r e)
    have he31 : e < 2 ^ 31 := h31 e (by simp)
    have hne : ¬ s 20 j < 0 := by rw [he]; exact nI_pos he31
    have hce : fb_n (s 20 j) = e := by rw [he]; exact nI_clamp he31
    have hek : e ≠ k := fun q => hk (by simp [q])
    have hr : ∀ x, x ∈ r → x ≠ e := fun x hx q => by
      have := List.nodup_append.mp hn
      exact this.2.2 x hx e (by simp) q
    refine ⟨fb_ch_snoc r hc (fun x hx => cf_add_44 (fun q => hk (by simp [← q, hx])) (fun _ => by rw [hce]; exact hr x hx)) ?_ ?_, ?_, ?_⟩
    · simp only [cf_add]
      rw [fb_up_F _ _ _ _ (by decide), fb_up_F _ _ _ _ (by decide), if_neg (by rw [fb_up_F _ _ _ _ (by decide)]; exact hne), fb_up_F s _ _ _ (show (20 : Nat) ≠ 44 by decide), hce, fb_up_same]
    · simp only [cf_add]
      rw [fb_up_F _ _ _ _ (by decide), fb_up_F _ _ _ _ (by decide), if_neg (by rw [fb_up_F _ _ _ _ (by decide)]; exact hne), fb_up_F s _ _ _ (show (20 : Nat) ≠ 44 by decide), hce, fb_up_i _ _ _ _ (Ne.symm hek), fb_up_same]
    · simp only [cf_add]
      rw [fb_up_F _ _ _ _ (by decide), fb_up_F _ _ _ _ (by decide), if_neg (by rw [fb_up_F _ _ _ _ (by decide)]; exact hne), fb_up_F _ _ _ _ (by decide), fb_up_F _ _ _ _ (by decide), h1]
      cases r with
      | nil => rfl
      | cons b r => rfl
    · rw [fb_hd_rev]
      simp only [cf_add]
      rw [fb_up_F _ _ _ _ (by decide), fb_up_same]
theorem cf_rem_44 {j : Nat} {s : fb_S} {x : Nat} (hx : ¬ s 19 j < 0 → x ≠ fb_n (s 19 j)) : cf_rem j s 44 x = s 44 x := by
  simp only [cf_rem]
  split
  · rfl
  · rename_i h
    rw [fb_up_F _ _ _ _ (by decide), fb_up_i _ _ _ _ (hx h)]
    split
    · rw [fb_up_F _ _ _ _ (by decide), fb_up_F _ _ _ _ (by decide)]
    · rw [fb_up_F _ _ _ _ (by decide)]
theorem qu_rem {s : fb_S} {j k : Nat} {L : List Nat} (hq : fb_qu s j (k :: L)) (hn : (k :: L).Nodup) (h31 : ∀ x, x ∈ k :: L → x < 2 ^ 31) : fb_qu (cf_rem j s) j L := by
  obtain ⟨hc, h1, h2⟩ := hq
  have h19 : s 19 j = nI k := h1
  have hk31 : k < 2 ^ 31 := h31 k (by simp)
  have hne : ¬ s 19 j < 0 := by rw [h19]; exact nI_pos hk31
  have hck : fb_n (s 19 j) = k := by rw [h19]; exact nI_clamp hk31
  have hkL : k ∉ L := (List.nodup_cons.mp hn).1
  have hLn := fb_hd_neg (L := L) (fun x hx => h31 x (by simp [hx]))
  have e44 : s 44 k = fb_hd L := hc.1
  refine ⟨fb_ch_congr (fun x hx => cf_rem_44 (fun _ => by rw [hck]; exact fun q => hkL (q ▸ hx))) hc.2, ?_, ?_⟩
  · simp only [cf_rem]
    rw [if_neg hne, hck, e44]
    rw [fb_up_F _ _ _ _ (by decide), fb_up_F _ _ _ _ (by decide)]
    split
    · rw [fb_up_F _ _ _ _ (by decide), fb_up_same]
    · rw [fb_up_same]
  · simp only [cf_rem]
    rw [if_neg hne, hck, e44]
    rw [fb_up_F _ _ _ _ (by decide), fb_up_F _ _ _ _ (by decide), fb_up_same]
    by_cases c : L = []
    · rw [if_pos (hLn.mpr c), fb_up_same, c]
      rfl
    · rw [if_neg (fun q => c (hLn.mp q)), fb_up_F _ _ _ _ (by decide), h2]
      rw [List.reverse_cons]
      cases hr : L.reverse with
      | nil => exact absurd (List.reverse_eq_nil_iff.mp hr) c
      | cons b r => rfl
