/-! pure: the class's own invariant. A frame has a code: where it is (c: below 96 the queue or wire it lies in, 96 + i sent by port i, else 200), a code by whom it is held (d: 2 i + q or 200) and a length (l) -/
def fb_cu (c : Nat → Nat) (k b : Nat) : Nat → Nat := fun x => if x = k then b else c x
def fb_Qu (Q : Nat → List Nat) (j : Nat) (L : List Nat) : Nat → List Nat := fun x => if x = j then L else Q x
def ci_q (fr : Nat) (s : fb_S) (c : Nat → Nat) (Q : Nat → List Nat) : Prop := ∀ j, j < 96 → fb_qu s j (Q j) ∧ (Q j).Nodup ∧ ∀ k, k ∈ Q j ↔ (k < fr ∧ c k = j)
def ci_sum (c l : Nat → Nat) (j n : Nat) : Nat := fb_sum (fun k => if c k = j then l k else 0) n
def ci_l (fr : Nat) (s : fb_S) (c l : Nat → Nat) : Prop := ∀ j, j < 96 → s 21 j = nI (ci_sum c l j fr)
def ci_s (fr : Nat) (s : fb_S) (c : Nat → Nat) : Prop := ∀ i, i < 32 → ∀ k, k < fr → (s 13 i = nI k ↔ c k = 96 + i)
def ci_h (fr : Nat) (s : fb_S) (d l : Nat → Nat) : Prop := ∀ j, j < 64 → s 18 j = nI (ci_sum d l j fr)
theorem ci_q_congr {fr : Nat} {s t : fb_S} {c c' : Nat → Nat} {Q : Nat → List Nat} (h : ci_q fr s c Q) (e19 : ∀ j, t 19 j = s 19 j) (e20 : ∀ j, t 20 j = s 20 j) (e44 : ∀ x, t 44 x = s 44 x) (ec : ∀ k, k < fr → c' k = c k) : ci_q fr t c' Q := fun j hj => by
  obtain ⟨a, b, d⟩ := h j hj
  refine ⟨fb_qu_congr (fun k _ => e44 k) (e19 j) (e20 j) a, b, fun k => ?_⟩
  rw [d k]
  exact ⟨fun q => ⟨q.1, (ec k q.1).trans q.2⟩, fun q => ⟨q.1, (ec k q.1).symm.trans q.2⟩⟩
theorem ci_31 {fr : Nat} {s : fb_S} {c : Nat → Nat} {Q : Nat → List Nat} (h : ci_q fr s c Q) (hfr : fr ≤ 100) {j : Nat} (hj : j < 96) : ∀ x, x ∈ Q j → x < 2 ^ 31 := fun x hx => by
  have := (((h j hj).2.2 x).mp hx).1
  omega
theorem ci_q_add {fr : Nat} {s t : fb_S} {c : Nat → Nat} {Q : Nat → List Nat} {k b : Nat} (h : ci_q fr s c Q) (hfr : fr ≤ 100) (hb : b < 96) (hk : k < fr) (hc : 96 ≤ c k) (e19 : ∀ j, t 19 j = cf_add b k s 19 j) (e20 : ∀ j, t 20 j = cf_add b k s 20 j) (e44 : ∀ x, t 44 x = cf_add b k s 44 x) : ci_q fr t (fb_cu c k b) (fb_Qu Q b (Q b ++ [k])) := by
  have hno : ∀ j, j < 96 → k ∉ Q j := fun j hj hm => by
    have := (((h j hj).2.2 k).mp hm).2
    omega
  intro j hj
  obtain ⟨hq, hn, hm⟩ := h j hj
  by_cases e : j = b
  · subst e
    have q1 : fb_qu (cf_add j k s) j (Q j ++ [k]) := qu_add hq (hno j hj) hn (ci_31 h hfr hj)
    have eQ : fb_Qu Q j (Q j ++ [k]) j = Q j ++ [k] := if_pos rfl
    rw [eQ]
    refine ⟨fb_qu_congr (fun x _ => e44 x) (e19 j) (e20 j) q1, ?_, fun x => ?_⟩
    · refine List.nodup_append.mpr ⟨hn, by simp, fun x hx y hy => ?_⟩
      have : y = k := by simpa using hy
      subst this
      exact fun q => hno j hj (q ▸ hx)
    · rw [List.mem_append, hm x]
      unfold fb_cu
      by_cases ex : x = k
      · subst ex
        rw [if_pos rfl]
        exact ⟨fun _ => ⟨hk, rfl⟩, fun _ => Or.inr (by simp)⟩
      · rw [if_neg ex]
        exact ⟨fun q => q.elim id (fun q => absurd (by simpa using q) ex), Or.inl⟩
  · have eQ : fb_Qu Q b (Q b ++ [k]) j = Q j := if_neg e
    rw [eQ]
    obtain ⟨hq2, hn2, hm2⟩ := h b hb
    refine ⟨fb_qu_congr (s := cf_add b k s) (fun x _ => e44 x) (e19 j) (e20 j) (fb_qu_congr (fun x hx => cf_add_44 (fun q => hno j hj (q ▸ hx)) (fun hpos q => ?_)) (cf_add_keep (by decide) (fun _ => e) (fun h9 => absurd h9 (by decide)) (fun h9 => absurd h9 (by decide))) (cf_add_keep (by decide) (fun h9 => absurd h9 (by decide)) (fun _ => e) (fun h9 => absurd h9 (by decide))) hq), hn, fun x => ?_⟩
    · rcases List.eq_nil_or_concat (Q b) with en | ⟨r, z, ez⟩
      · rw [hq2.2.2, en] at hpos
        exact hpos fb_m1
      · rw [List.concat_eq_append] at ez
        have hz : z ∈ Q b := by rw [ez]; simp
        have e20z : s 20 b = nI z := by rw [hq2.2.2, ez]; exact fb_hd_rev r z
        rw [e20z, show fb_n (nI z) = z from nI_clamp (ci_31 h hfr hb z hz)] at q
        have a1 := ((hm2 z).mp hz).2
        have a2 := ((hm x).mp hx).2
        rw [q] at a2
        omega
    · rw [hm x]
      unfold fb_cu
      by_cases ex : x = k
      · subst ex
        rw [if_pos rfl]
        exact ⟨fun q => by omega, fun q => absurd q.2.symm e⟩
      · rw [if_neg ex]
theorem ci_q_rem {fr : Nat} {s t : fb_S} {c : Nat → Nat} {Q : Nat → List Nat} {k a x0 : Nat} {L : List Nat} (h : ci_q fr s c Q) (hfr : fr ≤ 100) (ha : a < 96) (hQ : Q a = k :: L) (hx0 : 96 ≤ x0) (e19 : ∀ j, t 19 j = cf_rem a s 19 j) (e20 : ∀ j, t 20 j = cf_rem a s 20 j) (e44 : ∀ x, t 44 x = cf_rem a s 44 x) : ci_q fr t (fb_cu c k x0) (fb_Qu Q a L) := by
  obtain ⟨hqa, hna, hma⟩ := h a ha
  rw [hQ] at hqa hna
  have hka : c k = a := ((hma k).mp (by rw [hQ]; simp)).2
  have hkL : k ∉ L := (List.nodup_cons.mp hna).1
  have h31 : ∀ x, x ∈ k :: L → x < 2 ^ 31 := fun x hx => ci_31 h hfr ha x (by rw [hQ]; exact hx)
  intro j hj
  obtain ⟨hq, hn, hm⟩ := h j hj
  by_cases e : j = a
  · subst e
    have eQ : fb_Qu Q j L j = L := if_pos rfl
    rw [eQ]
    refine ⟨fb_qu_congr (fun x _ => e44 x) (e19 j) (e20 j) (qu_rem hqa hna h31), (List.nodup_cons.mp hna).2, fun x => ?_⟩
    unfold fb_cu
    by_cases ex : x = k
    · subst ex
      rw [if_pos rfl]
      exact ⟨fun q => absurd q hkL, fun q => by omega⟩
    · rw [if_neg ex, ← hm x, hQ]
      exact ⟨fun q => List.mem_cons_of_mem _ q, fun q => (List.mem_cons.mp q).resolve_left ex⟩
  · have eQ : fb_Qu Q a L j = Q j := if_neg e
    rw [eQ]
    refine ⟨fb_qu_congr (s := cf_rem a s) (fun x _ => e44 x) (e19 j) (e20 j) (fb_qu_congr (fun x hx => cf_rem_44 (fun _ q => ?_)) (cf_rem_keep (by decide) (fun _ => e) (fun h9 => absurd h9 (by decide)) (fun h9 => absurd h9 (by decide))) (cf_rem_keep (by decide) (fun h9 => absurd h9 (by decide)) (fun _ => e) (fun h9 => absurd h9 (by decide))) hq), hn, fun x => ?_⟩
    · have e19k : s 19 a = nI k := hqa.2.1
      rw [e19k, show fb_n (nI k) = k from nI_clamp (h31 k (by simp))] at q
      have := ((hm x).mp hx).2
      rw [q] at this
      omega
    · rw [hm x]
      unfold fb_cu
      by_cases ex : x = k
      · subst ex
        rw [if_pos rfl]
        exact ⟨fun q => by omega, fun q => by omega⟩
      · rw [if_neg ex]
/-- sums where one code changes -/
theorem ci_sum_mv {c l : Nat → Nat} {k b j n : Nat} (hk : k < n) : ci_sum (fb_cu c k b) l j n + (if c k = j then l k else 0) = ci_sum c l j n + (if b = j then l k else 0) := by
  have h := fb_sum_one (g := fun x => if c x = j then l x else 0) (h := fun x => if fb_cu c k b x = j then l x else 0) (n := n) (k0 := k) hk (fun x _ hne => by simp only [fb_cu, if_neg hne])
  have e : (if fb_cu c k b k = j then l k else 0) = if b = j then l k else 0 := by simp only [fb_cu, if_pos]
  simp only [e] at h
  exact h
theorem ci_sum_le {c l : Nat → Nat} {j n : Nat} (h : ∀ k, k < n → l k ≤ 4) : ci_sum c l j n ≤ 4 * n := by
  refine fb_sum_le (fun k hk => ?_)
  split
  · exact h k hk
  · omega
theorem ci_sum_congr {c c' l l' : Nat → Nat} {j n : Nat} (h : ∀ k, k < n → c k = c' k ∧ l k = l' k) : ci_sum c l j n = ci_sum c' l' j n := fb_sum_congr (fun k hk => by simp only [(h k hk).1, (h k hk).2])
