/-! new cells of the class: a frame, a flow with its route -/
def fb_ad (ad : Nat → Nat → Nat) (K I q : Nat) : Nat → Nat → Nat := fun k i => if k = K ∧ i = I then q else ad k i
theorem fb_ad_ne {ad : Nat → Nat → Nat} {K I q k i : Nat} (h : ¬ (k = K ∧ i = I)) : fb_ad ad K I q k i = ad k i := if_neg h
theorem fb_ad_eq {ad : Nat → Nat → Nat} {K I q : Nat} : fb_ad ad K I q K I = q := if_pos ⟨rfl, rfl⟩
theorem fb_ro_ad {a b : Nat → Nat} {n : Nat} {z : Int32} (h : fb_rg n z) (hab : ∀ j, j < n → a j = b j) : fb_ro a z = fb_ro b z := by
  by_cases hz : z < 0
  · rw [fb_ro_n hz, fb_ro_n hz]
  · rw [fb_ro_s hz, fb_ro_s hz, hab _ (fb_rl h hz)]
/-- the cells see only addresses of what lives -/
theorem fb_cC_ad {cA : Nat → ClassId} {ad ad' : Nat → Nat → Nat} {st : fb_S} {LL : fb_L} {fl fr : Nat} (ok : fb_okC fl fr st) (hfl : fl ≤ 12) (hfr : fr ≤ 100) (hL : fb_lvC LL fl fr) (h : ∀ k i, ¬ (k = 7 ∧ fr ≤ i) → ¬ (k = 6 ∧ fl ≤ i) → ¬ (k = 12 ∧ fl ≤ i) → ad' k i = ad k i) {k i : Nat} (hm : (k, i) ∈ LL) : fb_cC cA ad' st k i = fb_cC cA ad st k i := by
  obtain ⟨h12, h0, h7, h6, hd⟩ := hL.1 k i hm
  have a7 : ∀ j, j < fr → ad' 7 j = ad 7 j := fun j hj => h 7 j (by omega) (by omega) (by omega)
  have a6 : ∀ j, j < fl → ad' 6 j = ad 6 j := fun j hj => h 6 j (by omega) (by omega) (by omega)
  have a5 : ∀ j, ad' 5 j = ad 5 j := fun j => h 5 j (by omega) (by omega) (by omega)
  have a11 : ∀ j, ad' 11 j = ad 11 j := fun j => h 11 j (by omega) (by omega) (by omega)
  have ro7 : ∀ F j, fb_rg fr (st F j) → fb_ro (ad' 7) (st F j) = fb_ro (ad 7) (st F j) := fun F j q => fb_ro_ad q a7
  rcases (show k = 0 ∨ k = 1 ∨ k = 2 ∨ k = 3 ∨ k = 4 ∨ k = 5 ∨ k = 6 ∨ k = 7 ∨ k = 8 ∨ k = 9 ∨ k = 10 ∨ k = 11 ∨ k = 12 by omega) with rfl | rfl | rfl | rfl | rfl | rfl | rfl | rfl | rfl | rfl | rfl | rfl | rfl
  · simp only [fb_cC]
    rw [h 1 0 (by omega) (by omega) (by omega), h 2 0 (by omega) (by omega) (by omega), h 3 0 (by omega) (by omega) (by omega), h 4 0 (by omega) (by omega) (by omega)]
  · rfl
  · simp only [fb_cC]
    rw [show ad' 5 = ad 5 from funext a5]
  · simp only [fb_cC]
    rw [show (fun j => fb_ro (ad' 6) (st 8 j)) = (fun j => fb_ro (ad 6) (st 8 j)) from funext (fun j => fb_ro_ad (fb_rgi (ok 8 j) (by omega)) a6)]
  · simp only [fb_cC]
    rw [show (fun j => fb_ro (ad' 7) (st 9 j)) = (fun j => fb_ro (ad 7) (st 9 j)) from funext (fun j => fb_ro_ad (fb_rgi (ok 9 j) (by omega)) a7)]
  · simp only [fb_cC]
    rw [h 8 i (by omega) (by omega) (by omega), h 9 i (by omega) (by omega) (by omega), h 10 i (by omega) (by omega) (by omega), a11, ro7 13 i (ok 13 i)]
  · simp only [fb_cC]
    rw [h 12 i (by omega) (by omega) (by have := h6 rfl; omega)]
  · simp only [fb_cC]
    rw [a6 _ (fb_vl (ok 36 i (h7 rfl))), ro7 44 i (ok 44 i), show ad' 5 = ad 5 from funext a5]
  · simp only [fb_cC]
    rw [show ad' 11 = ad 11 from funext a11]
  · rfl
  · rfl
  · simp only [fb_cC]
    rw [ro7 19 i (ok 19 i), ro7 20 i (ok 20 i)]
  · simp only [fb_cC]
    rw [show ad' 5 = ad 5 from funext a5]
/-- a new frame's store -/
def cf_newK (fr : Nat) (num z n : Int32) (s : fb_S) : fb_S :=
  fb_up (fb_up (fb_up (fb_up (fb_up (fb_up (fb_up (fb_up (fb_up (fb_up s 35 fr num) 36 fr z) 37 fr n) 38 fr 1) 39 fr (-1)) 40 fr 0) 41 fr 0) 42 fr (-1)) 43 fr 0) 44 fr (-1)
theorem cf_newK_other {fr : Nat} {num z n : Int32} {s : fb_S} {F j : Nat} (h : F < 35 ∨ j ≠ fr) : cf_newK fr num z n s F j = s F j := by
  have key : ∀ (x : fb_S) (G : Nat) (v : Int32), 35 ≤ G → fb_up x G fr v F j = x F j := fun x G v hG => by
    rcases h with h | h
    · exact fb_up_F x _ _ v (by omega)
    · exact fb_up_i x _ _ v h
  unfold cf_newK
  rw [key _ 44 _ (by omega), key _ 43 _ (by omega), key _ 42 _ (by omega), key _ 41 _ (by omega), key _ 40 _ (by omega), key _ 39 _ (by omega), key _ 38 _ (by omega), key _ 37 _ (by omega), key _ 36 _ (by omega), key _ 35 _ (by omega)]
theorem fb_wl_newK {cA : Nat → ClassId} {ad : Nat → Nat → Nat} {st : fb_S} {LL : fb_L} {fl fr q : Nat} {num z n : Int32} (ok : fb_okC fl fr st) (hL : fb_lvC LL fl fr) : fb_wl (fb_cC cA) (fb_ad ad 7 fr q) (cf_newK fr num z n st) (LL ++ [(7, fr)]) = fb_wl (fb_cC cA) ad st LL ++ [(q, .inr (3, [.int num, .ref (ad 6 (fb_n z)), .int n, .int 1, .int (-1), .int 0, .int 0, .null, .int 0, .null]))] := by
  have hfl : fl ≤ 12 := hL.2.2.2.2.2.2.1
  have hfr : fr ≤ 100 := hL.2.2.2.2.2.2.2
  unfold fb_wl
  rw [List.map_append]
  congr 1
  · refine List.map_congr_left (fun x hx => ?_)
    obtain ⟨k, i⟩ := x
    obtain ⟨h12, h0, h7, h6, hd⟩ := hL.1 k i hx
    have e1 : fb_ad ad 7 fr q k i = ad k i := fb_ad_ne (fun e => by have := h7 e.1; omega)
    have e2 : fb_cC cA (fb_ad ad 7 fr q) (cf_newK fr num z n st) k i = fb_cC cA (fb_ad ad 7 fr q) st k i := by
      refine fb_cC_congr h0 (fun F j hF hj => cf_newK_other ?_) h12
      by_cases c : F < 35
      · exact Or.inl c
      · refine Or.inr ?_
        have e7 : fb_ow F = 7 := by
          unfold fb_ow
          repeat rw [if_neg (by omega)]
        have ej : fb_ix F j = j := by
          unfold fb_ix
          repeat rw [if_neg (by omega)]
        have := h7 (by rw [← hF, e7])
        omega
    have e3 : fb_cC cA (fb_ad ad 7 fr q) st k i = fb_cC cA ad st k i := fb_cC_ad ok hfl hfr hL (fun k i a _ _ => fb_ad_ne (fun e => a ⟨e.1, by omega⟩)) hx
    simp only [e1, e2, e3]
  · simp only [List.map_cons, List.map_nil, fb_ad_eq]
    refine congrArg (fun x => [(q, x)]) ?_
    show (Sum.inr (3, [.int (cf_newK fr num z n st 35 fr), .ref (fb_ad ad 7 fr q 6 (fb_n (cf_newK fr num z n st 36 fr))), .int (cf_newK fr num z n st 37 fr), .int (cf_newK fr num z n st 38 fr), .int (cf_newK fr num z n st 39 fr), .int (cf_newK fr num z n st 40 fr), .int (cf_newK fr num z n st 41 fr), va_rf (fb_ro (fb_ad ad 7 fr q 5) (cf_newK fr num z n st 42 fr)), .int (cf_newK fr num z n st 43 fr), va_rf (fb_ro (fb_ad ad 7 fr q 7) (cf_newK fr num z n st 44 fr))]) : va_E) = _
    simp [cf_newK, fb_up, fb_ad, fb_ro, va_rf]
/-- what lives behind it -/
theorem fb_lvC_newK {LL : fb_L} {fl fr : Nat} (hL : fb_lvC LL fl fr) (h : fr < 100) : fb_lvC (LL ++ [(7, fr)]) fl (fr + 1) := by
  obtain ⟨h1, h2, h3, h4, h5, h6, h7, h8⟩ := hL
  refine ⟨fun k i hm => ?_, fun k hk => List.mem_append_left _ (h2 k hk), fun i hi => ?_, fun j hj => List.mem_append_left _ (h4 j hj), fun f hf => ?_, fun k hk => ?_, h7, by omega⟩
  · rcases List.mem_append.mp hm with hm | hm
    · obtain ⟨a, b, c, d, e⟩ := h1 k i hm
      exact ⟨a, b, fun q => by have := c q; omega, d, e⟩
    · simp only [List.mem_cons, List.not_mem_nil, or_false, Prod.mk.injEq] at hm
      obtain ⟨rfl, rfl⟩ := hm
      exact ⟨by omega, by omega, by omega, by omega, by omega⟩
  · obtain ⟨a, b, c, d⟩ := h3 i hi
    exact ⟨List.mem_append_left _ a, List.mem_append_left _ b, List.mem_append_left _ c, List.mem_append_left _ d⟩
  · obtain ⟨a, b⟩ := h5 f hf
    exact ⟨List.mem_append_left _ a, List.mem_append_left _ b⟩
  · by_cases e : k = fr
    · subst e
      exact List.mem_append_right _ (by simp)
    · exact List.mem_append_left _ (h6 k (by omega))
