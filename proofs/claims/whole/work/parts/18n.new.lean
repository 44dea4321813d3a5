/-! new cells, second part: stores into arrays of references, ranges behind a new frame or flow -/
section FBN
variable {p : Program} {l : Launch} {e : Env} {R : Room} {s : State} {m : MethodId} {args : Array Value} {below : List Frame} {meth : Method} {c : Code} {H : Heap} {locs : List Loc} {cells slots : Nat} {Q : State → Prop}
variable {cc : ByteArray} {pc : Nat} {ls : Array Slot} {rest : List Value} {D : va_G} {cl : List vw_C} {A : Nat → Prop} {tys : List (ClassId × FieldType)} {H0 : Heap} {cn : fb_C} {ad : Nat → Nat → Nat} {st : fb_S} {LL : fb_L} {k i k2 i2 : Nat}
theorem pw_aast (hexec : p.tables.exec = Jvm.exec) (hb : c.code = cc) (hK : va_K D cl tys s) (hP : va_P D cl (fb_wl cn ad st LL) H) (hD : va_D A (fb_wl cn ad st LL)) (hS : va_S A H0 H locs) (hm : (k, i) ∈ LL) (t0 : Nat) {cA : ClassId} {n : Nat} {f : Nat → Option Nat} (he : cn ad st k i = .inl (cA, n, .inr (.inr (.inr (.inr f))))) {r : vw_C} (ht : tys[t0]? = some (cA, .object r.1)) (hm2 : (k2, i2) ∈ LL) {ci : Nat} {vs : List Value} (he2 : cn ad st k2 i2 = .inr (ci, vs)) (hc : cl[ci]? = some r) {z : Int32} (hin : vp_in z n)
    (st' : fb_S) (hs : cn ad st' k i = .inl (cA, n, .inr (.inr (.inr (.inr (va_up f z.toNatClampNeg (some (ad k2 i2)))))))) (ho : ∀ k' i' : Nat, (k', i') ∈ LL → ¬ (k' = k ∧ i' = i) → cn ad st' k' i' = cn ad st k' i') (hdg : decode cc pc = .ok (.aastore, 1))
    (kk : ∀ (H1 : Heap) (locs1 : List Loc), va_P D cl (fb_wl cn ad st' LL) H1 → va_D A (fb_wl cn ad st' LL) → va_S A H0 H1 locs1 → W p l e R s m args below meth c H1 locs1 cells slots Q (F0 m (pc + 1) ls rest)) : W p l e R s m args below meth c H locs cells slots Q (F0 m pc ls (.ref (ad k2 i2) :: .int z :: .ref (ad k i) :: rest)) := by
  obtain ⟨q0, hL, hq⟩ := fb_get (cn := cn) (ad := ad) (st := st) hm
  obtain ⟨q2, hL2, hq2⟩ := fb_get (cn := cn) (ad := ad) (st := st) hm2
  have hset := fb_set hD hL hs.symm ho
  rw [he] at hq
  rw [he2] at hq2
  refine va_astq hexec hb hK hP hD hS q0 t0 q2 ci hq ht hq2 hc hin hdg (fun H1 locs1 h1 h2 h3 => ?_)
  rw [hset] at h1 h2
  exact kk H1 locs1 h1 h2 h3
end FBN
theorem fb_AA {cn : fb_C} {ad : Nat → Nat → Nat} {st : fb_S} {LL : fb_L} {A : Nat → Prop} {z : Nat} (hD : va_D A (fb_wl cn ad st LL)) (hA : ∀ q, z ≤ q → A q) : ∀ q, fb_A ad LL z q → A q := by
  rintro q (⟨x, hx, rfl⟩ | h)
  · obtain ⟨q0, -, h0⟩ := fb_get (cn := cn) (ad := ad) (st := st) (LL := LL) (k := x.1) (i := x.2) hx
    exact hD.2 q0 _ h0
  · exact hA q h
theorem pq_C9 {cA : Nat → ClassId} {ad : Nat → Nat → Nat} (st : fb_S) {j : Nat} (h : j < 2 ^ 31) : fb_cC cA ad (fb_up st 9 j (nI j)) 4 0 = .inl (cA 3, 100, .inr (.inr (.inr (.inr (va_up (fun q => fb_ro (ad 7) (st 9 q)) j (some (ad 7 j))))))) := by
  show (Sum.inl (cA 3, 100, .inr (.inr (.inr (.inr (fun q => fb_ro (ad 7) (fb_up st 9 j (nI j) 9 q)))))) : va_E) = _
  rw [show (fun q => fb_ro (ad 7) (fb_up st 9 j (nI j) 9 q)) = va_up (fun q => fb_ro (ad 7) (st 9 q)) j (some (ad 7 j)) from funext (fun q => by
    unfold va_up
    by_cases e : q = j
    · subst e
      rw [if_pos rfl, fb_up_same, fb_ro_k h]
    · rw [if_neg e, fb_up_i _ _ _ _ e])]
theorem pq_C8 {cA : Nat → ClassId} {ad : Nat → Nat → Nat} (st : fb_S) {j : Nat} (h : j < 2 ^ 31) : fb_cC cA ad (fb_up st 8 j (nI j)) 3 0 = .inl (cA 2, 12, .inr (.inr (.inr (.inr (va_up (fun q => fb_ro (ad 6) (st 8 q)) j (some (ad 6 j))))))) := by
  show (Sum.inl (cA 2, 12, .inr (.inr (.inr (.inr (fun q => fb_ro (ad 6) (fb_up st 8 j (nI j) 8 q)))))) : va_E) = _
  rw [show (fun q => fb_ro (ad 6) (fb_up st 8 j (nI j) 8 q)) = va_up (fun q => fb_ro (ad 6) (st 8 q)) j (some (ad 6 j)) from funext (fun q => by
    unfold va_up
    by_cases e : q = j
    · subst e
      rw [if_pos rfl, fb_up_same, fb_ro_k h]
    · rw [if_neg e, fb_up_i _ _ _ _ e])]
theorem fb_rgm {a b : Nat} {v : Int32} (h : fb_rg a v) (hab : a ≤ b) : fb_rg b v := h.imp id (fun q => q ∘ fun r => r.elim Or.inl (fun r => Or.inr (Nat.le_trans hab r)))
theorem fb_rC_fr {fl fr F j : Nat} {v : Int32} (h : fb_rC fl fr F j v) (h5 : F ≠ 5) (h9 : F ≠ 9) (hj : j ≠ fr ∨ F < 35) : fb_rC fl (fr + 1) F j v := by
  unfold fb_rC at h ⊢
  split
  all_goals first
    | exact trivial
    | exact absurd rfl h5
    | exact absurd rfl h9
    | exact h
    | exact fb_rgm h (by omega)
    | (intro q; exact h (by omega))
theorem cf_newK_at {fr : Nat} {num z n : Int32} {s : fb_S} : cf_newK fr num z n s 36 fr = z ∧ cf_newK fr num z n s 37 fr = n ∧ cf_newK fr num z n s 40 fr = 0 ∧ cf_newK fr num z n s 42 fr = -1 ∧ cf_newK fr num z n s 44 fr = -1 := by
  simp [cf_newK, fb_up]
theorem fb_okC_newK {fl fr : Nat} {st : fb_S} {z n : Int32} (ok : fb_okC fl fr st) (hz : vp_in z fl) (hn : 1 ≤ n ∧ n ≤ 4) : fb_okC fl (fr + 1) (fb_up (fb_up (cf_newK fr (st 5 0) z n st) 9 fr (nI fr)) 5 0 (fb_up (cf_newK fr (st 5 0) z n st) 9 fr (nI fr) 5 0 + 1)) := by
  have h5 : st 5 0 = nI fr := ok 5 0 rfl
  obtain ⟨e36, e37, e40, e42, e44⟩ := cf_newK_at (fr := fr) (num := st 5 0) (z := z) (n := n) (s := st)
  intro F j
  by_cases f5 : F = 5
  · subst f5
    intro hj
    subst hj
    rw [fb_up_same, fb_up_F _ _ _ _ (by decide), cf_newK_other (Or.inl (by decide)), h5, nI_1]
  · rw [fb_up_F _ _ _ _ f5]
    by_cases f9 : F = 9
    · subst f9
      show fb_up (cf_newK fr (st 5 0) z n st) 9 fr (nI fr) 9 j = if j < fr + 1 then nI j else -1
      by_cases e : j = fr
      · subst e
        rw [fb_up_same, if_pos (by omega)]
      · rw [fb_up_i _ _ _ _ e, cf_newK_other (Or.inl (by decide)), show st 9 j = if j < fr then nI j else -1 from ok 9 j]
        by_cases q : j < fr
        · rw [if_pos q, if_pos (by omega)]
        · rw [if_neg q, if_neg (by omega)]
    · rw [fb_up_F _ _ _ _ f9]
      by_cases c : j ≠ fr ∨ F < 35
      · rw [cf_newK_other (c.symm)]
        exact fb_rC_fr (ok F j) f5 f9 c
      · have ej : j = fr := by omega
        subst ej
        have h35 : 35 ≤ F := by omega
        rcases (show F = 36 ∨ F = 37 ∨ F = 40 ∨ F = 42 ∨ F = 44 ∨ (F ≠ 36 ∧ F ≠ 37 ∧ F ≠ 40 ∧ F ≠ 42 ∧ F ≠ 44) by omega) with rfl | rfl | rfl | rfl | rfl | q
        · rw [e36]; exact fun _ => hz
        · rw [e37]; exact fun _ => hn
        · rw [e40]; exact Or.inl rfl
        · rw [e42]; exact Or.inl rfl
        · rw [e44]; exact Or.inl rfl
        · unfold fb_rC
          split
          all_goals first
            | exact trivial
            | omega
/-- a new flow's store -/
def cf_newF (fl : Nat) (pr len r0 r1 r2 r3 : Int32) (s : fb_S) : fb_S :=
  let a := fb_up (fb_up (fb_up (fb_up (fb_up (fb_up s 22 fl pr) 23 fl 64) 24 fl 64) 25 fl 64) 26 fl 0) 27 fl 0
  let b := fb_up (fb_up (fb_up (fb_up (fb_up a 28 fl 0) 29 fl 0) 30 fl 0) 31 fl 0) 32 fl (-1)
  fb_up (fb_up (fb_up (fb_up (fb_up b 34 fl len) 33 (4 * fl) r0) 33 (4 * fl + 1) r1) 33 (4 * fl + 2) r2) 33 (4 * fl + 3) r3
theorem cf_newF_other {fl : Nat} {pr len r0 r1 r2 r3 : Int32} {s : fb_S} {F j : Nat} (h : F < 22 ∨ 34 < F ∨ (F ≠ 33 ∧ j ≠ fl) ∨ (F = 33 ∧ j / 4 ≠ fl)) : cf_newF fl pr len r0 r1 r2 r3 s F j = s F j := by
  have key : ∀ (x : fb_S) (G : Nat) (v : Int32), 22 ≤ G → G ≤ 34 → G ≠ 33 → fb_up x G fl v F j = x F j := fun x G v hG hG2 hG3 => by
    by_cases e : F = G
    · exact fb_up_i x _ _ v (by omega)
    · exact fb_up_F x _ _ v e
  have key3 : ∀ (x : fb_S) (t : Nat) (v : Int32), t < 4 → fb_up x 33 (4 * fl + t) v F j = x F j := fun x t v ht => by
    by_cases e : F = 33
    · exact fb_up_i x _ _ v (by omega)
    · exact fb_up_F x _ _ v e
  simp only [cf_newF]
  rw [key3 _ 3 _ (by omega), key3 _ 2 _ (by omega), key3 _ 1 _ (by omega), show 4 * fl = 4 * fl + 0 from rfl, key3 _ 0 _ (by omega), key _ 34 _ (by omega) (by omega) (by omega), key _ 32 _ (by omega) (by omega) (by omega), key _ 31 _ (by omega) (by omega) (by omega), key _ 30 _ (by omega) (by omega) (by omega), key _ 29 _ (by omega) (by omega) (by omega), key _ 28 _ (by omega) (by omega) (by omega), key _ 27 _ (by omega) (by omega) (by omega), key _ 26 _ (by omega) (by omega) (by omega), key _ 25 _ (by omega) (by omega) (by omega), key _ 24 _ (by omega) (by omega) (by omega), key _ 23 _ (by omega) (by omega) (by omega), key _ 22 _ (by omega) (by omega) (by omega)]
theorem fb_wl_newF {cA : Nat → ClassId} {ad : Nat → Nat → Nat} {st : fb_S} {LL : fb_L} {fl fr q r N : Nat} {pr : Int32} {rt : Nat → Int32} (ok : fb_okC fl fr st) (hL : fb_lvC LL fl fr) (hN : N < 2 ^ 31) (hrt : ∀ j, 4 ≤ j → rt j = -1) : fb_wl (fb_cC cA) (fb_ad (fb_ad ad 12 fl r) 6 fl q) (cf_newF fl pr (nI N) (rt 0) (rt 1) (rt 2) (rt 3) st) (LL ++ [(12, fl), (6, fl)]) = fb_wl (fb_cC cA) ad st LL ++ [(r, .inl (cA 1, N, .inr (.inr (.inr (.inr (fun j => fb_ro (ad 5) (rt j))))))), (q, .inr (2, [.int pr, .ref r, .int 64, .int 64, .int 64, .int 0, .int 0, .int 0, .int 0, .int 0, .int 0, .int (-1)]))] := by
  have hfl : fl ≤ 12 := hL.2.2.2.2.2.2.1
  have hfr : fr ≤ 100 := hL.2.2.2.2.2.2.2
  unfold fb_wl
  rw [List.map_append]
  congr 1
  · refine List.map_congr_left (fun x hx => ?_)
    obtain ⟨k, i⟩ := x
    obtain ⟨h12, h0, h7, h6, hd⟩ := hL.1 k i hx
    have e1 : fb_ad (fb_ad ad 12 fl r) 6 fl q k i = ad k i := by
      rw [fb_ad_ne (fun e => by have := h6 e.1; omega), fb_ad_ne (fun e => by have := hd e.1; omega)]
    have e2 : fb_cC cA (fb_ad (fb_ad ad 12 fl r) 6 fl q) (cf_newF fl pr (nI N) (rt 0) (rt 1) (rt 2) (rt 3) st) k i = fb_cC cA (fb_ad (fb_ad ad 12 fl r) 6 fl q) st k i := by
      refine fb_cC_congr h0 (fun F j hF hj => cf_newF_other ?_) h12
      by_cases c1 : F < 22
      · exact Or.inl c1
      · by_cases c2 : 34 < F
        · exact Or.inr (Or.inl c2)
        · refine Or.inr (Or.inr ?_)
          by_cases c3 : F = 33
          · subst c3
            rw [ow_33] at hF
            rw [ix_33] at hj
            have := hd hF.symm
            exact Or.inr ⟨rfl, by omega⟩
          · by_cases c4 : F = 34
            · subst c4
              rw [ow_34] at hF
              rw [ix_34] at hj
              have := hd hF.symm
              exact Or.inl ⟨c3, by omega⟩
            · have e6 : fb_ow F = 6 := by
                unfold fb_ow
                repeat rw [if_neg (by omega)]
                rw [if_pos (by omega)]
              have ej : fb_ix F j = j := by
                unfold fb_ix
                repeat rw [if_neg (by omega)]
              have := h6 (by rw [← hF, e6])
              exact Or.inl ⟨c3, by omega⟩
    have e3 : fb_cC cA (fb_ad (fb_ad ad 12 fl r) 6 fl q) st k i = fb_cC cA ad st k i := fb_cC_ad ok hfl hfr hL (fun k i _ b d => by rw [fb_ad_ne (fun e => b ⟨e.1, by omega⟩), fb_ad_ne (fun e => d ⟨e.1, by omega⟩)]) hx
    simp only [e1, e2, e3]
  · simp only [List.map_cons, List.map_nil]
    have a12 : fb_ad (fb_ad ad 12 fl r) 6 fl q 12 fl = r := by rw [fb_ad_ne (by omega)]; exact fb_ad_eq
    have a5 : fb_ad (fb_ad ad 12 fl r) 6 fl q 5 = ad 5 := by funext j; rw [fb_ad_ne (by omega), fb_ad_ne (by omega)]
    rw [a12, fb_ad_eq]
    have x34 : cf_newF fl pr (nI N) (rt 0) (rt 1) (rt 2) (rt 3) st 34 fl = nI N := by simp [cf_newF, fb_up]
    have x33 : ∀ j, (if j < 4 then cf_newF fl pr (nI N) (rt 0) (rt 1) (rt 2) (rt 3) st 33 (4 * fl + j) else -1) = rt j := fun j => by
      by_cases hj : j < 4
      · rw [if_pos hj]
        rcases (show j = 0 ∨ j = 1 ∨ j = 2 ∨ j = 3 by omega) with rfl | rfl | rfl | rfl <;> simp [cf_newF, fb_up]
      · rw [if_neg hj, hrt j (by omega)]
    have c12 : fb_cC cA (fb_ad (fb_ad ad 12 fl r) 6 fl q) (cf_newF fl pr (nI N) (rt 0) (rt 1) (rt 2) (rt 3) st) 12 fl = .inl (cA 1, N, .inr (.inr (.inr (.inr (fun j => fb_ro (ad 5) (rt j)))))) := by
      simp only [fb_cC]
      rw [x34, fb_nI hN, a5]
      simp only [x33]
    have c6 : fb_cC cA (fb_ad (fb_ad ad 12 fl r) 6 fl q) (cf_newF fl pr (nI N) (rt 0) (rt 1) (rt 2) (rt 3) st) 6 fl = .inr (2, [.int pr, .ref r, .int 64, .int 64, .int 64, .int 0, .int 0, .int 0, .int 0, .int 0, .int 0, .int (-1)]) := by
      simp only [fb_cC]
      rw [a12]
      simp [cf_newF, fb_up]
    rw [c12, c6]
theorem fb_lvC_newF {LL : fb_L} {fl fr : Nat} (hL : fb_lvC LL fl fr) (h : fl < 12) : fb_lvC (LL ++ [(12, fl), (6, fl)]) (fl + 1) fr := by
  obtain ⟨h1, h2, h3, h4, h5, h6, h7, h8⟩ := hL
  refine ⟨fun k i hm => ?_, fun k hk => List.mem_append_left _ (h2 k hk), fun i hi => ?_, fun j hj => List.mem_append_left _ (h4 j hj), fun f hf => ?_, fun k hk => List.mem_append_left _ (h6 k hk), by omega, h8⟩
  · rcases List.mem_append.mp hm with hm | hm
    · obtain ⟨a, b, c, d, e⟩ := h1 k i hm
      exact ⟨a, b, c, fun q => by have := d q; omega, fun q => by have := e q; omega⟩
    · simp only [List.mem_cons, List.not_mem_nil, or_false, Prod.mk.injEq] at hm
      rcases hm with ⟨rfl, rfl⟩ | ⟨rfl, rfl⟩
      · exact ⟨by omega, by omega, by omega, by omega, by omega⟩
      · exact ⟨by omega, by omega, by omega, by omega, by omega⟩
  · obtain ⟨a, b, c, d⟩ := h3 i hi
    exact ⟨List.mem_append_left _ a, List.mem_append_left _ b, List.mem_append_left _ c, List.mem_append_left _ d⟩
  · by_cases e : f = fl
    · subst e
      exact ⟨List.mem_append_right _ (by simp), List.mem_append_right _ (by simp)⟩
    · obtain ⟨a, b⟩ := h5 f (by omega)
      exact ⟨List.mem_append_left _ a, List.mem_append_left _ b⟩
theorem fb_rC_fl {fl fr F j : Nat} {v : Int32} (h : fb_rC fl fr F j v) (h4 : F ≠ 4) (h8 : F ≠ 8) (hj : j ≠ fl ∨ F < 22 ∨ 34 < F) : fb_rC (fl + 1) fr F j v := by
  unfold fb_rC at h ⊢
  split
  all_goals first
    | exact trivial
    | exact absurd rfl h4
    | exact absurd rfl h8
    | exact h
    | (intro q; exact h (by omega))
    | (intro q; exact fb_vle (h q) (by omega))
theorem fb_okC_newF {fl fr : Nat} {st : fb_S} {pr r0 r1 r2 r3 : Int32} {N : Nat} (ok : fb_okC fl fr st) (hpr : pr = 0 ∨ pr = 1) (hN : N = 2 ∨ N = 4) (g0 : fb_rg 32 r0) (g1 : fb_rg 32 r1) (g2 : fb_rg 32 r2) (g3 : fb_rg 32 r3) : fb_okC (fl + 1) fr (fb_up (fb_up (cf_newF fl pr (nI N) r0 r1 r2 r3 st) 8 fl (nI fl)) 4 0 (fb_up (cf_newF fl pr (nI N) r0 r1 r2 r3 st) 8 fl (nI fl) 4 0 + 1)) := by
  have h4 : st 4 0 = nI fl := ok 4 0 rfl
  have a64 : (1 : Int32) ≤ 64 ∧ (64 : Int32) ≤ 64 := ⟨by decide, by decide⟩
  have b64 : (0 : Int32) ≤ 64 ∧ (64 : Int32) ≤ 64 := ⟨by decide, by decide⟩
  have hlen : (nI N : Int32) = 2 ∨ (nI N : Int32) = 4 := by
    rcases hN with rfl | rfl
    · exact Or.inl rfl
    · exact Or.inr rfl
  intro F j
  by_cases f4 : F = 4
  · subst f4
    intro hj
    subst hj
    rw [fb_up_same, fb_up_F _ _ _ _ (by decide), cf_newF_other (Or.inl (by decide)), h4, nI_1]
  · rw [fb_up_F _ _ _ _ f4]
    by_cases f8 : F = 8
    · subst f8
      show fb_up (cf_newF fl pr (nI N) r0 r1 r2 r3 st) 8 fl (nI fl) 8 j = if j < fl + 1 then nI j else -1
      by_cases e : j = fl
      · subst e
        rw [fb_up_same, if_pos (by omega)]
      · rw [fb_up_i _ _ _ _ e, cf_newF_other (Or.inl (by decide)), show st 8 j = if j < fl then nI j else -1 from ok 8 j]
        by_cases q : j < fl
        · rw [if_pos q, if_pos (by omega)]
        · rw [if_neg q, if_neg (by omega)]
    · rw [fb_up_F _ _ _ _ f8]
      by_cases c33 : F = 33
      · subst c33
        show fb_rg 32 (cf_newF fl pr (nI N) r0 r1 r2 r3 st 33 j)
        by_cases c : j / 4 = fl
        · rcases (show j = 4 * fl ∨ j = 4 * fl + 1 ∨ j = 4 * fl + 2 ∨ j = 4 * fl + 3 by omega) with rfl | rfl | rfl | rfl
          · simpa [cf_newF, fb_up] using g0
          · simpa [cf_newF, fb_up] using g1
          · simpa [cf_newF, fb_up] using g2
          · simpa [cf_newF, fb_up] using g3
        · rw [cf_newF_other (Or.inr (Or.inr (Or.inr ⟨rfl, c⟩)))]
          exact ok 33 j
      · by_cases c : j ≠ fl ∨ F < 22 ∨ 34 < F
        · rw [cf_newF_other (by omega)]
          exact fb_rC_fl (ok F j) f4 f8 c
        · have ej : j = fl := by omega
          subst ej
          rcases (show F = 22 ∨ F = 23 ∨ F = 24 ∨ F = 25 ∨ F = 26 ∨ F = 27 ∨ F = 28 ∨ F = 29 ∨ F = 30 ∨ F = 31 ∨ F = 32 ∨ F = 34 by omega) with rfl | rfl | rfl | rfl | rfl | rfl | rfl | rfl | rfl | rfl | rfl | rfl
          · simpa [cf_newF, fb_up, fb_rC] using hpr
          · simpa [cf_newF, fb_up, fb_rC] using a64
          · simpa [cf_newF, fb_up, fb_rC] using a64
          · simpa [cf_newF, fb_up, fb_rC] using b64
          · exact trivial
          · exact trivial
          · simp [cf_newF, fb_up, fb_rC]
          · exact trivial
          · exact trivial
          · exact trivial
          · exact trivial
          · simpa [cf_newF, fb_up, fb_rC] using hlen
