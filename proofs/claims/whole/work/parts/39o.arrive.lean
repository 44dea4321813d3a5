/-! arrivals: all ports, in their order -/
theorem mid_w {fl fr T x y v z x' y' v' z' : Nat} {s m : fb_S} (h : MID fl fr T x y v z s m) (hW : cp_W fr T x' y' v' s m) (hz : z ≤ z') : MID fl fr T x' y' v' z' s m := by
  obtain ⟨ok, okm, hfl, hfr, hT1, hTb, hpa, -, hSm, ⟨o, o1, o2⟩, hQ⟩ := h
  exact ⟨ok, okm, hfl, hfr, hT1, hTb, hpa, hW, hSm, ⟨o, o1, by omega⟩, hQ⟩
def ar_I (fl fr T n : Nat) (c A : Int32) (x M : fb_S) : Prop := (∃ z, z ≤ n ∧ MID fl fr T 1 0 1 z x M) ∧ (∀ k, k < fr → M 18 k = 3 → ∀ i, i < n → fb_loc x k = nI i → ¬ M 21 k + M 0 0 = nI T) ∧ ar_L fr T n x M ∧ mf_arrived M fr = c + A
theorem ar_step {fl fr T n : Nat} {c A : Int32} {x M : fb_S} (h : ar_I fl fr T n c A x M) (hn : n < 32) : ar_I fl fr T (n + 1) c (A + cf_deliverA n x) (cf_deliver n x) (fb_it (mf_arrK fr (fb_tF n) (fb_tT n)) fr M) := by
  obtain ⟨⟨z, hz, hm⟩, hno, hL, hcn⟩ := h
  have hm0 := hm
  obtain ⟨ok, okm, hfl, hfr, hT1, hTb, hpa, hW, hSm, -, Q, hG, hP, hF, hR, hK, -⟩ := hm0
  have hm4 : M 4 0 = nI T := okm 4 0 rfl
  have hs6 : x 6 0 = nI T := hG.2.2.2.2.1.trans hm4
  have btw : ∀ a, a < fr → M 18 a = 3 → (mf_btw M a (fb_tF n) (fb_tT n) = true ↔ fb_loc x a = nI n) := fun a ha e => cp_btw ok hfl hR hK ha hn (by rw [e]; decide)
  by_cases hdue : ∃ k, k < fr ∧ M 18 k = 3 ∧ fb_loc x k = nI n ∧ M 21 k + M 0 0 = nI T
  · obtain ⟨k, hk, k3, kl, kd⟩ := hdue
    obtain ⟨e19, e43⟩ := dv_due hm hn hk k3 kl kd
    have uni : ∀ a, a < fr → M 18 a = 3 → fb_loc x a = nI n → M 21 a + M 0 0 = nI T → a = k := fun a ha a3 al ad => by
      obtain ⟨b19, -⟩ := dv_due hm hn ha a3 al ad
      exact (nI_eq (by omega) (by omega)).mp (b19.symm.trans e19)
    rw [arr_one hk (tb_is hn) k3 (by rw [kd, hm4]) ((btw k hk k3).mpr kl) (fun a ha hne a3 ad hb => hne (uni a ha a3 ((btw a ha a3).mp hb) (by rw [ad, hm4])))]
    have fin : ∀ x' M' : fb_S, FS k x M x' M' → ¬ M' 18 k = 3 → (∃ z, z ≤ n + 1 ∧ MID fl fr T 1 0 1 z x' M') → (M' 18 k = 4 → x 33 (4 * fb_n (M 16 k) + (fb_n (x 34 (fb_n (M 16 k))) - 1)) = nI n) → mf_arrived M' fr = c + (A + cf_deliverA n x) → ar_I fl fr T (n + 1) c (A + cf_deliverA n x) x' M' := fun x' M' fs n3 hm' hp4 hc' => by
      refine ⟨hm', fun a ha a3 i hi al => ?_, fun a ha a4 at4 => ?_, hc'⟩
      · have ne : a ≠ k := fun e => n3 (e ▸ a3)
        rw [fs.2.2.2 18 (by omega) a ne] at a3
        rw [fs_loc fs ne] at al
        rw [fs.2.2.2 21 (by omega) a ne, fs.2.1 0 (by omega)]
        rcases Nat.lt_or_ge i n with q | q
        · exact hno a ha a3 i q al
        · have : i = n := by omega
          subst this
          exact fun ad => ne (uni a ha a3 al ad)
      · rw [fs.1 33 (by omega), fs.2.1 16 (by omega), fs.1 34 (by omega)]
        by_cases e : a = k
        · rw [e] at a4 ⊢
          exact ⟨n, by omega, hp4 a4⟩
        · rw [fs.2.2.2 18 (by omega) a e] at a4
          rw [fs.2.2.2 21 (by omega) a e] at at4
          obtain ⟨i, hi, ei⟩ := hL a ha a4 at4
          exact ⟨i, by omega, ei⟩
    by_cases c8 : (8 : Int32) ≤ fb_tT n
    · by_cases cp : cf_place (fb_up (cf_rem (3 * n + 2) x) 39 k (fb_tT n)) n k = true
      · obtain ⟨fs, q1, q2, q3⟩ := dv_hold hm hn hk e19 e43 c8 cp (by omega)
        refine fin _ _ fs (by rw [q1]; decide) ⟨z + 1, by omega, q2⟩ (fun e => by rw [q1] at e; exact absurd e (by decide)) ?_
        rw [q3, Int32.add_zero, ← hcn]
        refine arrived_c (fun j hj => ?_)
        by_cases e : j = k
        · rw [e, q1, k3]
          decide
        · rw [fs.2.2.2 18 (by omega) j e]
      · obtain ⟨fs, q1, q2, q3⟩ := dv_drop hm hn hk e19 e43 c8 cp
        refine fin _ _ fs (by rw [q1]; decide) ⟨z, by omega, q2⟩ (fun e => by rw [q1] at e; exact absurd e (by decide)) ?_
        rw [q3, Int32.add_zero, ← hcn]
        refine arrived_c (fun j hj => ?_)
        by_cases e : j = k
        · rw [e, q1, k3]
          decide
        · rw [fs.2.2.2 18 (by omega) j e]
    · obtain ⟨fs, q1, q2, q4, q3⟩ := dv_receive hm hn hk e19 e43 hL c8
      refine fin _ _ fs (by rw [q1]; decide) ⟨z, by omega, q2⟩ (fun _ => q4) ?_
      rw [q3, ← Int32.add_assoc, ← hcn, arrived_up (k := k) (m := M) (fun j _ hj => by rw [fs.2.2.2 18 (by omega) j hj]) (by rw [k3]; decide) q1, if_pos hk]
  · have stay : cf_deliver n x = x ∧ cf_deliverA n x = 0 := by
      simp only [cf_deliver, cf_deliverA]
      by_cases c1 : x 19 (3 * n + 2) < 0
      · rw [if_pos c1, if_pos c1]
        exact ⟨rfl, rfl⟩
      · rw [if_neg c1, if_neg c1]
        have c2 : ¬ x 43 (fb_n (x 19 (3 * n + 2))) = x 6 0 := fun e => by
          have hk := fb_rl (ok 19 (3 * n + 2)) c1
          obtain ⟨k, hk31, ek⟩ := nI_of c1
          rw [ek, fb_nI hk31] at e hk
          obtain ⟨a1, a2, a3, a4, a5, a6, -⟩ := dv_pre hm hn hk ek
          exact hdue ⟨k, hk, a2, a3, by rw [← a6, e, hs6]⟩
        rw [if_neg c2, if_neg c2]
        exact ⟨rfl, rfl⟩
    rw [stay.1, stay.2, Int32.add_zero, arr_none (fun a ha a3 ad hb => hdue ⟨a, ha, a3, (btw a ha a3).mp hb, by rw [ad, hm4]⟩)]
    refine ⟨⟨z, by omega, hm⟩, fun a ha a3 i hi al ad => ?_, fun a ha a4 at4 => ?_, hcn⟩
    · rcases Nat.lt_or_ge i n with q | q
      · exact hno a ha a3 i q al ad
      · have : i = n := by omega
        subst this
        exact hdue ⟨a, ha, a3, al, ad⟩
    · obtain ⟨i, hi, ei⟩ := hL a ha a4 at4
      exact ⟨i, by omega, ei⟩
theorem lk_port : ∀ t, t < 196 → fb_lk t = mf_port (nI (t % 14)) (nI (t / 14)) := by decide +kernel
theorem arr_np {fr : Nat} {u v : Int32} {M : fb_S} (h : ¬ mf_port u v = true) : fb_it (mf_arrK fr u v) fr M = M := by
  refine fb_it_inv (I := fun _ q => q = M) rfl (fun i q hi hq => ?_)
  subst hq
  simp only [mf_arrK]
  rw [if_neg h]
theorem ar_all {fl fr T : Nat} {c : Int32} {s m : fb_S} (h : ar_I fl fr T 0 c 0 s m) : ar_I fl fr T 32 c (cf_arr s 32) (fb_it cf_deliver 32 s) (mf_arrivals fr m) := by
  have key := fb_it_inv (f := mf_arrV fr) (n := 14) (s := m) (I := fun v M => ar_I fl fr T (fb_cnt (14 * v)) c (cf_arr s (fb_cnt (14 * v))) (fb_it cf_deliver (fb_cnt (14 * v)) s) M) h (fun v M hv hI => by
    have in1 := fb_it_inv (f := mf_arrU fr v) (n := 14) (s := M) (I := fun u R => ar_I fl fr T (fb_cnt (14 * v + u)) c (cf_arr s (fb_cnt (14 * v + u))) (fb_it cf_deliver (fb_cnt (14 * v + u)) s) R) hI (fun u R hu hR => by
      have e1 : (14 * v + u) % 14 = u := by omega
      have e2 : (14 * v + u) / 14 = v := by omega
      have ht : 14 * v + u < 196 := by omega
      show ar_I fl fr T (fb_cnt (14 * v + u + 1)) c (cf_arr s (fb_cnt (14 * v + u + 1))) (fb_it cf_deliver (fb_cnt (14 * v + u + 1)) s) (fb_it (mf_arrK fr (nI u) (nI v)) fr R)
      by_cases cl : fb_lk (14 * v + u) = true
      · obtain ⟨a1, a2, a3⟩ := fb_lk_at ht cl
        rw [e1] at a2
        rw [e2] at a3
        rw [show fb_cnt (14 * v + u + 1) = fb_cnt (14 * v + u) + 1 from if_pos cl, ← a2, ← a3]
        exact ar_step hR a1
      · have np : ¬ mf_port (nI u) (nI v) = true := by
          have := lk_port _ ht
          rw [e1, e2] at this
          rw [← this]
          exact cl
        rw [show fb_cnt (14 * v + u + 1) = fb_cnt (14 * v + u) from if_neg cl, arr_np np]
        exact hR)
    exact in1)
  rw [show fb_cnt (14 * 14) = 32 from fb_cnt196] at key
  exact key
theorem ph3 {fl fr T : Nat} {s m : fb_S} (h : MID fl fr T 1 0 0 0 s m) : MID fl fr T 1 1 1 32 (fb_it cf_deliver 32 s) (mf_arrivals fr m) ∧ mf_arrived (mf_arrivals fr m) fr = mf_arrived m fr + cf_arr s 32 := by
  have hm0 := h
  obtain ⟨ok, okm, hfl, hfr, hT1, hTb, hpa, hW, -⟩ := hm0
  have st : ar_I fl fr T 0 (mf_arrived m fr) 0 s m := by
    refine ⟨⟨0, Nat.le_refl _, mid_w h (fun k hk => ?_) (Nat.le_refl _)⟩, fun k hk _ i hi => by omega, fun a ha a4 at4 => ?_, (Int32.add_zero _).symm⟩
    · obtain ⟨a, b, d⟩ := hW k hk
      exact ⟨a, b, fun e => by
        obtain ⟨w, w1, w2, w3⟩ := d e
        exact ⟨w, w1, w2, by omega⟩⟩
    · obtain ⟨w, w1, w2, w3⟩ := (hW a ha).2.2 a4
      have := (nI_eq (by omega) (by omega)).mp (w1.symm.trans at4)
      omega
  obtain ⟨⟨z, hz, hm⟩, hno, -, hcn⟩ := ar_all st
  refine ⟨mid_w hm (fun k hk => ?_) hz, hcn⟩
  have hm2 := hm
  obtain ⟨ok2, okm2, -, -, -, -, -, hW2, -, -, Q, hG, hP, hF, hR, hK, -⟩ := hm2
  obtain ⟨a, b, d⟩ := hW2 k hk
  refine ⟨a, fun e => ?_, d⟩
  obtain ⟨w, w1, w2, w3⟩ := b e
  obtain ⟨i, hi, el⟩ := cp_loc ok2 hfl hR hK hk (by rw [e]; decide)
  have nd := hno k hk e i hi el
  obtain ⟨dl, hd8, hd0⟩ := dl_of ok2
  refine ⟨w, w1, w2, ?_⟩
  rw [hd0, fb_nI (by omega)] at w3 ⊢
  rcases Nat.lt_or_ge T (w + (dl + 1)) with q | q
  · omega
  · exfalso
    refine nd ?_
    rw [w1, ← hG.1, hd0, nI_add]
    exact congrArg nI (show w + (dl + 1) = T by omega)
