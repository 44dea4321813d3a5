/-! contracts (by program) -/
set_option maxHeartbeats 4000000 in
set_option maxRecDepth 100000 in
theorem c_X_hold (l : Launch) (D : va_G) (cA : Nat → ClassId) (ad : Nat → Nat → Nat) (LL : fb_L) (fl fr : Nat) (st : fb_S) (hL : fb_lvC LL fl fr) (hok : fb_okC fl fr st) (i : Nat) (hi : i < 32) (k : Nat) (hk : k < fr) : fb_Mv l zy_X_hold (zw_X_hold :: lw_gd) { frames := 2, cells := 0, slots := 0, locals := 43 } (fb_cC cA) D fb_cl (fb_tys cA) ad LL st [.ref (ad 0 0), .ref (ad 5 i), .ref (ad 7 k)] (fun st1 => st1 = cf_hold i k st ∧ fb_okC fl fr st1) := by
  have hfl : fl ≤ 12 := hL.2.2.2.2.2.2.1
  have hfr : fr ≤ 100 := hL.2.2.2.2.2.2.2
  intro sz
  refine Met.ofW (cc := zb_X_hold) (maxL := 4) (ret := none) (by decide) rfl ?_
  intro p e s m args below meth c s₁ B hml hv
  obtain ⟨rfl, hsz, hP, hK, hD0⟩ := hv
  have hx := B.exec
  have hb := B.bytes
  have hr := B.returns
  have hts := atoms_spec (ws := zw_X_hold :: lw_gd) B.pre
  have hT : ∀ w ∈ lw_gd, w.before _ s = true := fun w h => hts w (List.mem_cons_of_mem _ h)
  have hown : s.vm.findClass "PausedFabric" = some m.cls := findClass_of_methodNamed B.named
  have hlocks := B.notSynchronized
  subst hsz
  have hD := fb_D_self (sz := s.heap.size) hD0
  have hS : va_S (fb_A ad LL s.heap.size) s.heap s.heap [] := va_S.rf
  have hl := lv_entry ([.ref (ad 0 0), .ref (ad 5 i), .ref (ad 7 k)]) (n := 4) (Nat.le_of_ble_eq_true rfl)
  rw [lg_entry_eq]
  generalize (lg_sl ([.ref (ad 0 0), .ref (ad 5 i), .ref (ad 7 k)]) ++ List.replicate (4 - (lg_sl ([.ref (ad 0 0), .ref (ad 5 i), .ref (ad 7 k)])).length) Slot.unset).toArray = ls at hl ⊢
  have hl : lv_has ls 4 [(0, .ref (ad 0 0)), (1, .ref (ad 5 i)), (2, .ref (ad 7 k))] := hl
  refine lv_aload_n hx hb zd_X_hold_0 rfl (lv_at hl 2 rfl) ?_
  refine pw_get (C := "PausedFabric$Frame") (T := zT_K) (N := 10) hx hb hT zin_K hown hK hP (hL.2.2.2.2.2.1 _ hk) rfl rfl 1 (by decide) (hT _ zi_240) (fun _ h9 => h9) rfl zd_X_hold_1 ?_
  refine pw_get (C := "PausedFabric$Flow") (T := zT_F) (N := 12) hx hb hT zin_F hown hK hP (hL.2.2.2.2.1 _ (fb_vl (hok 36 _ hk))).1 rfl rfl 0 (by decide) (hT _ zi_175) (fun _ h9 => h9) rfl zd_X_hold_4 ?_
  refine lv_istore_n (lv' := [(3, .int (st 22 (fb_n (st 36 k)))), (0, .ref (ad 0 0)), (1, .ref (ad 5 i)), (2, .ref (ad 7 k))]) hx hb zd_X_hold_7 rfl hl (by decide) rfl (fun ls hl => ?_)
  refine lv_aload_n hx hb zd_X_hold_8 rfl (lv_at hl 2 rfl) ?_
  refine pw_get (C := "PausedFabric$Port") (T := zT_P) (N := 11) hx hb hT zin_P hown hK hP (hL.2.2.1 _ hi).1 rfl rfl 7 (by decide) (hT _ zi_77) (fun _ h9 => h9) rfl zd_X_hold_9 ?_
  refine lv_iload_n hx hb zd_X_hold_12 rfl (lv_at hl 0 rfl) ?_
  refine lv_dup2_11 hx hb zd_X_hold_13 rfl rfl ?_
  refine pw_iald (v := st 18 (2 * i + fb_n (st 22 (fb_n (st 36 k))))) hx hb hK hP (hL.2.2.1 _ hi).2.2.2 0 rfl rfl (fb_v01 (hok 22 _)) (if_pos (fb_vl (fb_v01 (hok 22 _)))) zd_X_hold_14 ?_
  refine lv_aload_n hx hb zd_X_hold_15 rfl (lv_at hl 3 rfl) ?_
  refine pw_get (C := "PausedFabric$Frame") (T := zT_K) (N := 10) hx hb hT zin_K hown hK hP (hL.2.2.2.2.2.1 _ hk) rfl rfl 2 (by decide) (hT _ zi_243) (fun _ h9 => h9) rfl zd_X_hold_16 ?_
  refine lv_iadd hx hb zd_X_hold_19 ?_
  refine pw_iast hx hb hK hP hD hS (hL.2.2.1 _ hi).2.2.2 0 rfl rfl (fb_v01 (hok 22 _)) (fb_up st 18 (2 * i + fb_n (st 22 (fb_n (st 36 k)))) ((st 18 (2 * i + fb_n (st 22 (fb_n (st 36 k))))) + (st 37 k))) (pa_C18 _ _ _ _ (fb_vl (fb_v01 (hok 22 _)))) (fb_hoC hL _ 18 _ _ ow_18 (fb_x2 18 _ (by decide) (fb_vl (fb_v01 (hok 22 _))))) zd_X_hold_20 (fun H locs hP hD hS => ?_)
  obtain ⟨s1, es1⟩ : ∃ z, z = fb_up st 18 (2 * i + fb_n (st 22 (fb_n (st 36 k)))) ((st 18 (2 * i + fb_n (st 22 (fb_n (st 36 k))))) + (st 37 k)) := ⟨_, rfl⟩
  have oks1 : fb_okC fl fr s1 := es1 ▸ (fb_okC_up hok trivial)
  rw [← es1] at hP hD
  refine lv_iload_n hx hb zd_X_hold_21 rfl (lv_at hl 0 rfl) ?_
  refine lv_if_ne (tgt := 43) hx hb zd_X_hold_22 (by decide) (fun h2 => ?_) (fun h2 => ?_)
  · skip
    refine lv_aload_n hx hb zd_X_hold_43 rfl (lv_at hl 3 rfl) ?_
    refine lv_aload_n hx hb zd_X_hold_44 rfl (lv_at hl 2 rfl) ?_
    refine pw_put (C := "PausedFabric$Frame") (T := zT_K) (N := 10) (ty := (.object "PausedFabric$Port")) (v := .ref (ad 5 i)) hx hb hT zin_K zt_K ztok_K znm_K hown hK hP hD hS (hL.2.2.2.2.2.1 _ hk) rfl rfl 7 (by decide) (hT _ zi_253) (fun _ h9 => h9) rfl (by decide +kernel) rfl rfl (Nat.le_of_ble_eq_true rfl) (fb_up s1 42 k (nI i)) (psk_C42 _ _ (fb_l31 hi (by decide))) (fb_hoC hL _ 42 _ _ ow_42 (ix_42 _)) zd_X_hold_45 (fun H locs hP hD hS => ?_)
    obtain ⟨s3, es3⟩ : ∃ z, z = fb_up s1 42 k (nI i) := ⟨_, rfl⟩
    have oks3 : fb_okC fl fr s3 := es3 ▸ (fb_okC_up oks1 (fb_rk hi (by omega)))
    rw [← es3] at hP hD
    refine lv_aload_n hx hb zd_X_hold_48 rfl (lv_at hl 3 rfl) ?_
    refine lv_dup hx hb zd_X_hold_49 rfl ?_
    refine pw_get (C := "PausedFabric$Frame") (T := zT_K) (N := 10) hx hb hT zin_K hown hK hP (hL.2.2.2.2.2.1 _ hk) rfl rfl 6 (by decide) (hT _ zi_251) (fun _ h9 => h9) rfl zd_X_hold_50 ?_
    refine lv_iconst (v := 1) hx hb zd_X_hold_53 (by decide) ?_
    refine lv_iadd hx hb zd_X_hold_54 ?_
    refine pw_put (C := "PausedFabric$Frame") (T := zT_K) (N := 10) (ty := .int) (v := .int ((s3 41 k) + 1)) hx hb hT zin_K zt_K ztok_K znm_K hown hK hP hD hS (hL.2.2.2.2.2.1 _ hk) rfl rfl 6 (by decide) (hT _ zi_251) (fun _ h9 => h9) rfl (by decide +kernel) rfl rfl (Nat.le_of_ble_eq_true rfl) (fb_up s3 41 k ((s3 41 k) + 1)) (ps_C41 _ _ _) (fb_hoC hL _ 41 _ _ ow_41 (ix_41 _)) zd_X_hold_55 (fun H locs hP hD hS => ?_)
    obtain ⟨s4, es4⟩ : ∃ z, z = fb_up s3 41 k ((s3 41 k) + 1) := ⟨_, rfl⟩
    have oks4 : fb_okC fl fr s4 := es4 ▸ (fb_okC_up oks3 trivial)
    rw [← es4] at hP hD
    refine lv_aload_n hx hb zd_X_hold_58 rfl (lv_at hl 3 rfl) ?_
    refine pw_Si (bytes := zb_X_enqueue) (maxL := 3) (ret := (some .int)) (As := [.ref (ad 7 k)]) (rest := []) ⟨hx, hb, hml, hown, hT⟩ (c_X_enqueue l D cA ad LL fl fr s4 hL oks4 k hk) (cwS 1 hT (fb_gS zi_279 zi_280 zi_1 zc_X_enqueue) rfl rfl rfl (by decide +kernel) ⟨Nat.le_of_ble_eq_true rfl, Nat.le_of_ble_eq_true rfl⟩) hK hP hD hS rfl hl.1 rfl (lv_room (Nat.le_of_ble_eq_true rfl)) zd_X_hold_59 ⟨Nat.zero_le _, Nat.zero_le _⟩ (fun rx s5 H locs hp hP hD hS => ?_)
    obtain ⟨hr9, hs, hok9⟩ := hp
    rw [hr9]
    have es5 : s5 = cf_enq k s4 := hs
    have oks5 : fb_okC fl fr s5 := hok9
    refine lv_aload_n hx hb zd_X_hold_62 rfl (lv_at hl 1 rfl) ?_
    refine pw_get (C := "PausedFabric") (T := zT_X) (N := 11) hx hb hT zin_X hown hK hP (hL.2.1 0 (by decide)) rfl rfl 3 (by decide) (hT _ zi_117) (fun _ h9 => h9) rfl zd_X_hold_63 ?_
    refine lv_icmp_le (tgt := 74) hx hb zd_X_hold_66 (by decide) (fun h6 => ?_) (fun h6 => ?_)
    · skip
      exact W.vret hx hb hr (fun t ht hW => ⟨⟨s5, rfl, ⟨(by subst es5 es4 es3 es1; simp only [cf_hold, if_neg h2, if_pos h6, fb_b_t, fb_b_f]), oks5⟩, by rw [ht]; exact hP, va_K.moved hW.alike hK, hD⟩, hS.F ht⟩) hS.2.2 zd_X_hold_74
    · skip
      refine lv_aload_n hx hb zd_X_hold_69 rfl (lv_at hl 3 rfl) ?_
      refine lv_iconst (v := 1) hx hb zd_X_hold_70 (by decide) ?_
      refine pw_put (C := "PausedFabric$Frame") (T := zT_K) (N := 10) (ty := .boolean) (v := .int 1) hx hb hT zin_K zt_K ztok_K znm_K hown hK hP hD hS (hL.2.2.2.2.2.1 _ hk) rfl rfl 5 (by decide) (hT _ zi_249) (fun _ h9 => h9) rfl (by decide +kernel) rfl rfl (Nat.le_of_ble_eq_true rfl) (fb_up s5 40 k 1) (ps_C40 _ _ _) (fb_hoC hL _ 40 _ _ ow_40 (ix_40 _)) zd_X_hold_71 (fun H locs hP hD hS => ?_)
      obtain ⟨s7, es7⟩ : ∃ z, z = fb_up s5 40 k 1 := ⟨_, rfl⟩
      have oks7 : fb_okC fl fr s7 := es7 ▸ (fb_okC_up oks5 (Or.inr rfl))
      rw [← es7] at hP hD
      exact W.vret hx hb hr (fun t ht hW => ⟨⟨s7, rfl, ⟨(by subst es7 es5 es4 es3 es1; simp only [cf_hold, if_neg h2, if_neg h6, fb_b_t, fb_b_f]), oks7⟩, by rw [ht]; exact hP, va_K.moved hW.alike hK, hD⟩, hS.F ht⟩) hS.2.2 zd_X_hold_74
  · skip
    refine lv_aload_n hx hb zd_X_hold_25 rfl (lv_at hl 2 rfl) ?_
    refine pw_get (C := "PausedFabric$Port") (T := zT_P) (N := 11) hx hb hT zin_P hown hK hP (hL.2.2.1 _ hi).1 rfl rfl 7 (by decide) (hT _ zi_77) (fun _ h9 => h9) rfl zd_X_hold_26 ?_
    refine lv_iconst (v := 0) hx hb zd_X_hold_29 (by decide) ?_
    refine pw_iald (v := s1 18 (2 * i + fb_n 0)) hx hb hK hP (hL.2.2.1 _ hi).2.2.2 0 rfl rfl fb_v0 (if_pos (fb_vl fb_v0)) zd_X_hold_30 ?_
    refine lv_aload_n hx hb zd_X_hold_31 rfl (lv_at hl 1 rfl) ?_
    refine pw_get (C := "PausedFabric") (T := zT_X) (N := 11) hx hb hT zin_X hown hK hP (hL.2.1 0 (by decide)) rfl rfl 1 (by decide) (hT _ zi_115) (fun _ h9 => h9) rfl zd_X_hold_32 ?_
    refine lv_icmp_lt (tgt := 43) hx hb zd_X_hold_35 (by decide) (fun h8 => ?_) (fun h8 => ?_)
    · skip
      refine lv_aload_n hx hb zd_X_hold_43 rfl (lv_at hl 3 rfl) ?_
      refine lv_aload_n hx hb zd_X_hold_44 rfl (lv_at hl 2 rfl) ?_
      refine pw_put (C := "PausedFabric$Frame") (T := zT_K) (N := 10) (ty := (.object "PausedFabric$Port")) (v := .ref (ad 5 i)) hx hb hT zin_K zt_K ztok_K znm_K hown hK hP hD hS (hL.2.2.2.2.2.1 _ hk) rfl rfl 7 (by decide) (hT _ zi_253) (fun _ h9 => h9) rfl (by decide +kernel) rfl rfl (Nat.le_of_ble_eq_true rfl) (fb_up s1 42 k (nI i)) (psk_C42 _ _ (fb_l31 hi (by decide))) (fb_hoC hL _ 42 _ _ ow_42 (ix_42 _)) zd_X_hold_45 (fun H locs hP hD hS => ?_)
      obtain ⟨s9, es9⟩ : ∃ z, z = fb_up s1 42 k (nI i) := ⟨_, rfl⟩
      have oks9 : fb_okC fl fr s9 := es9 ▸ (fb_okC_up oks1 (fb_rk hi (by omega)))
      rw [← es9] at hP hD
      refine lv_aload_n hx hb zd_X_hold_48 rfl (lv_at hl 3 rfl) ?_
      refine lv_dup hx hb zd_X_hold_49 rfl ?_
      refine pw_get (C := "PausedFabric$Frame") (T := zT_K) (N := 10) hx hb hT zin_K hown hK hP (hL.2.2.2.2.2.1 _ hk) rfl rfl 6 (by decide) (hT _ zi_251) (fun _ h9 => h9) rfl zd_X_hold_50 ?_
      refine lv_iconst (v := 1) hx hb zd_X_hold_53 (by decide) ?_
      refine lv_iadd hx hb zd_X_hold_54 ?_
      refine pw_put (C := "PausedFabric$Frame") (T := zT_K) (N := 10) (ty := .int) (v := .int ((s9 41 k) + 1)) hx hb hT zin_K zt_K ztok_K znm_K hown hK hP hD hS (hL.2.2.2.2.2.1 _ hk) rfl rfl 6 (by decide) (hT _ zi_251) (fun _ h9 => h9) rfl (by decide +kernel) rfl rfl (Nat.le_of_ble_eq_true rfl) (fb_up s9 41 k ((s9 41 k) + 1)) (ps_C41 _ _ _) (fb_hoC hL _ 41 _ _ ow_41 (ix_41 _)) zd_X_hold_55 (fun H locs hP hD hS => ?_)
      obtain ⟨s10, es10⟩ : ∃ z, z = fb_up s9 41 k ((s9 41 k) + 1) := ⟨_, rfl⟩
      have oks10 : fb_okC fl fr s10 := es10 ▸ (fb_okC_up oks9 trivial)
      rw [← es10] at hP hD
      refine lv_aload_n hx hb zd_X_hold_58 rfl (lv_at hl 3 rfl) ?_
      refine pw_Si (bytes := zb_X_enqueue) (maxL := 3) (ret := (some .int)) (As := [.ref (ad 7 k)]) (rest := []) ⟨hx, hb, hml, hown, hT⟩ (c_X_enqueue l D cA ad LL fl fr s10 hL oks10 k hk) (cwS 1 hT (fb_gS zi_279 zi_280 zi_1 zc_X_enqueue) rfl rfl rfl (by decide +kernel) ⟨Nat.le_of_ble_eq_true rfl, Nat.le_of_ble_eq_true rfl⟩) hK hP hD hS rfl hl.1 rfl (lv_room (Nat.le_of_ble_eq_true rfl)) zd_X_hold_59 ⟨Nat.zero_le _, Nat.zero_le _⟩ (fun rx s11 H locs hp hP hD hS => ?_)
      obtain ⟨hr9, hs, hok9⟩ := hp
      rw [hr9]
      have es11 : s11 = cf_enq k s10 := hs
      have oks11 : fb_okC fl fr s11 := hok9
      refine lv_aload_n hx hb zd_X_hold_62 rfl (lv_at hl 1 rfl) ?_
      refine pw_get (C := "PausedFabric") (T := zT_X) (N := 11) hx hb hT zin_X hown hK hP (hL.2.1 0 (by decide)) rfl rfl 3 (by decide) (hT _ zi_117) (fun _ h9 => h9) rfl zd_X_hold_63 ?_
      refine lv_icmp_le (tgt := 74) hx hb zd_X_hold_66 (by decide) (fun h12 => ?_) (fun h12 => ?_)
      · skip
        exact W.vret hx hb hr (fun t ht hW => ⟨⟨s11, rfl, ⟨(by subst es11 es10 es9 es1; simp only [cf_hold, if_pos h2, if_pos h8, if_pos h12, fb_b_t, fb_b_f]), oks11⟩, by rw [ht]; exact hP, va_K.moved hW.alike hK, hD⟩, hS.F ht⟩) hS.2.2 zd_X_hold_74
      · skip
        refine lv_aload_n hx hb zd_X_hold_69 rfl (lv_at hl 3 rfl) ?_
        refine lv_iconst (v := 1) hx hb zd_X_hold_70 (by decide) ?_
        refine pw_put (C := "PausedFabric$Frame") (T := zT_K) (N := 10) (ty := .boolean) (v := .int 1) hx hb hT zin_K zt_K ztok_K znm_K hown hK hP hD hS (hL.2.2.2.2.2.1 _ hk) rfl rfl 5 (by decide) (hT _ zi_249) (fun _ h9 => h9) rfl (by decide +kernel) rfl rfl (Nat.le_of_ble_eq_true rfl) (fb_up s11 40 k 1) (ps_C40 _ _ _) (fb_hoC hL _ 40 _ _ ow_40 (ix_40 _)) zd_X_hold_71 (fun H locs hP hD hS => ?_)
        obtain ⟨s13, es13⟩ : ∃ z, z = fb_up s11 40 k 1 := ⟨_, rfl⟩
        have oks13 : fb_okC fl fr s13 := es13 ▸ (fb_okC_up oks11 (Or.inr rfl))
        rw [← es13] at hP hD
        exact W.vret hx hb hr (fun t ht hW => ⟨⟨s13, rfl, ⟨(by subst es13 es11 es10 es9 es1; simp only [cf_hold, if_pos h2, if_pos h8, if_neg h12, fb_b_t, fb_b_f]), oks13⟩, by rw [ht]; exact hP, va_K.moved hW.alike hK, hD⟩, hS.F ht⟩) hS.2.2 zd_X_hold_74
    · skip
      refine lv_aload_n hx hb zd_X_hold_38 rfl (lv_at hl 2 rfl) ?_
      refine lv_iconst (v := 1) hx hb zd_X_hold_39 (by decide) ?_
      refine pw_put (C := "PausedFabric$Port") (T := zT_P) (N := 11) (ty := .boolean) (v := .int 1) hx hb hT zin_P zt_P ztok_P znm_P hown hK hP hD hS (hL.2.2.1 _ hi).1 rfl rfl 8 (by decide) (hT _ zi_79) (fun _ h9 => h9) rfl (by decide +kernel) rfl rfl (Nat.le_of_ble_eq_true rfl) (fb_up s1 14 i 1) (ps_C14 _ _ _) (fb_hoC hL _ 14 _ _ ow_14 (ix_14 _)) zd_X_hold_40 (fun H locs hP hD hS => ?_)
      obtain ⟨s14, es14⟩ : ∃ z, z = fb_up s1 14 i 1 := ⟨_, rfl⟩
      have oks14 : fb_okC fl fr s14 := es14 ▸ (fb_okC_up oks1 (Or.inr rfl))
      rw [← es14] at hP hD
      refine lv_aload_n hx hb zd_X_hold_43 rfl (lv_at hl 3 rfl) ?_
      refine lv_aload_n hx hb zd_X_hold_44 rfl (lv_at hl 2 rfl) ?_
      refine pw_put (C := "PausedFabric$Frame") (T := zT_K) (N := 10) (ty := (.object "PausedFabric$Port")) (v := .ref (ad 5 i)) hx hb hT zin_K zt_K ztok_K znm_K hown hK hP hD hS (hL.2.2.2.2.2.1 _ hk) rfl rfl 7 (by decide) (hT _ zi_253) (fun _ h9 => h9) rfl (by decide +kernel) rfl rfl (Nat.le_of_ble_eq_true rfl) (fb_up s14 42 k (nI i)) (psk_C42 _ _ (fb_l31 hi (by decide))) (fb_hoC hL _ 42 _ _ ow_42 (ix_42 _)) zd_X_hold_45 (fun H locs hP hD hS => ?_)
      obtain ⟨s15, es15⟩ : ∃ z, z = fb_up s14 42 k (nI i) := ⟨_, rfl⟩
      have oks15 : fb_okC fl fr s15 := es15 ▸ (fb_okC_up oks14 (fb_rk hi (by omega)))
      rw [← es15] at hP hD
      refine lv_aload_n hx hb zd_X_hold_48 rfl (lv_at hl 3 rfl) ?_
      refine lv_dup hx hb zd_X_hold_49 rfl ?_
      refine pw_get (C := "PausedFabric$Frame") (T := zT_K) (N := 10) hx hb hT zin_K hown hK hP (hL.2.2.2.2.2.1 _ hk) rfl rfl 6 (by decide) (hT _ zi_251) (fun _ h9 => h9) rfl zd_X_hold_50 ?_
      refine lv_iconst (v := 1) hx hb zd_X_hold_53 (by decide) ?_
      refine lv_iadd hx hb zd_X_hold_54 ?_
      refine pw_put (C := "PausedFabric$Frame") (T := zT_K) (N := 10) (ty := .int) (v := .int ((s15 41 k) + 1)) hx hb hT zin_K zt_K ztok_K znm_K hown hK hP hD hS (hL.2.2.2.2.2.1 _ hk) rfl rfl 6 (by decide) (hT _ zi_251) (fun _ h9 => h9) rfl (by decide +kernel) rfl rfl (Nat.le_of_ble_eq_true rfl) (fb_up s15 41 k ((s15 41 k) + 1)) (ps_C41 _ _ _) (fb_hoC hL _ 41 _ _ ow_41 (ix_41 _)) zd_X_hold_55 (fun H locs hP hD hS => ?_)
      obtain ⟨s16, es16⟩ : ∃ z, z = fb_up s15 41 k ((s15 41 k) + 1) := ⟨_, rfl⟩
      have oks16 : fb_okC fl fr s16 := es16 ▸ (fb_okC_up oks15 trivial)
      rw [← es16] at hP hD
      refine lv_aload_n hx hb zd_X_hold_58 rfl (lv_at hl 3 rfl) ?_
      refine pw_Si (bytes := zb_X_enqueue) (maxL := 3) (ret := (some .int)) (As := [.ref (ad 7 k)]) (rest := []) ⟨hx, hb, hml, hown, hT⟩ (c_X_enqueue l D cA ad LL fl fr s16 hL oks16 k hk) (cwS 1 hT (fb_gS zi_279 zi_280 zi_1 zc_X_enqueue) rfl rfl rfl (by decide +kernel) ⟨Nat.le_of_ble_eq_true rfl, Nat.le_of_ble_eq_true rfl⟩) hK hP hD hS rfl hl.1 rfl (lv_room (Nat.le_of_ble_eq_true rfl)) zd_X_hold_59 ⟨Nat.zero_le _, Nat.zero_le _⟩ (fun rx s17 H locs hp hP hD hS => ?_)
      obtain ⟨hr9, hs, hok9⟩ := hp
      rw [hr9]
      have es17 : s17 = cf_enq k s16 := hs
      have oks17 : fb_okC fl fr s17 := hok9
      refine lv_aload_n hx hb zd_X_hold_62 rfl (lv_at hl 1 rfl) ?_
      refine pw_get (C := "PausedFabric") (T := zT_X) (N := 11) hx hb hT zin_X hown hK hP (hL.2.1 0 (by decide)) rfl rfl 3 (by decide) (hT _ zi_117) (fun _ h9 => h9) rfl zd_X_hold_63 ?_
      refine lv_icmp_le (tgt := 74) hx hb zd_X_hold_66 (by decide) (fun h18 => ?_) (fun h18 => ?_)
      · skip
        exact W.vret hx hb hr (fun t ht hW => ⟨⟨s17, rfl, ⟨(by subst es17 es16 es15 es14 es1; simp only [cf_hold, if_pos h2, if_neg h8, if_pos h18, fb_b_t, fb_b_f]), oks17⟩, by rw [ht]; exact hP, va_K.moved hW.alike hK, hD⟩, hS.F ht⟩) hS.2.2 zd_X_hold_74
      · skip
        refine lv_aload_n hx hb zd_X_hold_69 rfl (lv_at hl 3 rfl) ?_
        refine lv_iconst (v := 1) hx hb zd_X_hold_70 (by decide) ?_
        refine pw_put (C := "PausedFabric$Frame") (T := zT_K) (N := 10) (ty := .boolean) (v := .int 1) hx hb hT zin_K zt_K ztok_K znm_K hown hK hP hD hS (hL.2.2.2.2.2.1 _ hk) rfl rfl 5 (by decide) (hT _ zi_249) (fun _ h9 => h9) rfl (by decide +kernel) rfl rfl (Nat.le_of_ble_eq_true rfl) (fb_up s17 40 k 1) (ps_C40 _ _ _) (fb_hoC hL _ 40 _ _ ow_40 (ix_40 _)) zd_X_hold_71 (fun H locs hP hD hS => ?_)
        obtain ⟨s19, es19⟩ : ∃ z, z = fb_up s17 40 k 1 := ⟨_, rfl⟩
        have oks19 : fb_okC fl fr s19 := es19 ▸ (fb_okC_up oks17 (Or.inr rfl))
        rw [← es19] at hP hD
        exact W.vret hx hb hr (fun t ht hW => ⟨⟨s19, rfl, ⟨(by subst es19 es17 es16 es15 es14 es1; simp only [cf_hold, if_pos h2, if_neg h8, if_neg h18, fb_b_t, fb_b_f]), oks19⟩, by rw [ht]; exact hP, va_K.moved hW.alike hK, hD⟩, hS.F ht⟩) hS.2.2 zd_X_hold_74

set_option maxHeartbeats 4000000 in
set_option maxRecDepth 100000 in
theorem c_X_deliver (l : Launch) (D : va_G) (cA : Nat → ClassId) (ad : Nat → Nat → Nat) (LL : fb_L) (fl fr : Nat) (st : fb_S) (hL : fb_lvC LL fl fr) (hok : fb_okC fl fr st) (i : Nat) (hi : i < 32) : fb_Mi l zy_X_deliver (zw_X_deliver :: lw_gd) { frames := 3, cells := 0, slots := 0, locals := 66 } (fb_cC cA) D fb_cl (fb_tys cA) ad LL st [.ref (ad 0 0), .ref (ad 5 i)] (fun rr st1 => rr = cf_deliverA i st ∧ st1 = cf_deliver i st ∧ fb_okC fl fr st1) := by
  have hfl : fl ≤ 12 := hL.2.2.2.2.2.2.1
  have hfr : fr ≤ 100 := hL.2.2.2.2.2.2.2
  intro sz
  refine Met.ofW (cc := zb_X_deliver) (maxL := 3) (ret := (some .int)) (by decide) rfl ?_
  intro p e s m args below meth c s₁ B hml hv
  obtain ⟨rfl, hsz, hP, hK, hD0⟩ := hv
  have hx := B.exec
  have hb := B.bytes
  have hr := B.returns
  have hts := atoms_spec (ws := zw_X_deliver :: lw_gd) B.pre
  have hT : ∀ w ∈ lw_gd, w.before _ s = true := fun w h => hts w (List.mem_cons_of_mem _ h)
  have hown : s.vm.findClass "PausedFabric" = some m.cls := findClass_of_methodNamed B.named
  have hlocks := B.notSynchronized
  subst hsz
  have hD := fb_D_self (sz := s.heap.size) hD0
  have hS : va_S (fb_A ad LL s.heap.size) s.heap s.heap [] := va_S.rf
  have hl := lv_entry ([.ref (ad 0 0), .ref (ad 5 i)]) (n := 3) (Nat.le_of_ble_eq_true rfl)
  rw [lg_entry_eq]
  generalize (lg_sl ([.ref (ad 0 0), .ref (ad 5 i)]) ++ List.replicate (3 - (lg_sl ([.ref (ad 0 0), .ref (ad 5 i)])).length) Slot.unset).toArray = ls at hl ⊢
  have hl : lv_has ls 3 [(0, .ref (ad 0 0)), (1, .ref (ad 5 i))] := hl
  refine lv_aload_n hx hb zd_X_deliver_0 rfl (lv_at hl 1 rfl) ?_
  refine pw_get (C := "PausedFabric$Port") (T := zT_P) (N := 11) hx hb hT zin_P hown hK hP (hL.2.2.1 _ hi).1 rfl rfl 6 (by decide) (hT _ zi_75) (fun _ h9 => h9) rfl zd_X_deliver_1 ?_
  refine pw_get (C := "PausedFabric$FrameQueue") (T := zT_Q) (N := 3) hx hb hT zin_Q hown hK hP (hL.2.2.2.1 _ (fb_w96 hi)) rfl rfl 0 (by decide) (hT _ zi_50) (fun _ h9 => h9) rfl zd_X_deliver_4 ?_
  refine pw_split (fun hz1 => ?_) (fun hz1 => ?_)
  · skip
    refine lv_astore_nN (lv' := [(2, .null), (0, .ref (ad 0 0)), (1, .ref (ad 5 i))]) hx hb zd_X_deliver_7 rfl hl (by decide) rfl (fun ls hl => ?_)
    refine lv_aload_nN hx hb zd_X_deliver_8 rfl (lv_at hl 0 rfl) ?_
    refine lv_ifnullN (tgt := 23) hx hb zd_X_deliver_9 (by decide) ?_
    refine lv_iconst (v := 0) hx hb zd_X_deliver_23 (by decide) ?_
    exact W.iret (v := 0) hx hb hr (fun t ht hW => ⟨⟨0, st, rfl, ⟨(by simp only [cf_deliverA, cf_deliver, if_pos hz1, fb_b_t, fb_b_f]), (by simp only [cf_deliverA, cf_deliver, if_pos hz1, fb_b_t, fb_b_f]), hok⟩, by rw [ht]; exact hP, va_K.moved hW.alike hK, hD⟩, hS.F ht⟩) hS.2.2 zd_X_deliver_24
  · skip
    refine lv_astore_n (lv' := [(2, .ref (ad 7 (fb_n (st 19 (3 * i + 2))))), (0, .ref (ad 0 0)), (1, .ref (ad 5 i))]) hx hb zd_X_deliver_7 rfl hl (by decide) rfl (fun ls hl => ?_)
    refine lv_aload_n hx hb zd_X_deliver_8 rfl (lv_at hl 0 rfl) ?_
    refine lv_ifnull hx hb zd_X_deliver_9 ?_
    refine lv_aload_n hx hb zd_X_deliver_12 rfl (lv_at hl 0 rfl) ?_
    refine pw_get (C := "PausedFabric$Frame") (T := zT_K) (N := 10) hx hb hT zin_K hown hK hP (hL.2.2.2.2.2.1 _ (fb_rl (hok 19 _) hz1)) rfl rfl 8 (by decide) (hT _ zi_255) (fun _ h9 => h9) rfl zd_X_deliver_13 ?_
    refine lv_aload_n hx hb zd_X_deliver_16 rfl (lv_at hl 1 rfl) ?_
    refine pw_get (C := "PausedFabric") (T := zT_X) (N := 11) hx hb hT zin_X hown hK hP (hL.2.1 0 (by decide)) rfl rfl 10 (by decide) (hT _ zi_124) (fun _ h9 => h9) rfl zd_X_deliver_17 ?_
    refine lv_icmp_eq (tgt := 25) hx hb zd_X_deliver_20 (by decide) (fun h2 => ?_) (fun h2 => ?_)
    · skip
      refine lv_aload_n hx hb zd_X_deliver_25 rfl (lv_at hl 2 rfl) ?_
      refine pw_get (C := "PausedFabric$Port") (T := zT_P) (N := 11) hx hb hT zin_P hown hK hP (hL.2.2.1 _ hi).1 rfl rfl 6 (by decide) (hT _ zi_75) (fun _ h9 => h9) rfl zd_X_deliver_26 ?_
      refine pw_Vv (bytes := zb_Q_removeFirst) (maxL := 2) (ret := none) (As := []) (rest := []) ⟨hx, hb, hml, hown, hT⟩ (c_Q_removeFirst l D cA ad LL fl fr st hL hok (3 * i + 2) (fb_w96 hi)) (cwV 0 hT (fb_gV zi_327 zi_328 zi_329 zi_4 zc_Q_removeFirst) rfl rfl rfl (by decide +kernel) ⟨Nat.le_of_ble_eq_true rfl, Nat.le_of_ble_eq_true rfl⟩) hK hP hD hS (fb_recv hK hP (hL.2.2.2.1 _ (fb_w96 hi)) rfl rfl) rfl hl.1 rfl (lv_room (Nat.le_of_ble_eq_true rfl)) zd_X_deliver_29 ⟨Nat.zero_le _, Nat.zero_le _⟩ (fun s3 H locs hp hP hD hS => ?_)
      obtain ⟨hs, hok9⟩ := hp
      have es3 : s3 = cf_rem (3 * i + 2) st := hs
      have oks3 : fb_okC fl fr s3 := hok9
      refine lv_aload_n hx hb zd_X_deliver_32 rfl (lv_at hl 0 rfl) ?_
      refine lv_aload_n hx hb zd_X_deliver_33 rfl (lv_at hl 2 rfl) ?_
      refine pw_get (C := "PausedFabric$Port") (T := zT_P) (N := 11) hx hb hT zin_P hown hK hP (hL.2.2.1 _ hi).1 rfl rfl 1 (by decide) (hT _ zi_65) (fun _ h9 => h9) rfl zd_X_deliver_34 ?_
      refine pw_put (C := "PausedFabric$Frame") (T := zT_K) (N := 10) (ty := .int) (v := .int (s3 11 i)) hx hb hT zin_K zt_K ztok_K znm_K hown hK hP hD hS (hL.2.2.2.2.2.1 _ (fb_rl (hok 19 _) hz1)) rfl rfl 4 (by decide) (hT _ zi_247) (fun _ h9 => h9) rfl (by decide +kernel) rfl rfl (Nat.le_of_ble_eq_true rfl) (fb_up s3 39 (fb_n (st 19 (3 * i + 2))) (s3 11 i)) (ps_C39 _ _ _) (fb_hoC hL _ 39 _ _ ow_39 (ix_39 _)) zd_X_deliver_37 (fun H locs hP hD hS => ?_)
      obtain ⟨s4, es4⟩ : ∃ z, z = fb_up s3 39 (fb_n (st 19 (3 * i + 2))) (s3 11 i) := ⟨_, rfl⟩
      have oks4 : fb_okC fl fr s4 := es4 ▸ (fb_okC_up oks3 trivial)
      rw [← es4] at hP hD
      refine lv_aload_n hx hb zd_X_deliver_40 rfl (lv_at hl 2 rfl) ?_
      refine pw_get (C := "PausedFabric$Port") (T := zT_P) (N := 11) hx hb hT zin_P hown hK hP (hL.2.2.1 _ hi).1 rfl rfl 1 (by decide) (hT _ zi_65) (fun _ h9 => h9) rfl zd_X_deliver_41 ?_
      refine pw_Si (bytes := zb_X_isHost) (maxL := 1) (ret := (some .boolean)) (As := [.int (s4 11 i)]) (rest := []) ⟨hx, hb, hml, hown, hT⟩ (c_X_isHost l D cA (fb_cC cA) ad LL s4 (s4 11 i)) (cwS 1 hT (fb_gS zi_31 zi_32 zi_1 zc_X_isHost) rfl rfl rfl (by decide +kernel) ⟨Nat.le_of_ble_eq_true rfl, Nat.le_of_ble_eq_true rfl⟩) hK hP hD hS rfl hl.1 rfl (lv_room (Nat.le_of_ble_eq_true rfl)) zd_X_deliver_44 ⟨Nat.zero_le _, Nat.zero_le _⟩ (fun rx sx H locs hp hP hD hS => ?_)
      obtain ⟨hr9, hs, hok9⟩ := hp
      rw [hr9]
      rw [hs] at hP hD
      refine lv_if_eq (tgt := 56) hx hb zd_X_deliver_47 (by decide) (fun h5 => ?_) (fun h5 => ?_)
      · skip
        have h5b := fb_b0 h5
        refine lv_aload_n hx hb zd_X_deliver_56 rfl (lv_at hl 1 rfl) ?_
        refine lv_aload_n hx hb zd_X_deliver_57 rfl (lv_at hl 2 rfl) ?_
        refine lv_aload_n hx hb zd_X_deliver_58 rfl (lv_at hl 0 rfl) ?_
        refine pw_Vi (bytes := zb_X_hasPlace) (maxL := 5) (ret := (some .boolean)) (As := [.ref (ad 5 i), .ref (ad 7 (fb_n (st 19 (3 * i + 2))))]) (rest := []) ⟨hx, hb, hml, hown, hT⟩ (c_X_hasPlace l D cA ad LL fl fr s4 hL oks4 i hi (fb_n (st 19 (3 * i + 2))) (fb_rl (hok 19 _) hz1)) (cwV 2 hT (fb_gV zi_334 zi_336 zs_X_hasPlace zi_1 zc_X_hasPlace) rfl rfl rfl (by decide +kernel) ⟨Nat.le_of_ble_eq_true rfl, Nat.le_of_ble_eq_true rfl⟩) hK hP hD hS (fb_recv hK hP (hL.2.1 0 (by decide)) rfl rfl) rfl hl.1 rfl (lv_room (Nat.le_of_ble_eq_true rfl)) zd_X_deliver_59 ⟨Nat.zero_le _, Nat.zero_le _⟩ (fun rx sx H locs hp hP hD hS => ?_)
        obtain ⟨hr9, hs, hok9⟩ := hp
        rw [hr9]
        rw [hs] at hP hD
        refine lv_if_eq (tgt := 74) hx hb zd_X_deliver_62 (by decide) (fun h6 => ?_) (fun h6 => ?_)
        · skip
          have h6b := fb_b0 h6
          refine lv_aload_n hx hb zd_X_deliver_74 rfl (lv_at hl 0 rfl) ?_
          refine pw_Sv (bytes := zb_X_drop) (maxL := 1) (ret := none) (As := [.ref (ad 7 (fb_n (st 19 (3 * i + 2))))]) (rest := []) ⟨hx, hb, hml, hown, hT⟩ (c_X_drop l D cA ad LL fl fr s4 hL oks4 (fb_n (st 19 (3 * i + 2))) (fb_rl (hok 19 _) hz1)) (cwS 1 hT (fb_gS zi_342 zi_343 zi_1 zc_X_drop) rfl rfl rfl (by decide +kernel) ⟨Nat.le_of_ble_eq_true rfl, Nat.le_of_ble_eq_true rfl⟩) hK hP hD hS rfl hl.1 rfl (lv_room (Nat.le_of_ble_eq_true rfl)) zd_X_deliver_75 ⟨Nat.zero_le _, Nat.zero_le _⟩ (fun s7 H locs hp hP hD hS => ?_)
          obtain ⟨hs, hok9⟩ := hp
          have es7 : s7 = cf_drop (fb_n (st 19 (3 * i + 2))) s4 := hs
          have oks7 : fb_okC fl fr s7 := hok9
          refine lv_iconst (v := 0) hx hb zd_X_deliver_78 (by decide) ?_
          exact W.iret (v := 0) hx hb hr (fun t ht hW => ⟨⟨0, s7, rfl, ⟨(by subst es7 es4 es3; simp only [cf_deliverA, cf_deliver, if_neg hz1, if_pos h2, if_neg h5b, if_neg h6b, fb_b_t, fb_b_f]), (by subst es7 es4 es3; simp only [cf_deliverA, cf_deliver, if_neg hz1, if_pos h2, if_neg h5b, if_neg h6b, fb_b_t, fb_b_f]), oks7⟩, by rw [ht]; exact hP, va_K.moved hW.alike hK, hD⟩, hS.F ht⟩) hS.2.2 zd_X_deliver_79
        · skip
          have h6b := fb_b1 h6
          refine lv_aload_n hx hb zd_X_deliver_65 rfl (lv_at hl 1 rfl) ?_
          refine lv_aload_n hx hb zd_X_deliver_66 rfl (lv_at hl 2 rfl) ?_
          refine lv_aload_n hx hb zd_X_deliver_67 rfl (lv_at hl 0 rfl) ?_
          refine pw_Vv (bytes := zb_X_hold) (maxL := 4) (ret := none) (As := [.ref (ad 5 i), .ref (ad 7 (fb_n (st 19 (3 * i + 2))))]) (rest := []) ⟨hx, hb, hml, hown, hT⟩ (c_X_hold l D cA ad LL fl fr s4 hL oks4 i hi (fb_n (st 19 (3 * i + 2))) (fb_rl (hok 19 _) hz1)) (cwV 2 hT (fb_gV zi_338 zi_340 zs_X_hold zi_1 zc_X_hold) rfl rfl rfl (by decide +kernel) ⟨Nat.le_of_ble_eq_true rfl, Nat.le_of_ble_eq_true rfl⟩) hK hP hD hS (fb_recv hK hP (hL.2.1 0 (by decide)) rfl rfl) rfl hl.1 rfl (lv_room (Nat.le_of_ble_eq_true rfl)) zd_X_deliver_68 ⟨Nat.zero_le _, Nat.zero_le _⟩ (fun s8 H locs hp hP hD hS => ?_)
          obtain ⟨hs, hok9⟩ := hp
          have es8 : s8 = cf_hold i (fb_n (st 19 (3 * i + 2))) s4 := hs
          have oks8 : fb_okC fl fr s8 := hok9
          refine lv_goto (tgt := 78) hx hb zd_X_deliver_71 (by decide) ?_
          refine lv_iconst (v := 0) hx hb zd_X_deliver_78 (by decide) ?_
          exact W.iret (v := 0) hx hb hr (fun t ht hW => ⟨⟨0, s8, rfl, ⟨(by subst es8 es4 es3; simp only [cf_deliverA, cf_deliver, if_neg hz1, if_pos h2, if_neg h5b, if_pos h6b, fb_b_t, fb_b_f]), (by subst es8 es4 es3; simp only [cf_deliverA, cf_deliver, if_neg hz1, if_pos h2, if_neg h5b, if_pos h6b, fb_b_t, fb_b_f]), oks8⟩, by rw [ht]; exact hP, va_K.moved hW.alike hK, hD⟩, hS.F ht⟩) hS.2.2 zd_X_deliver_79
      · skip
        have h5b := fb_b1 h5
        refine lv_aload_n hx hb zd_X_deliver_50 rfl (lv_at hl 0 rfl) ?_
        refine pw_Sv (bytes := zb_X_receive) (maxL := 2) (ret := none) (As := [.ref (ad 7 (fb_n (st 19 (3 * i + 2))))]) (rest := []) ⟨hx, hb, hml, hown, hT⟩ (c_X_receive l D cA ad LL fl fr s4 hL oks4 (fb_n (st 19 (3 * i + 2))) (fb_rl (hok 19 _) hz1)) (cwS 1 hT (fb_gS zi_331 zi_332 zi_1 zc_X_receive) rfl rfl rfl (by decide +kernel) ⟨Nat.le_of_ble_eq_true rfl, Nat.le_of_ble_eq_true rfl⟩) hK hP hD hS rfl hl.1 rfl (lv_room (Nat.le_of_ble_eq_true rfl)) zd_X_deliver_51 ⟨Nat.zero_le _, Nat.zero_le _⟩ (fun s9 H locs hp hP hD hS => ?_)
        obtain ⟨hs, hok9⟩ := hp
        have es9 : s9 = cf_receive (fb_n (st 19 (3 * i + 2))) s4 := hs
        have oks9 : fb_okC fl fr s9 := hok9
        refine lv_iconst (v := 1) hx hb zd_X_deliver_54 (by decide) ?_
        exact W.iret (v := 1) hx hb hr (fun t ht hW => ⟨⟨1, s9, rfl, ⟨(by subst es9 es4 es3; simp only [cf_deliverA, cf_deliver, if_neg hz1, if_pos h2, if_pos h5b, fb_b_t, fb_b_f]), (by subst es9 es4 es3; simp only [cf_deliverA, cf_deliver, if_neg hz1, if_pos h2, if_pos h5b, fb_b_t, fb_b_f]), oks9⟩, by rw [ht]; exact hP, va_K.moved hW.alike hK, hD⟩, hS.F ht⟩) hS.2.2 zd_X_deliver_55
    · skip
      refine lv_iconst (v := 0) hx hb zd_X_deliver_23 (by decide) ?_
      exact W.iret (v := 0) hx hb hr (fun t ht hW => ⟨⟨0, st, rfl, ⟨(by simp only [cf_deliverA, cf_deliver, if_neg hz1, if_neg h2, fb_b_t, fb_b_f]), (by simp only [cf_deliverA, cf_deliver, if_neg hz1, if_neg h2, fb_b_t, fb_b_f]), hok⟩, by rw [ht]; exact hP, va_K.moved hW.alike hK, hD⟩, hS.F ht⟩) hS.2.2 zd_X_deliver_24

set_option maxHeartbeats 4000000 in
set_option maxRecDepth 100000 in
theorem c_X_beginSending (l : Launch) (D : va_G) (cA : Nat → ClassId) (ad : Nat → Nat → Nat) (LL : fb_L) (fl fr : Nat) (st : fb_S) (hL : fb_lvC LL fl fr) (hok : fb_okC fl fr st) (i : Nat) (hi : i < 32) (k : Nat) (hk : k < fr) : fb_Mv l zy_X_beginSending (zw_X_beginSending :: lw_gd) { frames := 1, cells := 0, slots := 0, locals := 22 } (fb_cC cA) D fb_cl (fb_tys cA) ad LL st [.ref (ad 0 0), .ref (ad 5 i), .ref (ad 7 k)] (fun st1 => st1 = cf_begin i k st ∧ fb_okC fl fr st1) := by
  have hfl : fl ≤ 12 := hL.2.2.2.2.2.2.1
  have hfr : fr ≤ 100 := hL.2.2.2.2.2.2.2
  intro sz
  refine Met.ofW (cc := zb_X_beginSending) (maxL := 4) (ret := none) (by decide) rfl ?_
  intro p e s m args below meth c s₁ B hml hv
  obtain ⟨rfl, hsz, hP, hK, hD0⟩ := hv
  have hx := B.exec
  have hb := B.bytes
  have hr := B.returns
  have hts := atoms_spec (ws := zw_X_beginSending :: lw_gd) B.pre
  have hT : ∀ w ∈ lw_gd, w.before _ s = true := fun w h => hts w (List.mem_cons_of_mem _ h)
  have hown : s.vm.findClass "PausedFabric" = some m.cls := findClass_of_methodNamed B.named
  have hlocks := B.notSynchronized
  subst hsz
  have hD := fb_D_self (sz := s.heap.size) hD0
  have hS : va_S (fb_A ad LL s.heap.size) s.heap s.heap [] := va_S.rf
  have hl := lv_entry ([.ref (ad 0 0), .ref (ad 5 i), .ref (ad 7 k)]) (n := 4) (Nat.le_of_ble_eq_true rfl)
  rw [lg_entry_eq]
  generalize (lg_sl ([.ref (ad 0 0), .ref (ad 5 i), .ref (ad 7 k)]) ++ List.replicate (4 - (lg_sl ([.ref (ad 0 0), .ref (ad 5 i), .ref (ad 7 k)])).length) Slot.unset).toArray = ls at hl ⊢
  have hl : lv_has ls 4 [(0, .ref (ad 0 0)), (1, .ref (ad 5 i)), (2, .ref (ad 7 k))] := hl
  refine lv_aload_n hx hb zd_X_beginSending_0 rfl (lv_at hl 2 rfl) ?_
  refine pw_get (C := "PausedFabric$Frame") (T := zT_K) (N := 10) hx hb hT zin_K hown hK hP (hL.2.2.2.2.2.1 _ hk) rfl rfl 1 (by decide) (hT _ zi_240) (fun _ h9 => h9) rfl zd_X_beginSending_1 ?_
  refine lv_astore_n (lv' := [(3, .ref (ad 6 (fb_n (st 36 k)))), (0, .ref (ad 0 0)), (1, .ref (ad 5 i)), (2, .ref (ad 7 k))]) hx hb zd_X_beginSending_4 rfl hl (by decide) rfl (fun ls hl => ?_)
  refine lv_aload_n hx hb zd_X_beginSending_5 rfl (lv_at hl 2 rfl) ?_
  refine pw_get (C := "PausedFabric$Port") (T := zT_P) (N := 11) hx hb hT zin_P hown hK hP (hL.2.2.1 _ hi).1 rfl rfl 2 (by decide) (hT _ zi_67) (fun _ h9 => h9) rfl zd_X_beginSending_6 ?_
  refine lv_aload_n hx hb zd_X_beginSending_9 rfl (lv_at hl 0 rfl) ?_
  refine pw_get (C := "PausedFabric$Flow") (T := zT_F) (N := 12) hx hb hT zin_F hown hK hP (hL.2.2.2.2.1 _ (fb_vl (hok 36 _ hk))).1 rfl rfl 0 (by decide) (hT _ zi_175) (fun _ h9 => h9) rfl zd_X_beginSending_10 ?_
  refine pw_aald (r := some (ad 11 (3 * i + fb_n (st 22 (fb_n (st 36 k)))))) hx hb hK hP (hL.2.2.1 _ hi).2.1 4 rfl rfl (fb_v01 (hok 22 _)) (if_pos (fb_vl (fb_v01 (hok 22 _)))) zd_X_beginSending_13 ?_
  refine pw_Vv (bytes := zb_Q_removeFirst) (maxL := 2) (ret := none) (As := []) (rest := []) ⟨hx, hb, hml, hown, hT⟩ (c_Q_removeFirst l D cA ad LL fl fr st hL hok (3 * i + fb_n (st 22 (fb_n (st 36 k)))) (fb_w96p hi (fb_vl (fb_v01 (hok 22 _))))) (cwV 0 hT (fb_gV zi_327 zi_328 zi_329 zi_4 zc_Q_removeFirst) rfl rfl rfl (by decide +kernel) ⟨Nat.le_of_ble_eq_true rfl, Nat.le_of_ble_eq_true rfl⟩) hK hP hD hS (fb_recv hK hP (hL.2.2.2.1 _ (fb_w96p hi (fb_vl (fb_v01 (hok 22 _))))) rfl rfl) rfl hl.1 rfl (lv_room (Nat.le_of_ble_eq_true rfl)) zd_X_beginSending_14 ⟨Nat.zero_le _, Nat.zero_le _⟩ (fun s1 H locs hp hP hD hS => ?_)
  obtain ⟨hs, hok9⟩ := hp
  have es1 : s1 = cf_rem (3 * i + fb_n (st 22 (fb_n (st 36 k)))) st := hs
  have oks1 : fb_okC fl fr s1 := hok9
  refine lv_aload_n hx hb zd_X_beginSending_17 rfl (lv_at hl 2 rfl) ?_
  refine pw_get (C := "PausedFabric$Port") (T := zT_P) (N := 11) hx hb hT zin_P hown hK hP (hL.2.2.1 _ hi).1 rfl rfl 3 (by decide) (hT _ zi_69) (fun _ h9 => h9) rfl zd_X_beginSending_18 ?_
  refine lv_aload_n hx hb zd_X_beginSending_21 rfl (lv_at hl 0 rfl) ?_
  refine pw_get (C := "PausedFabric$Flow") (T := zT_F) (N := 12) hx hb hT zin_F hown hK hP (hL.2.2.2.2.1 _ (fb_vl (hok 36 _ hk))).1 rfl rfl 0 (by decide) (hT _ zi_175) (fun _ h9 => h9) rfl zd_X_beginSending_22 ?_
  refine lv_dup2_11 hx hb zd_X_beginSending_25 rfl rfl ?_
  refine pw_iald (v := s1 17 (2 * i + fb_n (s1 22 (fb_n (st 36 k))))) hx hb hK hP (hL.2.2.1 _ hi).2.2.1 0 rfl rfl (fb_v01 (oks1 22 _)) (if_pos (fb_vl (fb_v01 (oks1 22 _)))) zd_X_beginSending_26 ?_
  refine lv_aload_n hx hb zd_X_beginSending_27 rfl (lv_at hl 3 rfl) ?_
  refine pw_get (C := "PausedFabric$Frame") (T := zT_K) (N := 10) hx hb hT zin_K hown hK hP (hL.2.2.2.2.2.1 _ hk) rfl rfl 2 (by decide) (hT _ zi_243) (fun _ h9 => h9) rfl zd_X_beginSending_28 ?_
  refine lv_isub hx hb zd_X_beginSending_31 ?_
  refine pw_iast hx hb hK hP hD hS (hL.2.2.1 _ hi).2.2.1 0 rfl rfl (fb_v01 (oks1 22 _)) (fb_up s1 17 (2 * i + fb_n (s1 22 (fb_n (st 36 k)))) ((s1 17 (2 * i + fb_n (s1 22 (fb_n (st 36 k))))) - (s1 37 k))) (pa_C17 _ _ _ _ (fb_vl (fb_v01 (oks1 22 _)))) (fb_hoC hL _ 17 _ _ ow_17 (fb_x2 17 _ (by decide) (fb_vl (fb_v01 (oks1 22 _))))) zd_X_beginSending_32 (fun H locs hP hD hS => ?_)
  obtain ⟨s2, es2⟩ : ∃ z, z = fb_up s1 17 (2 * i + fb_n (s1 22 (fb_n (st 36 k)))) ((s1 17 (2 * i + fb_n (s1 22 (fb_n (st 36 k))))) - (s1 37 k)) := ⟨_, rfl⟩
  have oks2 : fb_okC fl fr s2 := es2 ▸ (fb_okC_up oks1 trivial)
  rw [← es2] at hP hD
  refine lv_aload_n hx hb zd_X_beginSending_33 rfl (lv_at hl 2 rfl) ?_
  refine lv_aload_n hx hb zd_X_beginSending_34 rfl (lv_at hl 3 rfl) ?_
  refine pw_put (C := "PausedFabric$Port") (T := zT_P) (N := 11) (ty := (.object "PausedFabric$Frame")) (v := .ref (ad 7 k)) hx hb hT zin_P zt_P ztok_P znm_P hown hK hP hD hS (hL.2.2.1 _ hi).1 rfl rfl 5 (by decide) (hT _ zi_73) (fun _ h9 => h9) rfl (by decide +kernel) rfl rfl (Nat.le_of_ble_eq_true rfl) (fb_up s2 13 i (nI k)) (psk_C13 _ _ (fb_l31 hk hfr)) (fb_hoC hL _ 13 _ _ ow_13 (ix_13 _)) zd_X_beginSending_35 (fun H locs hP hD hS => ?_)
  obtain ⟨s3, es3⟩ : ∃ z, z = fb_up s2 13 i (nI k) := ⟨_, rfl⟩
  have oks3 : fb_okC fl fr s3 := es3 ▸ (fb_okC_up oks2 (fb_rk hk (by omega)))
  rw [← es3] at hP hD
  refine lv_aload_n hx hb zd_X_beginSending_38 rfl (lv_at hl 3 rfl) ?_
  refine lv_iconst (v := 2) hx hb zd_X_beginSending_39 (by decide) ?_
  refine pw_put (C := "PausedFabric$Frame") (T := zT_K) (N := 10) (ty := .int) (v := .int 2) hx hb hT zin_K zt_K ztok_K znm_K hown hK hP hD hS (hL.2.2.2.2.2.1 _ hk) rfl rfl 3 (by decide) (hT _ zi_245) (fun _ h9 => h9) rfl (by decide +kernel) rfl rfl (Nat.le_of_ble_eq_true rfl) (fb_up s3 38 k 2) (ps_C38 _ _ _) (fb_hoC hL _ 38 _ _ ow_38 (ix_38 _)) zd_X_beginSending_40 (fun H locs hP hD hS => ?_)
  obtain ⟨s4, es4⟩ : ∃ z, z = fb_up s3 38 k 2 := ⟨_, rfl⟩
  have oks4 : fb_okC fl fr s4 := es4 ▸ (fb_okC_up oks3 trivial)
  rw [← es4] at hP hD
  refine lv_aload_n hx hb zd_X_beginSending_43 rfl (lv_at hl 3 rfl) ?_
  refine lv_aload_n hx hb zd_X_beginSending_44 rfl (lv_at hl 1 rfl) ?_
  refine pw_get (C := "PausedFabric") (T := zT_X) (N := 11) hx hb hT zin_X hown hK hP (hL.2.1 0 (by decide)) rfl rfl 10 (by decide) (hT _ zi_124) (fun _ h9 => h9) rfl zd_X_beginSending_45 ?_
  refine lv_aload_n hx hb zd_X_beginSending_48 rfl (lv_at hl 3 rfl) ?_
  refine pw_get (C := "PausedFabric$Frame") (T := zT_K) (N := 10) hx hb hT zin_K hown hK hP (hL.2.2.2.2.2.1 _ hk) rfl rfl 2 (by decide) (hT _ zi_243) (fun _ h9 => h9) rfl zd_X_beginSending_49 ?_
  refine lv_iadd hx hb zd_X_beginSending_52 ?_
  refine pw_put (C := "PausedFabric$Frame") (T := zT_K) (N := 10) (ty := .int) (v := .int ((s4 6 0) + (s4 37 k))) hx hb hT zin_K zt_K ztok_K znm_K hown hK hP hD hS (hL.2.2.2.2.2.1 _ hk) rfl rfl 8 (by decide) (hT _ zi_255) (fun _ h9 => h9) rfl (by decide +kernel) rfl rfl (Nat.le_of_ble_eq_true rfl) (fb_up s4 43 k ((s4 6 0) + (s4 37 k))) (ps_C43 _ _ _) (fb_hoC hL _ 43 _ _ ow_43 (ix_43 _)) zd_X_beginSending_53 (fun H locs hP hD hS => ?_)
  obtain ⟨s5, es5⟩ : ∃ z, z = fb_up s4 43 k ((s4 6 0) + (s4 37 k)) := ⟨_, rfl⟩
  have oks5 : fb_okC fl fr s5 := es5 ▸ (fb_okC_up oks4 trivial)
  rw [← es5] at hP hD
  refine lv_aload_n hx hb zd_X_beginSending_56 rfl (lv_at hl 2 rfl) ?_
  refine pw_get (C := "PausedFabric$Port") (T := zT_P) (N := 11) hx hb hT zin_P hown hK hP (hL.2.2.1 _ hi).1 rfl rfl 0 (by decide) (hT _ zi_63) (fun _ h9 => h9) rfl zd_X_beginSending_57 ?_
  refine pw_Si (bytes := zb_X_isHost) (maxL := 1) (ret := (some .boolean)) (As := [.int (s5 10 i)]) (rest := []) ⟨hx, hb, hml, hown, hT⟩ (c_X_isHost l D cA (fb_cC cA) ad LL s5 (s5 10 i)) (cwS 1 hT (fb_gS zi_31 zi_32 zi_1 zc_X_isHost) rfl rfl rfl (by decide +kernel) ⟨Nat.le_of_ble_eq_true rfl, Nat.le_of_ble_eq_true rfl⟩) hK hP hD hS rfl hl.1 rfl (lv_room (Nat.le_of_ble_eq_true rfl)) zd_X_beginSending_60 ⟨Nat.zero_le _, Nat.zero_le _⟩ (fun rx sx H locs hp hP hD hS => ?_)
  obtain ⟨hr9, hs, hok9⟩ := hp
  rw [hr9]
  rw [hs] at hP hD
  refine lv_if_eq (tgt := 78) hx hb zd_X_beginSending_63 (by decide) (fun h6 => ?_) (fun h6 => ?_)
  · skip
    have h6b := fb_b0 h6
    exact W.vret hx hb hr (fun t ht hW => ⟨⟨s5, rfl, ⟨(by subst es5 es4 es3 es2 es1; simp only [cf_begin, if_neg h6b, fb_b_t, fb_b_f]), oks5⟩, by rw [ht]; exact hP, va_K.moved hW.alike hK, hD⟩, hS.F ht⟩) hS.2.2 zd_X_beginSending_78
  · skip
    have h6b := fb_b1 h6
    refine lv_aload_n hx hb zd_X_beginSending_66 rfl (lv_at hl 0 rfl) ?_
    refine lv_aload_n hx hb zd_X_beginSending_67 rfl (lv_at hl 1 rfl) ?_
    refine pw_get (C := "PausedFabric") (T := zT_X) (N := 11) hx hb hT zin_X hown hK hP (hL.2.1 0 (by decide)) rfl rfl 10 (by decide) (hT _ zi_124) (fun _ h9 => h9) rfl zd_X_beginSending_68 ?_
    refine lv_aload_n hx hb zd_X_beginSending_71 rfl (lv_at hl 3 rfl) ?_
    refine pw_get (C := "PausedFabric$Frame") (T := zT_K) (N := 10) hx hb hT zin_K hown hK hP (hL.2.2.2.2.2.1 _ hk) rfl rfl 2 (by decide) (hT _ zi_243) (fun _ h9 => h9) rfl zd_X_beginSending_72 ?_
    refine pw_Vv (bytes := zb_F_waitFrom) (maxL := 3) (ret := none) (As := [.int (s5 6 0), .int (s5 37 k)]) (rest := []) ⟨hx, hb, hml, hown, hT⟩ (c_F_waitFrom l D cA ad LL fl fr s5 hL oks5 (fb_n (st 36 k)) (fb_vl (hok 36 _ hk)) (s5 6 0) (s5 37 k)) (cwV 2 hT (fb_gV zi_357 zi_358 zi_359 zi_6 zc_F_waitFrom) rfl rfl rfl (by decide +kernel) ⟨Nat.le_of_ble_eq_true rfl, Nat.le_of_ble_eq_true rfl⟩) hK hP hD hS (fb_recv hK hP (hL.2.2.2.2.1 _ (fb_vl (hok 36 _ hk))).1 rfl rfl) rfl hl.1 rfl (lv_room (Nat.le_of_ble_eq_true rfl)) zd_X_beginSending_75 ⟨Nat.zero_le _, Nat.zero_le _⟩ (fun s7 H locs hp hP hD hS => ?_)
    obtain ⟨hs, hok9⟩ := hp
    have es7 : s7 = cf_waitFrom (fb_n (st 36 k)) (s5 6 0) (s5 37 k) s5 := hs
    have oks7 : fb_okC fl fr s7 := hok9
    exact W.vret hx hb hr (fun t ht hW => ⟨⟨s7, rfl, ⟨(by subst es7 es5 es4 es3 es2 es1; simp only [cf_begin, if_pos h6b, fb_b_t, fb_b_f]), oks7⟩, by rw [ht]; exact hP, va_K.moved hW.alike hK, hD⟩, hS.F ht⟩) hS.2.2 zd_X_beginSending_78
