/-! inject (by program) -/
set_option maxHeartbeats 4000000 in
set_option maxRecDepth 100000 in
theorem c_X_inject (l : Launch) (D : va_G) (cA : Nat → ClassId) (ad : Nat → Nat → Nat) (LL : fb_L) (fl fr : Nat) (st : fb_S) (hL : fb_lvC LL fl fr) (hok : fb_okC fl fr st) (f n : Int32) (sz : Nat) : Met l zy_X_inject (zw_X_inject :: lw_gd) { frames := 2, cells := 1, slots := 10, locals := 47 } (va_Pc [.ref (ad 0 0), .int f, .int n] (fun U => fb_Pre (fb_cC cA) D fb_cl (fb_tys cA) ad LL st sz U)) (va_Qi (fun r (w : fb_S × (Nat → Nat → Nat) × fb_L) => r = cf_injA st f n ∧ w.1 = cf_inj fr f n st ∧ fb_okC fl (cf_frC st fr f n) w.1 ∧ fb_lvC w.2.2 fl (cf_frC st fr f n) ∧ w.2.1 0 0 = ad 0 0) (fun w t => va_P D fb_cl (fb_wl (fb_cC cA) w.2.1 w.1 w.2.2) t.heap ∧ va_K D fb_cl (fb_tys cA) t ∧ va_D (fb_A ad LL sz) (fb_wl (fb_cC cA) w.2.1 w.1 w.2.2)) (fb_A ad LL sz)) 1 10 (fb_A ad LL sz) := by
  have hfl : fl ≤ 12 := hL.2.2.2.2.2.2.1
  have hfr : fr ≤ 100 := hL.2.2.2.2.2.2.2
  refine Met.ofW (cc := zb_X_inject) (maxL := 6) (ret := (some .int)) (by decide) rfl ?_
  intro p e s m args below meth c s₁ B hml hv
  obtain ⟨rfl, hsz, hP, hK, hD0⟩ := hv
  have hx := B.exec
  have hb := B.bytes
  have hr := B.returns
  have hts := atoms_spec (ws := zw_X_inject :: lw_gd) B.pre
  have hT : ∀ w ∈ lw_gd, w.before _ s = true := fun w h => hts w (List.mem_cons_of_mem _ h)
  have hown : s.vm.findClass "PausedFabric" = some m.cls := findClass_of_methodNamed B.named
  have hlocks := B.notSynchronized
  subst hsz
  have hD := fb_D_self (sz := s.heap.size) hD0
  have hS : va_S (fb_A ad LL s.heap.size) s.heap s.heap [] := va_S.rf
  have hA : ∀ q : Nat, s.heap.size ≤ q → fb_A ad LL s.heap.size q := fun q h => Or.inr h
  have hl := lv_entry ([.ref (ad 0 0), .int f, .int n]) (n := 6) (Nat.le_of_ble_eq_true rfl)
  rw [lg_entry_eq]
  generalize (lg_sl ([.ref (ad 0 0), .int f, .int n]) ++ List.replicate (6 - (lg_sl ([.ref (ad 0 0), .int f, .int n])).length) Slot.unset).toArray = ls at hl ⊢
  have hl : lv_has ls 6 [(0, .ref (ad 0 0)), (1, .int f), (2, .int n)] := hl
  refine lv_aload_n hx hb zd_X_inject_0 rfl (lv_at hl 0 rfl) ?_
  refine lv_iload_n hx hb zd_X_inject_1 rfl (lv_at hl 1 rfl) ?_
  refine pw_Vq (bytes := zb_X_flowAt) (maxL := 2) (ret := (some (.object "PausedFabric$Flow"))) (As := [.int f]) (rest := []) ⟨hx, hb, hml, hown, hT⟩ (c_X_flowAt l D cA ad LL fl fr st hL hok f) (cwV 1 hT (fb_gV zi_228 zi_230 zs_X_flowAt zi_1 zc_X_flowAt) rfl rfl rfl (by decide +kernel) ⟨Nat.le_of_ble_eq_true rfl, Nat.le_of_ble_eq_true rfl⟩) hK hP hD hS (fb_recv hK hP (hL.2.1 0 (by decide)) rfl rfl) rfl hl.1 rfl (lv_room (Nat.le_of_ble_eq_true rfl)) zd_X_inject_2 ⟨Nat.zero_le _, Nat.zero_le _⟩ (fun rx sx H locs hp hP hD hS => ?_)
  obtain ⟨hr9, hs, hok9⟩ := hp
  rw [hr9]
  rw [hs] at hP hD
  refine pw_split (fun hz1 => ?_) (fun hz1 => ?_)
  · skip
    refine lv_astore_nN (lv' := [(3, .null), (0, .ref (ad 0 0)), (1, .int f), (2, .int n)]) hx hb zd_X_inject_5 rfl hl (by decide) rfl (fun ls hl => ?_)
    refine lv_aload_nN hx hb zd_X_inject_6 rfl (lv_at hl 0 rfl) ?_
    refine lv_ifnullN (tgt := 29) hx hb zd_X_inject_7 (by decide) ?_
    refine lv_iconst (v := (-1)) hx hb zd_X_inject_29 (by decide) ?_
    refine W.widen (k := 1) (n := 10) (by omega) (by omega) ?_
    exact W.iret (v := (-1)) hx hb hr (fun t ht hW => ⟨⟨(-1), (st, ad, LL), rfl, ⟨by simp only [cf_injA, if_pos hz1], by simp only [cf_inj, if_pos hz1], by rw [(show cf_frC st fr f n = fr from by simp only [cf_frC, if_pos hz1])]; exact hok, by rw [(show cf_frC st fr f n = fr from by simp only [cf_frC, if_pos hz1])]; exact hL, rfl⟩, by rw [ht]; exact hP, va_K.moved hW.alike hK, hD⟩, hS.F ht⟩) hS.2.2 zd_X_inject_30
  · skip
    refine lv_astore_n (lv' := [(3, .ref (ad 6 (fb_n (cf_flowAt st f)))), (0, .ref (ad 0 0)), (1, .int f), (2, .int n)]) hx hb zd_X_inject_5 rfl hl (by decide) rfl (fun ls hl => ?_)
    refine lv_aload_n hx hb zd_X_inject_6 rfl (lv_at hl 0 rfl) ?_
    refine lv_ifnull hx hb zd_X_inject_7 ?_
    refine lv_iload_n hx hb zd_X_inject_10 rfl (lv_at hl 3 rfl) ?_
    refine lv_iconst (v := 1) hx hb zd_X_inject_11 (by decide) ?_
    refine lv_icmp_lt (tgt := 29) hx hb zd_X_inject_12 (by decide) (fun h2 => ?_) (fun h2 => ?_)
    · skip
      refine lv_iconst (v := (-1)) hx hb zd_X_inject_29 (by decide) ?_
      refine W.widen (k := 1) (n := 10) (by omega) (by omega) ?_
      exact W.iret (v := (-1)) hx hb hr (fun t ht hW => ⟨⟨(-1), (st, ad, LL), rfl, ⟨by simp only [cf_injA, if_neg hz1, if_pos h2], by simp only [cf_inj, if_neg hz1, if_pos h2], by rw [(show cf_frC st fr f n = fr from by simp only [cf_frC, if_neg hz1, if_pos h2])]; exact hok, by rw [(show cf_frC st fr f n = fr from by simp only [cf_frC, if_neg hz1, if_pos h2])]; exact hL, rfl⟩, by rw [ht]; exact hP, va_K.moved hW.alike hK, hD⟩, hS.F ht⟩) hS.2.2 zd_X_inject_30
    · skip
      refine lv_iload_n hx hb zd_X_inject_15 rfl (lv_at hl 3 rfl) ?_
      refine lv_iconst (v := 4) hx hb zd_X_inject_16 (by decide) ?_
      refine lv_icmp_gt (tgt := 29) hx hb zd_X_inject_17 (by decide) (fun h3 => ?_) (fun h3 => ?_)
      · skip
        refine lv_iconst (v := (-1)) hx hb zd_X_inject_29 (by decide) ?_
        refine W.widen (k := 1) (n := 10) (by omega) (by omega) ?_
        exact W.iret (v := (-1)) hx hb hr (fun t ht hW => ⟨⟨(-1), (st, ad, LL), rfl, ⟨by simp only [cf_injA, if_neg hz1, if_neg h2, if_pos h3], by simp only [cf_inj, if_neg hz1, if_neg h2, if_pos h3], by rw [(show cf_frC st fr f n = fr from by simp only [cf_frC, if_neg hz1, if_neg h2, if_pos h3])]; exact hok, by rw [(show cf_frC st fr f n = fr from by simp only [cf_frC, if_neg hz1, if_neg h2, if_pos h3])]; exact hL, rfl⟩, by rw [ht]; exact hP, va_K.moved hW.alike hK, hD⟩, hS.F ht⟩) hS.2.2 zd_X_inject_30
      · skip
        refine lv_aload_n hx hb zd_X_inject_20 rfl (lv_at hl 1 rfl) ?_
        refine pw_get (C := "PausedFabric") (T := zT_X) (N := 11) hx hb hT zin_X hown hK hP (hL.2.1 0 (by decide)) rfl rfl 9 (by decide) (hT _ zi_123) (fun _ h9 => h9) rfl zd_X_inject_21 ?_
        refine lv_bipush (v := 100) hx hb zd_X_inject_24 (by decide) ?_
        refine lv_icmp_lt (tgt := 31) hx hb zd_X_inject_26 (by decide) (fun h4 => ?_) (fun h4 => ?_)
        · skip
          refine lv_aload_n hx hb zd_X_inject_31 rfl (lv_at hl 1 rfl) ?_
          refine pw_get (C := "PausedFabric") (T := zT_X) (N := 11) hx hb hT zin_X hown hK hP (hL.2.1 0 (by decide)) rfl rfl 9 (by decide) (hT _ zi_123) (fun _ h9 => h9) rfl zd_X_inject_32 ?_
          refine lv_istore (lv' := [(4, .int (st 5 0)), (3, .ref (ad 6 (fb_n (cf_flowAt st f)))), (0, .ref (ad 0 0)), (1, .int f), (2, .int n)]) hx hb zd_X_inject_35 hl (by decide) rfl (fun ls hl => ?_)
          have hc5 : st 5 0 = nI fr := hok 5 0 rfl
          have hfr100 : fr < 100 := fb_lt100 hc5 hfr h4
          refine va_new (ci := 3) (fs := [.int 0, .null, .int 0, .int 0, .int 0, .int 0, .int 0, .null, .int 0, .null]) (C := "PausedFabric$Frame") (T := zT_K) (N := 10) hx hb hT zin_K zt_K ztok_K hown (hT _ zi_109) (hT _ zi_232) (hT _ zi_8) hK hP hD hS hA rfl (fun j hj => by rcases (show j = 0 ∨ j = 1 ∨ j = 2 ∨ j = 3 ∨ j = 4 ∨ j = 5 ∨ j = 6 ∨ j = 7 ∨ j = 8 ∨ j = 9 by omega) with rfl | rfl | rfl | rfl | rfl | rfl | rfl | rfl | rfl | rfl <;> rfl) (show 1 ≤ 1 by decide) (show 10 ≤ 10 by decide) zd_X_inject_37 (fun q37 H hP hD hS => ?_)
          refine W.widen (k := 1) (n := 10) (by omega) (by omega) ?_
          refine lv_dup hx hb zd_X_inject_40 rfl ?_
          refine lv_iload hx hb zd_X_inject_41 (lv_at hl 0 rfl) ?_
          refine lv_aload_n hx hb zd_X_inject_43 rfl (lv_at hl 1 rfl) ?_
          refine lv_iload_n hx hb zd_X_inject_44 rfl (lv_at hl 4 rfl) ?_
          have hPc : va_P D fb_cl [(q37, .inr (3, [.int 0, .null, .int 0, .int 0, .int 0, .int 0, .int 0, .null, .int 0, .null]))] H := fb_Pr (a := (fb_wl (fb_cC cA) ad st LL)) hP
          have hDc : va_D (fb_A ad LL s.heap.size) [(q37, .inr (3, [.int 0, .null, .int 0, .int 0, .int 0, .int 0, .int 0, .null, .int 0, .null]))] := fb_Dr (a := (fb_wl (fb_cC cA) ad st LL)) hD
          have hFc : ∀ q, va_A [(q37, .inr (3, [.int 0, .null, .int 0, .int 0, .int 0, .int 0, .int 0, .null, .int 0, .null]))] H.size q → fb_A ad LL s.heap.size q := va_free hDc hS hA [0] rfl
          refine va_callv (va_runI (As := [.int (st 5 0), .ref (ad 6 (fb_n (cf_flowAt st f))), .int n]) (rest := [.ref q37]) ⟨hx, hb, hml, hown, hT⟩ (c_K_init l D cA q37 (st 5 0) (ad 6 (fb_n (cf_flowAt st f))) n H.size) (cwI 3 hT (fb_gI zc_K_init) rfl rfl rfl (hT _ zi_8) (hT _ zi_233) (hT _ zi_234) rfl (by decide +kernel) ⟨Nat.le_of_ble_eq_true rfl, Nat.le_of_ble_eq_true rfl⟩) ⟨fun a U g mk q => by obtain ⟨q0, q1, qP, qK, qD⟩ := q; exact ⟨q0, q1, qP, va_K.moved (u := U) (U := U.calling g mk a) (Vm.Alike.refl U.vm) qK, qD⟩, fun U hU hW => ⟨rfl, by rw [hU], by rw [hU]; exact hPc, va_K.moved hW.alike hK, hDc.weaken (fun _ _ _ _ => trivial)⟩⟩ rfl rfl hl.1 rfl (lv_room (Nat.le_of_ble_eq_true rfl)) zd_X_inject_45 ⟨show 1 ≤ 1 by decide, show 10 ≤ 10 by decide⟩) hS (fun q _ h => hFc q h) hFc (fun u9 t H1 locs ht hvm hq5 hB hsz9 hk9 hS => ?_)
          obtain ⟨hP1, hK1, hD1⟩ := hB
          rw [ht] at hP1
          obtain ⟨hP, hD⟩ := fb_join (wr := (fb_wl (fb_cC cA) ad st LL)) (wc := [(q37, .inr (3, [.int 0, .null, .int 0, .int 0, .int 0, .int 0, .int 0, .null, .int 0, .null]))]) hP hD hFc (fun q h => h) hk9 hP1 hD1
          generalize H1 = H at hP hS ⊢
          rw [← fb_wl_newK (num := st 5 0) (z := cf_flowAt st f) (n := n) hok hL] at hP hD
          have hL1 := fb_lvC_newK hL hfr100
          obtain ⟨ad1, ead⟩ : ∃ a, a = fb_ad ad 7 fr q37 := ⟨_, rfl⟩
          obtain ⟨LL1, eLL⟩ : ∃ a, a = LL ++ [(7, fr)] := ⟨_, rfl⟩
          obtain ⟨s1, es1⟩ : ∃ a, a = cf_newK fr (st 5 0) (cf_flowAt st f) n st := ⟨_, rfl⟩
          rw [← ead, ← eLL, ← es1] at hP hD
          rw [← eLL] at hL1
          have a00 : ad1 0 0 = ad 0 0 := by rw [ead]; exact fb_ad_ne (by omega)
          have a7 : ad1 7 fr = q37 := by rw [ead]; exact fb_ad_eq
          rw [← a7]
          rw [← a00] at hl
          refine lv_astore (lv' := [(5, .ref (ad1 7 fr)), (4, .int (st 5 0)), (3, .ref (ad 6 (fb_n (cf_flowAt st f)))), (0, .ref (ad1 0 0)), (1, .int f), (2, .int n)]) hx hb zd_X_inject_48 hl (by decide) rfl (fun ls hl => ?_)
          refine lv_aload_n hx hb zd_X_inject_50 rfl (lv_at hl 3 rfl) ?_
          refine pw_get (C := "PausedFabric") (T := zT_X) (N := 11) hx hb hT zin_X hown hK hP (hL1.2.1 0 (by decide)) rfl rfl 7 (by decide) (hT _ zi_121) (fun _ h9 => h9) rfl zd_X_inject_51 ?_
          refine lv_iload hx hb zd_X_inject_54 (lv_at hl 1 rfl) ?_
          refine lv_aload hx hb zd_X_inject_56 (lv_at hl 0 rfl) ?_
          refine pw_aast (k := 4) (i := 0) (k2 := 7) (i2 := fr) (z := st 5 0) (r := ("PausedFabric$Frame", zT_K, 10)) hx hb hK hP hD hS (hL1.2.1 4 (by decide)) 3 rfl rfl (hL1.2.2.2.2.2.1 fr (by omega)) rfl rfl (fb_eqin hc5 hfr100 (by decide)) (fb_up s1 9 fr (nI fr)) (by rw [fb_eqn hc5 (by omega)]; exact pq_C9 s1 (by omega)) (fb_hoC hL1 _ 9 _ _ ow_9 (ix_9 _)) zd_X_inject_58 (fun H locs hP hD hS => ?_)
          obtain ⟨s2, es2⟩ : ∃ z, z = fb_up s1 9 fr (nI fr) := ⟨_, rfl⟩
          rw [← es2] at hP hD
          refine lv_aload_n hx hb zd_X_inject_59 rfl (lv_at hl 3 rfl) ?_
          refine lv_dup hx hb zd_X_inject_60 rfl ?_
          refine pw_get (C := "PausedFabric") (T := zT_X) (N := 11) hx hb hT zin_X hown hK hP (hL1.2.1 0 (by decide)) rfl rfl 9 (by decide) (hT _ zi_123) (fun _ h9 => h9) rfl zd_X_inject_61 ?_
          refine lv_iconst (v := 1) hx hb zd_X_inject_64 (by decide) ?_
          refine lv_iadd hx hb zd_X_inject_65 ?_
          refine pw_put (C := "PausedFabric") (T := zT_X) (N := 11) (ty := .int) (v := .int (s2 5 0 + 1)) hx hb hT zin_X zt_X ztok_X znm_X hown hK hP hD hS (hL1.2.1 0 (by decide)) rfl rfl 9 (by decide) (hT _ zi_123) (fun _ h9 => h9) rfl (by decide +kernel) rfl rfl (Nat.le_of_ble_eq_true rfl) (fb_up s2 5 0 (s2 5 0 + 1)) (ps_C5 _ _) (fb_hoC hL1 _ 5 _ _ ow_5 (ix_5 _)) zd_X_inject_66 (fun H locs hP hD hS => ?_)
          obtain ⟨s3, es3⟩ : ∃ z, z = fb_up s2 5 0 (s2 5 0 + 1) := ⟨_, rfl⟩
          rw [← es3] at hP hD
          have ok3 : fb_okC fl (fr + 1) s3 := by rw [es3, es2, es1]; exact fb_okC_newK hok (fb_inr (rg_flowAt hok hfl f) hz1 (Nat.le_refl _)) ⟨fb_nlt h2, fb_nlt h3⟩
          refine lv_aload hx hb zd_X_inject_69 (lv_at hl 0 rfl) ?_
          refine pw_SiX2 (wr := []) (bytes := zb_X_enqueue) (maxL := 3) (ret := (some .int)) (As := [.ref (ad1 7 fr)]) (rest := []) ⟨hx, hb, hml, hown, hT⟩ (c_X_enqueue l D cA ad1 LL1 fl (fr + 1) s3 hL1 ok3 fr (by omega)) (cwS 1 hT (fb_gS zi_279 zi_280 zi_1 zc_X_enqueue) rfl rfl rfl (by decide +kernel) ⟨Nat.le_of_ble_eq_true rfl, Nat.le_of_ble_eq_true rfl⟩) hK hP hD hS (fb_AA hD (fun q h => hA q (Nat.le_trans hS.1 h))) rfl hl.1 rfl (lv_room (Nat.le_of_ble_eq_true rfl)) zd_X_inject_71 ⟨show 1 ≤ 1 by decide, show 10 ≤ 10 by decide⟩ (fun rx s4 H locs hp hP hD hS _ => ?_)
          obtain ⟨hr9, hs, hok9⟩ := hp
          refine lv_pop hx hb zd_X_inject_74 rfl ?_
          refine lv_iload hx hb zd_X_inject_75 (lv_at hl 1 rfl) ?_
          have e9 : cf_frC st fr f n = fr + 1 := by simp only [cf_frC, if_neg hz1, if_neg h2, if_neg h3, if_pos h4]
          exact W.iret (v := st 5 0) hx hb hr (fun t ht hW => ⟨⟨st 5 0, (s4, ad1, LL1), rfl, ⟨by simp only [cf_injA, if_neg hz1, if_neg h2, if_neg h3, if_pos h4], by rw [hs, es3, es2, es1]; simp only [cf_inj, cf_injU, if_neg hz1, if_neg h2, if_neg h3, if_pos h4], by rw [e9]; exact hok9, by rw [e9]; exact hL1, a00⟩, by rw [ht]; exact hP, va_K.moved hW.alike hK, hD⟩, hS.F ht⟩) hS.2.2 zd_X_inject_77
        · skip
          refine lv_iconst (v := (-1)) hx hb zd_X_inject_29 (by decide) ?_
          refine W.widen (k := 1) (n := 10) (by omega) (by omega) ?_
          exact W.iret (v := (-1)) hx hb hr (fun t ht hW => ⟨⟨(-1), (st, ad, LL), rfl, ⟨by simp only [cf_injA, if_neg hz1, if_neg h2, if_neg h3, if_neg h4], by simp only [cf_inj, if_neg hz1, if_neg h2, if_neg h3, if_neg h4], by rw [(show cf_frC st fr f n = fr from by simp only [cf_frC, if_neg hz1, if_neg h2, if_neg h3, if_neg h4])]; exact hok, by rw [(show cf_frC st fr f n = fr from by simp only [cf_frC, if_neg hz1, if_neg h2, if_neg h3, if_neg h4])]; exact hL, rfl⟩, by rw [ht]; exact hP, va_K.moved hW.alike hK, hD⟩, hS.F ht⟩) hS.2.2 zd_X_inject_30
