/-! contracts (by program) -/
set_option maxHeartbeats 4000000 in
set_option maxRecDepth 100000 in
theorem c_X_receive (l : Launch) (D : va_G) (cA : Nat → ClassId) (ad : Nat → Nat → Nat) (LL : fb_L) (fl fr : Nat) (st : fb_S) (hL : fb_lvC LL fl fr) (hok : fb_okC fl fr st) (k : Nat) (hk : k < fr) : fb_Mv l zy_X_receive (zw_X_receive :: lw_gd) { frames := 0, cells := 0, slots := 0, locals := 0 } (fb_cC cA) D fb_cl (fb_tys cA) ad LL st [.ref (ad 7 k)] (fun st1 => st1 = cf_receive k st ∧ fb_okC fl fr st1) := by
  have hfl : fl ≤ 12 := hL.2.2.2.2.2.2.1
  have hfr : fr ≤ 100 := hL.2.2.2.2.2.2.2
  intro sz
  refine Met.ofW (cc := zb_X_receive) (maxL := 2) (ret := none) (by decide) rfl ?_
  intro p e s m args below meth c s₁ B hml hv
  obtain ⟨rfl, hsz, hP, hK, hD0⟩ := hv
  have hx := B.exec
  have hb := B.bytes
  have hr := B.returns
  have hts := atoms_spec (ws := zw_X_receive :: lw_gd) B.pre
  have hT : ∀ w ∈ lw_gd, w.before _ s = true := fun w h => hts w (List.mem_cons_of_mem _ h)
  have hown : s.vm.findClass "PausedFabric" = some m.cls := findClass_of_methodNamed B.named
  have hlocks := B.notSynchronized
  subst hsz
  have hD := fb_D_self (sz := s.heap.size) hD0
  have hS : va_S (fb_A ad LL s.heap.size) s.heap s.heap [] := va_S.rf
  have hl := lv_entry ([.ref (ad 7 k)]) (n := 2) (Nat.le_of_ble_eq_true rfl)
  rw [lg_entry_eq]
  generalize (lg_sl ([.ref (ad 7 k)]) ++ List.replicate (2 - (lg_sl ([.ref (ad 7 k)])).length) Slot.unset).toArray = ls at hl ⊢
  have hl : lv_has ls 2 [(0, .ref (ad 7 k))] := hl
  refine lv_aload_n hx hb zd_X_receive_0 rfl (lv_at hl 0 rfl) ?_
  refine pw_get (C := "PausedFabric$Frame") (T := zT_K) (N := 10) hx hb hT zin_K hown hK hP (hL.2.2.2.2.2.1 _ hk) rfl rfl 1 (by decide) (hT _ zi_240) (fun _ h9 => h9) rfl zd_X_receive_1 ?_
  refine lv_astore_n (lv' := [(1, .ref (ad 6 (fb_n (st 36 k)))), (0, .ref (ad 7 k))]) hx hb zd_X_receive_4 rfl hl (by decide) rfl (fun ls hl => ?_)
  refine lv_aload_n hx hb zd_X_receive_5 rfl (lv_at hl 1 rfl) ?_
  refine lv_iconst (v := 4) hx hb zd_X_receive_6 (by decide) ?_
  refine pw_put (C := "PausedFabric$Frame") (T := zT_K) (N := 10) (ty := .int) (v := .int 4) hx hb hT zin_K zt_K ztok_K znm_K hown hK hP hD hS (hL.2.2.2.2.2.1 _ hk) rfl rfl 3 (by decide) (hT _ zi_245) (fun _ h9 => h9) rfl (by decide +kernel) rfl rfl (Nat.le_of_ble_eq_true rfl) (fb_up st 38 k 4) (ps_C38 _ _ _) (fb_hoC hL _ 38 _ _ ow_38 (ix_38 _)) zd_X_receive_7 (fun H locs hP hD hS => ?_)
  obtain ⟨s1, es1⟩ : ∃ z, z = fb_up st 38 k 4 := ⟨_, rfl⟩
  have oks1 : fb_okC fl fr s1 := es1 ▸ (fb_okC_up hok trivial)
  rw [← es1] at hP hD
  refine lv_aload_n hx hb zd_X_receive_10 rfl (lv_at hl 0 rfl) ?_
  refine lv_dup hx hb zd_X_receive_11 rfl ?_
  refine pw_get (C := "PausedFabric$Flow") (T := zT_F) (N := 12) hx hb hT zin_F hown hK hP (hL.2.2.2.2.1 _ (fb_vl (hok 36 _ hk))).1 rfl rfl 9 (by decide) (hT _ zi_190) (fun _ h9 => h9) rfl zd_X_receive_12 ?_
  refine lv_iconst (v := 1) hx hb zd_X_receive_15 (by decide) ?_
  refine lv_iadd hx hb zd_X_receive_16 ?_
  refine pw_put (C := "PausedFabric$Flow") (T := zT_F) (N := 12) (ty := .int) (v := .int ((s1 30 (fb_n (st 36 k))) + 1)) hx hb hT zin_F zt_F ztok_F znm_F hown hK hP hD hS (hL.2.2.2.2.1 _ (fb_vl (hok 36 _ hk))).1 rfl rfl 9 (by decide) (hT _ zi_190) (fun _ h9 => h9) rfl (by decide +kernel) rfl rfl (Nat.le_of_ble_eq_true rfl) (fb_up s1 30 (fb_n (st 36 k)) ((s1 30 (fb_n (st 36 k))) + 1)) (ps_C30 _ _ _) (fb_hoC hL _ 30 _ _ ow_30 (ix_30 _)) zd_X_receive_17 (fun H locs hP hD hS => ?_)
  obtain ⟨s2, es2⟩ : ∃ z, z = fb_up s1 30 (fb_n (st 36 k)) ((s1 30 (fb_n (st 36 k))) + 1) := ⟨_, rfl⟩
  have oks2 : fb_okC fl fr s2 := es2 ▸ (fb_okC_up oks1 trivial)
  rw [← es2] at hP hD
  refine lv_aload_n hx hb zd_X_receive_20 rfl (lv_at hl 0 rfl) ?_
  refine lv_aload_n hx hb zd_X_receive_21 rfl (lv_at hl 1 rfl) ?_
  refine pw_get (C := "PausedFabric$Frame") (T := zT_K) (N := 10) hx hb hT zin_K hown hK hP (hL.2.2.2.2.2.1 _ hk) rfl rfl 0 (by decide) (hT _ zi_238) (fun _ h9 => h9) rfl zd_X_receive_22 ?_
  refine pw_put (C := "PausedFabric$Flow") (T := zT_F) (N := 12) (ty := .int) (v := .int (s2 35 k)) hx hb hT zin_F zt_F ztok_F znm_F hown hK hP hD hS (hL.2.2.2.2.1 _ (fb_vl (hok 36 _ hk))).1 rfl rfl 11 (by decide) (hT _ zi_194) (fun _ h9 => h9) rfl (by decide +kernel) rfl rfl (Nat.le_of_ble_eq_true rfl) (fb_up s2 32 (fb_n (st 36 k)) (s2 35 k)) (ps_C32 _ _ _) (fb_hoC hL _ 32 _ _ ow_32 (ix_32 _)) zd_X_receive_25 (fun H locs hP hD hS => ?_)
  obtain ⟨s3, es3⟩ : ∃ z, z = fb_up s2 32 (fb_n (st 36 k)) (s2 35 k) := ⟨_, rfl⟩
  have oks3 : fb_okC fl fr s3 := es3 ▸ (fb_okC_up oks2 trivial)
  rw [← es3] at hP hD
  refine lv_aload_n hx hb zd_X_receive_28 rfl (lv_at hl 1 rfl) ?_
  refine pw_get (C := "PausedFabric$Frame") (T := zT_K) (N := 10) hx hb hT zin_K hown hK hP (hL.2.2.2.2.2.1 _ hk) rfl rfl 5 (by decide) (hT _ zi_249) (fun _ h9 => h9) rfl zd_X_receive_29 ?_
  refine lv_if_eq (tgt := 40) hx hb zd_X_receive_32 (by decide) (fun h4 => ?_) (fun h4 => ?_)
  · skip
    exact W.vret hx hb hr (fun t ht hW => ⟨⟨s3, rfl, ⟨(by subst es3 es2 es1; simp only [cf_receive, if_pos h4, fb_b_t, fb_b_f]), oks3⟩, by rw [ht]; exact hP, va_K.moved hW.alike hK, hD⟩, hS.F ht⟩) hS.2.2 zd_X_receive_40
  · skip
    refine lv_aload_n hx hb zd_X_receive_35 rfl (lv_at hl 0 rfl) ?_
    refine lv_iconst (v := 1) hx hb zd_X_receive_36 (by decide) ?_
    refine pw_put (C := "PausedFabric$Flow") (T := zT_F) (N := 12) (ty := .boolean) (v := .int 1) hx hb hT zin_F zt_F ztok_F znm_F hown hK hP hD hS (hL.2.2.2.2.1 _ (fb_vl (hok 36 _ hk))).1 rfl rfl 7 (by decide) (hT _ zi_186) (fun _ h9 => h9) rfl (by decide +kernel) rfl rfl (Nat.le_of_ble_eq_true rfl) (fb_up s3 28 (fb_n (st 36 k)) 1) (ps_C28 _ _ _) (fb_hoC hL _ 28 _ _ ow_28 (ix_28 _)) zd_X_receive_37 (fun H locs hP hD hS => ?_)
    obtain ⟨s5, es5⟩ : ∃ z, z = fb_up s3 28 (fb_n (st 36 k)) 1 := ⟨_, rfl⟩
    have oks5 : fb_okC fl fr s5 := es5 ▸ (fb_okC_up oks3 (Or.inr rfl))
    rw [← es5] at hP hD
    exact W.vret hx hb hr (fun t ht hW => ⟨⟨s5, rfl, ⟨(by subst es5 es3 es2 es1; simp only [cf_receive, if_neg h4, fb_b_t, fb_b_f]), oks5⟩, by rw [ht]; exact hP, va_K.moved hW.alike hK, hD⟩, hS.F ht⟩) hS.2.2 zd_X_receive_40

set_option maxHeartbeats 4000000 in
set_option maxRecDepth 100000 in
theorem c_X_drop (l : Launch) (D : va_G) (cA : Nat → ClassId) (ad : Nat → Nat → Nat) (LL : fb_L) (fl fr : Nat) (st : fb_S) (hL : fb_lvC LL fl fr) (hok : fb_okC fl fr st) (k : Nat) (hk : k < fr) : fb_Mv l zy_X_drop (zw_X_drop :: lw_gd) { frames := 0, cells := 0, slots := 0, locals := 0 } (fb_cC cA) D fb_cl (fb_tys cA) ad LL st [.ref (ad 7 k)] (fun st1 => st1 = cf_drop k st ∧ fb_okC fl fr st1) := by
  have hfl : fl ≤ 12 := hL.2.2.2.2.2.2.1
  have hfr : fr ≤ 100 := hL.2.2.2.2.2.2.2
  intro sz
  refine Met.ofW (cc := zb_X_drop) (maxL := 1) (ret := none) (by decide) rfl ?_
  intro p e s m args below meth c s₁ B hml hv
  obtain ⟨rfl, hsz, hP, hK, hD0⟩ := hv
  have hx := B.exec
  have hb := B.bytes
  have hr := B.returns
  have hts := atoms_spec (ws := zw_X_drop :: lw_gd) B.pre
  have hT : ∀ w ∈ lw_gd, w.before _ s = true := fun w h => hts w (List.mem_cons_of_mem _ h)
  have hown : s.vm.findClass "PausedFabric" = some m.cls := findClass_of_methodNamed B.named
  have hlocks := B.notSynchronized
  subst hsz
  have hD := fb_D_self (sz := s.heap.size) hD0
  have hS : va_S (fb_A ad LL s.heap.size) s.heap s.heap [] := va_S.rf
  have hl := lv_entry ([.ref (ad 7 k)]) (n := 1) (Nat.le_of_ble_eq_true rfl)
  rw [lg_entry_eq]
  generalize (lg_sl ([.ref (ad 7 k)]) ++ List.replicate (1 - (lg_sl ([.ref (ad 7 k)])).length) Slot.unset).toArray = ls at hl ⊢
  have hl : lv_has ls 1 [(0, .ref (ad 7 k))] := hl
  refine lv_aload_n hx hb zd_X_drop_0 rfl (lv_at hl 0 rfl) ?_
  refine lv_iconst (v := 5) hx hb zd_X_drop_1 (by decide) ?_
  refine pw_put (C := "PausedFabric$Frame") (T := zT_K) (N := 10) (ty := .int) (v := .int 5) hx hb hT zin_K zt_K ztok_K znm_K hown hK hP hD hS (hL.2.2.2.2.2.1 _ hk) rfl rfl 3 (by decide) (hT _ zi_245) (fun _ h9 => h9) rfl (by decide +kernel) rfl rfl (Nat.le_of_ble_eq_true rfl) (fb_up st 38 k 5) (ps_C38 _ _ _) (fb_hoC hL _ 38 _ _ ow_38 (ix_38 _)) zd_X_drop_2 (fun H locs hP hD hS => ?_)
  obtain ⟨s1, es1⟩ : ∃ z, z = fb_up st 38 k 5 := ⟨_, rfl⟩
  have oks1 : fb_okC fl fr s1 := es1 ▸ (fb_okC_up hok trivial)
  rw [← es1] at hP hD
  refine lv_aload_n hx hb zd_X_drop_5 rfl (lv_at hl 0 rfl) ?_
  refine pw_get (C := "PausedFabric$Frame") (T := zT_K) (N := 10) hx hb hT zin_K hown hK hP (hL.2.2.2.2.2.1 _ hk) rfl rfl 1 (by decide) (hT _ zi_240) (fun _ h9 => h9) rfl zd_X_drop_6 ?_
  refine lv_dup hx hb zd_X_drop_9 rfl ?_
  refine pw_get (C := "PausedFabric$Flow") (T := zT_F) (N := 12) hx hb hT zin_F hown hK hP (hL.2.2.2.2.1 _ (fb_vl (oks1 36 _ hk))).1 rfl rfl 10 (by decide) (hT _ zi_192) (fun _ h9 => h9) rfl zd_X_drop_10 ?_
  refine lv_iconst (v := 1) hx hb zd_X_drop_13 (by decide) ?_
  refine lv_iadd hx hb zd_X_drop_14 ?_
  refine pw_put (C := "PausedFabric$Flow") (T := zT_F) (N := 12) (ty := .int) (v := .int ((s1 31 (fb_n (s1 36 k))) + 1)) hx hb hT zin_F zt_F ztok_F znm_F hown hK hP hD hS (hL.2.2.2.2.1 _ (fb_vl (oks1 36 _ hk))).1 rfl rfl 10 (by decide) (hT _ zi_192) (fun _ h9 => h9) rfl (by decide +kernel) rfl rfl (Nat.le_of_ble_eq_true rfl) (fb_up s1 31 (fb_n (s1 36 k)) ((s1 31 (fb_n (s1 36 k))) + 1)) (ps_C31 _ _ _) (fb_hoC hL _ 31 _ _ ow_31 (ix_31 _)) zd_X_drop_15 (fun H locs hP hD hS => ?_)
  obtain ⟨s2, es2⟩ : ∃ z, z = fb_up s1 31 (fb_n (s1 36 k)) ((s1 31 (fb_n (s1 36 k))) + 1) := ⟨_, rfl⟩
  have oks2 : fb_okC fl fr s2 := es2 ▸ (fb_okC_up oks1 trivial)
  rw [← es2] at hP hD
  exact W.vret hx hb hr (fun t ht hW => ⟨⟨s2, rfl, ⟨(by subst es2 es1; simp only [cf_drop, fb_b_t, fb_b_f]), oks2⟩, by rw [ht]; exact hP, va_K.moved hW.alike hK, hD⟩, hS.F ht⟩) hS.2.2 zd_X_drop_18

set_option maxHeartbeats 4000000 in
set_option maxRecDepth 100000 in
theorem c_X_hasPlace (l : Launch) (D : va_G) (cA : Nat → ClassId) (ad : Nat → Nat → Nat) (LL : fb_L) (fl fr : Nat) (st : fb_S) (hL : fb_lvC LL fl fr) (hok : fb_okC fl fr st) (i : Nat) (hi : i < 32) (k : Nat) (hk : k < fr) : fb_Mi l zy_X_hasPlace (zw_X_hasPlace :: lw_gd) { frames := 0, cells := 0, slots := 0, locals := 0 } (fb_cC cA) D fb_cl (fb_tys cA) ad LL st [.ref (ad 0 0), .ref (ad 5 i), .ref (ad 7 k)] (fun rr st1 => rr = fb_b (cf_place st i k) ∧ st1 = st ∧ fb_okC fl fr st1) := by
  have hfl : fl ≤ 12 := hL.2.2.2.2.2.2.1
  have hfr : fr ≤ 100 := hL.2.2.2.2.2.2.2
  intro sz
  refine Met.ofW (cc := zb_X_hasPlace) (maxL := 5) (ret := (some .boolean)) (by decide) rfl ?_
  intro p e s m args below meth c s₁ B hml hv
  obtain ⟨rfl, hsz, hP, hK, hD0⟩ := hv
  have hx := B.exec
  have hb := B.bytes
  have hr := B.returns
  have hts := atoms_spec (ws := zw_X_hasPlace :: lw_gd) B.pre
  have hT : ∀ w ∈ lw_gd, w.before _ s = true := fun w h => hts w (List.mem_cons_of_mem _ h)
  have hown : s.vm.findClass "PausedFabric" = some m.cls := findClass_of_methodNamed B.named
  have hlocks := B.notSynchronized
  subst hsz
  have hD := fb_D_self (sz := s.heap.size) hD0
  have hS : va_S (fb_A ad LL s.heap.size) s.heap s.heap [] := va_S.rf
  have hl := lv_entry ([.ref (ad 0 0), .ref (ad 5 i), .ref (ad 7 k)]) (n := 5) (Nat.le_of_ble_eq_true rfl)
  rw [lg_entry_eq]
  generalize (lg_sl ([.ref (ad 0 0), .ref (ad 5 i), .ref (ad 7 k)]) ++ List.replicate (5 - (lg_sl ([.ref (ad 0 0), .ref (ad 5 i), .ref (ad 7 k)])).length) Slot.unset).toArray = ls at hl ⊢
  have hl : lv_has ls 5 [(0, .ref (ad 0 0)), (1, .ref (ad 5 i)), (2, .ref (ad 7 k))] := hl
  refine lv_aload_n hx hb zd_X_hasPlace_0 rfl (lv_at hl 2 rfl) ?_
  refine pw_get (C := "PausedFabric$Frame") (T := zT_K) (N := 10) hx hb hT zin_K hown hK hP (hL.2.2.2.2.2.1 _ hk) rfl rfl 1 (by decide) (hT _ zi_240) (fun _ h9 => h9) rfl zd_X_hasPlace_1 ?_
  refine pw_get (C := "PausedFabric$Flow") (T := zT_F) (N := 12) hx hb hT zin_F hown hK hP (hL.2.2.2.2.1 _ (fb_vl (hok 36 _ hk))).1 rfl rfl 0 (by decide) (hT _ zi_175) (fun _ h9 => h9) rfl zd_X_hasPlace_4 ?_
  refine lv_istore_n (lv' := [(3, .int (st 22 (fb_n (st 36 k)))), (0, .ref (ad 0 0)), (1, .ref (ad 5 i)), (2, .ref (ad 7 k))]) hx hb zd_X_hasPlace_7 rfl hl (by decide) rfl (fun ls hl => ?_)
  refine lv_iload_n hx hb zd_X_hasPlace_8 rfl (lv_at hl 0 rfl) ?_
  refine lv_if_ne (tgt := 24) hx hb zd_X_hasPlace_9 (by decide) (fun h1 => ?_) (fun h1 => ?_)
  · skip
    refine lv_aload_n hx hb zd_X_hasPlace_24 rfl (lv_at hl 1 rfl) ?_
    refine pw_get (C := "PausedFabric") (T := zT_X) (N := 11) hx hb hT zin_X hown hK hP (hL.2.1 0 (by decide)) rfl rfl 1 (by decide) (hT _ zi_115) (fun _ h9 => h9) rfl zd_X_hasPlace_25 ?_
    refine lv_istore (lv' := [(4, .int (st 1 0)), (3, .int (st 22 (fb_n (st 36 k)))), (0, .ref (ad 0 0)), (1, .ref (ad 5 i)), (2, .ref (ad 7 k))]) hx hb zd_X_hasPlace_28 hl (by decide) rfl (fun ls hl => ?_)
    refine lv_aload_n hx hb zd_X_hasPlace_30 rfl (lv_at hl 3 rfl) ?_
    refine pw_get (C := "PausedFabric$Port") (T := zT_P) (N := 11) hx hb hT zin_P hown hK hP (hL.2.2.1 _ hi).1 rfl rfl 7 (by decide) (hT _ zi_77) (fun _ h9 => h9) rfl zd_X_hasPlace_31 ?_
    refine lv_iload_n hx hb zd_X_hasPlace_34 rfl (lv_at hl 1 rfl) ?_
    refine pw_iald (v := st 18 (2 * i + fb_n (st 22 (fb_n (st 36 k))))) hx hb hK hP (hL.2.2.1 _ hi).2.2.2 0 rfl rfl (fb_v01 (hok 22 _)) (if_pos (fb_vl (fb_v01 (hok 22 _)))) zd_X_hasPlace_35 ?_
    refine lv_aload_n hx hb zd_X_hasPlace_36 rfl (lv_at hl 4 rfl) ?_
    refine pw_get (C := "PausedFabric$Frame") (T := zT_K) (N := 10) hx hb hT zin_K hown hK hP (hL.2.2.2.2.2.1 _ hk) rfl rfl 2 (by decide) (hT _ zi_243) (fun _ h9 => h9) rfl zd_X_hasPlace_37 ?_
    refine lv_iadd hx hb zd_X_hasPlace_40 ?_
    refine lv_iload hx hb zd_X_hasPlace_41 (lv_at hl 0 rfl) ?_
    refine lv_icmp_gt (tgt := 50) hx hb zd_X_hasPlace_43 (by decide) (fun h2 => ?_) (fun h2 => ?_)
    · skip
      refine lv_iconst (v := 0) hx hb zd_X_hasPlace_50 (by decide) ?_
      exact W.zret (v := 0) hx hb hr rfl (fun t ht hW => ⟨⟨0, st, rfl, ⟨(by simp only [cf_place, if_neg h1, if_pos h2, fb_b_t, fb_b_f]), rfl, hok⟩, by rw [ht]; exact hP, va_K.moved hW.alike hK, hD⟩, hS.F ht⟩) hS.2.2 zd_X_hasPlace_51
    · skip
      refine lv_iconst (v := 1) hx hb zd_X_hasPlace_46 (by decide) ?_
      refine lv_goto (tgt := 51) hx hb zd_X_hasPlace_47 (by decide) ?_
      exact W.zret (v := 1) hx hb hr rfl (fun t ht hW => ⟨⟨1, st, rfl, ⟨(by simp only [cf_place, if_neg h1, if_neg h2, fb_b_t, fb_b_f]), rfl, hok⟩, by rw [ht]; exact hP, va_K.moved hW.alike hK, hD⟩, hS.F ht⟩) hS.2.2 zd_X_hasPlace_51
  · skip
    refine lv_aload_n hx hb zd_X_hasPlace_12 rfl (lv_at hl 1 rfl) ?_
    refine pw_get (C := "PausedFabric") (T := zT_X) (N := 11) hx hb hT zin_X hown hK hP (hL.2.1 0 (by decide)) rfl rfl 1 (by decide) (hT _ zi_115) (fun _ h9 => h9) rfl zd_X_hasPlace_13 ?_
    refine lv_aload_n hx hb zd_X_hasPlace_16 rfl (lv_at hl 1 rfl) ?_
    refine pw_get (C := "PausedFabric") (T := zT_X) (N := 11) hx hb hT zin_X hown hK hP (hL.2.1 0 (by decide)) rfl rfl 2 (by decide) (hT _ zi_116) (fun _ h9 => h9) rfl zd_X_hasPlace_17 ?_
    refine lv_iadd hx hb zd_X_hasPlace_20 ?_
    refine lv_goto (tgt := 28) hx hb zd_X_hasPlace_21 (by decide) ?_
    refine lv_istore (lv' := [(4, .int ((st 1 0) + (st 2 0))), (3, .int (st 22 (fb_n (st 36 k)))), (0, .ref (ad 0 0)), (1, .ref (ad 5 i)), (2, .ref (ad 7 k))]) hx hb zd_X_hasPlace_28 hl (by decide) rfl (fun ls hl => ?_)
    refine lv_aload_n hx hb zd_X_hasPlace_30 rfl (lv_at hl 3 rfl) ?_
    refine pw_get (C := "PausedFabric$Port") (T := zT_P) (N := 11) hx hb hT zin_P hown hK hP (hL.2.2.1 _ hi).1 rfl rfl 7 (by decide) (hT _ zi_77) (fun _ h9 => h9) rfl zd_X_hasPlace_31 ?_
    refine lv_iload_n hx hb zd_X_hasPlace_34 rfl (lv_at hl 1 rfl) ?_
    refine pw_iald (v := st 18 (2 * i + fb_n (st 22 (fb_n (st 36 k))))) hx hb hK hP (hL.2.2.1 _ hi).2.2.2 0 rfl rfl (fb_v01 (hok 22 _)) (if_pos (fb_vl (fb_v01 (hok 22 _)))) zd_X_hasPlace_35 ?_
    refine lv_aload_n hx hb zd_X_hasPlace_36 rfl (lv_at hl 4 rfl) ?_
    refine pw_get (C := "PausedFabric$Frame") (T := zT_K) (N := 10) hx hb hT zin_K hown hK hP (hL.2.2.2.2.2.1 _ hk) rfl rfl 2 (by decide) (hT _ zi_243) (fun _ h9 => h9) rfl zd_X_hasPlace_37 ?_
    refine lv_iadd hx hb zd_X_hasPlace_40 ?_
    refine lv_iload hx hb zd_X_hasPlace_41 (lv_at hl 0 rfl) ?_
    refine lv_icmp_gt (tgt := 50) hx hb zd_X_hasPlace_43 (by decide) (fun h3 => ?_) (fun h3 => ?_)
    · skip
      refine lv_iconst (v := 0) hx hb zd_X_hasPlace_50 (by decide) ?_
      exact W.zret (v := 0) hx hb hr rfl (fun t ht hW => ⟨⟨0, st, rfl, ⟨(by simp only [cf_place, if_pos h1, if_pos h3, fb_b_t, fb_b_f]), rfl, hok⟩, by rw [ht]; exact hP, va_K.moved hW.alike hK, hD⟩, hS.F ht⟩) hS.2.2 zd_X_hasPlace_51
    · skip
      refine lv_iconst (v := 1) hx hb zd_X_hasPlace_46 (by decide) ?_
      refine lv_goto (tgt := 51) hx hb zd_X_hasPlace_47 (by decide) ?_
      exact W.zret (v := 1) hx hb hr rfl (fun t ht hW => ⟨⟨1, st, rfl, ⟨(by simp only [cf_place, if_pos h1, if_neg h3, fb_b_t, fb_b_f]), rfl, hok⟩, by rw [ht]; exact hP, va_K.moved hW.alike hK, hD⟩, hS.F ht⟩) hS.2.2 zd_X_hasPlace_51

set_option maxHeartbeats 4000000 in
set_option maxRecDepth 100000 in
theorem c_X_release (l : Launch) (D : va_G) (cA : Nat → ClassId) (ad : Nat → Nat → Nat) (LL : fb_L) (fl fr : Nat) (st : fb_S) (hL : fb_lvC LL fl fr) (hok : fb_okC fl fr st) (k : Nat) (hk : k < fr) (i : Nat) (hi : i < 32) : fb_Mv l zy_X_release (zw_X_release :: lw_gd) { frames := 0, cells := 0, slots := 0, locals := 0 } (fb_cC cA) D fb_cl (fb_tys cA) ad LL st [.ref (ad 0 0), .ref (ad 7 k), .ref (ad 5 i)] (fun st1 => st1 = cf_release k i st ∧ fb_okC fl fr st1) := by
  have hfl : fl ≤ 12 := hL.2.2.2.2.2.2.1
  have hfr : fr ≤ 100 := hL.2.2.2.2.2.2.2
  intro sz
  refine Met.ofW (cc := zb_X_release) (maxL := 4) (ret := none) (by decide) rfl ?_
  intro p e s m args below meth c s₁ B hml hv
  obtain ⟨rfl, hsz, hP, hK, hD0⟩ := hv
  have hx := B.exec
  have hb := B.bytes
  have hr := B.returns
  have hts := atoms_spec (ws := zw_X_release :: lw_gd) B.pre
  have hT : ∀ w ∈ lw_gd, w.before _ s = true := fun w h => hts w (List.mem_cons_of_mem _ h)
  have hown : s.vm.findClass "PausedFabric" = some m.cls := findClass_of_methodNamed B.named
  have hlocks := B.notSynchronized
  subst hsz
  have hD := fb_D_self (sz := s.heap.size) hD0
  have hS : va_S (fb_A ad LL s.heap.size) s.heap s.heap [] := va_S.rf
  have hl := lv_entry ([.ref (ad 0 0), .ref (ad 7 k), .ref (ad 5 i)]) (n := 4) (Nat.le_of_ble_eq_true rfl)
  rw [lg_entry_eq]
  generalize (lg_sl ([.ref (ad 0 0), .ref (ad 7 k), .ref (ad 5 i)]) ++ List.replicate (4 - (lg_sl ([.ref (ad 0 0), .ref (ad 7 k), .ref (ad 5 i)])).length) Slot.unset).toArray = ls at hl ⊢
  have hl : lv_has ls 4 [(0, .ref (ad 0 0)), (1, .ref (ad 7 k)), (2, .ref (ad 5 i))] := hl
  refine lv_aload_n hx hb zd_X_release_0 rfl (lv_at hl 1 rfl) ?_
  refine pw_get (C := "PausedFabric$Frame") (T := zT_K) (N := 10) hx hb hT zin_K hown hK hP (hL.2.2.2.2.2.1 _ hk) rfl rfl 1 (by decide) (hT _ zi_240) (fun _ h9 => h9) rfl zd_X_release_1 ?_
  refine pw_get (C := "PausedFabric$Flow") (T := zT_F) (N := 12) hx hb hT zin_F hown hK hP (hL.2.2.2.2.1 _ (fb_vl (hok 36 _ hk))).1 rfl rfl 0 (by decide) (hT _ zi_175) (fun _ h9 => h9) rfl zd_X_release_4 ?_
  refine lv_istore_n (lv' := [(3, .int (st 22 (fb_n (st 36 k)))), (0, .ref (ad 0 0)), (1, .ref (ad 7 k)), (2, .ref (ad 5 i))]) hx hb zd_X_release_7 rfl hl (by decide) rfl (fun ls hl => ?_)
  refine lv_aload_n hx hb zd_X_release_8 rfl (lv_at hl 3 rfl) ?_
  refine pw_get (C := "PausedFabric$Port") (T := zT_P) (N := 11) hx hb hT zin_P hown hK hP (hL.2.2.1 _ hi).1 rfl rfl 7 (by decide) (hT _ zi_77) (fun _ h9 => h9) rfl zd_X_release_9 ?_
  refine lv_iload_n hx hb zd_X_release_12 rfl (lv_at hl 0 rfl) ?_
  refine lv_dup2_11 hx hb zd_X_release_13 rfl rfl ?_
  refine pw_iald (v := st 18 (2 * i + fb_n (st 22 (fb_n (st 36 k))))) hx hb hK hP (hL.2.2.1 _ hi).2.2.2 0 rfl rfl (fb_v01 (hok 22 _)) (if_pos (fb_vl (fb_v01 (hok 22 _)))) zd_X_release_14 ?_
  refine lv_aload_n hx hb zd_X_release_15 rfl (lv_at hl 2 rfl) ?_
  refine pw_get (C := "PausedFabric$Frame") (T := zT_K) (N := 10) hx hb hT zin_K hown hK hP (hL.2.2.2.2.2.1 _ hk) rfl rfl 2 (by decide) (hT _ zi_243) (fun _ h9 => h9) rfl zd_X_release_16 ?_
  refine lv_isub hx hb zd_X_release_19 ?_
  refine pw_iast hx hb hK hP hD hS (hL.2.2.1 _ hi).2.2.2 0 rfl rfl (fb_v01 (hok 22 _)) (fb_up st 18 (2 * i + fb_n (st 22 (fb_n (st 36 k)))) ((st 18 (2 * i + fb_n (st 22 (fb_n (st 36 k))))) - (st 37 k))) (pa_C18 _ _ _ _ (fb_vl (fb_v01 (hok 22 _)))) (fb_hoC hL _ 18 _ _ ow_18 (fb_x2 18 _ (by decide) (fb_vl (fb_v01 (hok 22 _))))) zd_X_release_20 (fun H locs hP hD hS => ?_)
  obtain ⟨s1, es1⟩ : ∃ z, z = fb_up st 18 (2 * i + fb_n (st 22 (fb_n (st 36 k)))) ((st 18 (2 * i + fb_n (st 22 (fb_n (st 36 k))))) - (st 37 k)) := ⟨_, rfl⟩
  have oks1 : fb_okC fl fr s1 := es1 ▸ (fb_okC_up hok trivial)
  rw [← es1] at hP hD
  refine lv_iload_n hx hb zd_X_release_21 rfl (lv_at hl 0 rfl) ?_
  refine lv_if_ne (tgt := 45) hx hb zd_X_release_22 (by decide) (fun h2 => ?_) (fun h2 => ?_)
  · skip
    exact W.vret hx hb hr (fun t ht hW => ⟨⟨s1, rfl, ⟨(by subst es1; simp only [cf_release, if_neg h2, fb_b_t, fb_b_f]), oks1⟩, by rw [ht]; exact hP, va_K.moved hW.alike hK, hD⟩, hS.F ht⟩) hS.2.2 zd_X_release_45
  · skip
    refine lv_aload_n hx hb zd_X_release_25 rfl (lv_at hl 3 rfl) ?_
    refine pw_get (C := "PausedFabric$Port") (T := zT_P) (N := 11) hx hb hT zin_P hown hK hP (hL.2.2.1 _ hi).1 rfl rfl 7 (by decide) (hT _ zi_77) (fun _ h9 => h9) rfl zd_X_release_26 ?_
    refine lv_iconst (v := 0) hx hb zd_X_release_29 (by decide) ?_
    refine pw_iald (v := s1 18 (2 * i + fb_n 0)) hx hb hK hP (hL.2.2.1 _ hi).2.2.2 0 rfl rfl fb_v0 (if_pos (fb_vl fb_v0)) zd_X_release_30 ?_
    refine lv_aload_n hx hb zd_X_release_31 rfl (lv_at hl 1 rfl) ?_
    refine pw_get (C := "PausedFabric") (T := zT_X) (N := 11) hx hb hT zin_X hown hK hP (hL.2.1 0 (by decide)) rfl rfl 1 (by decide) (hT _ zi_115) (fun _ h9 => h9) rfl zd_X_release_32 ?_
    refine lv_iconst (v := 2) hx hb zd_X_release_35 (by decide) ?_
    refine lv_idiv hx hb zd_X_release_36 (by decide) ?_
    refine lv_icmp_gt (tgt := 45) hx hb zd_X_release_37 (by decide) (fun h3 => ?_) (fun h3 => ?_)
    · skip
      exact W.vret hx hb hr (fun t ht hW => ⟨⟨s1, rfl, ⟨(by subst es1; simp only [cf_release, if_pos h2, if_pos h3, fb_b_t, fb_b_f]), oks1⟩, by rw [ht]; exact hP, va_K.moved hW.alike hK, hD⟩, hS.F ht⟩) hS.2.2 zd_X_release_45
    · skip
      refine lv_aload_n hx hb zd_X_release_40 rfl (lv_at hl 3 rfl) ?_
      refine lv_iconst (v := 0) hx hb zd_X_release_41 (by decide) ?_
      refine pw_put (C := "PausedFabric$Port") (T := zT_P) (N := 11) (ty := .boolean) (v := .int 0) hx hb hT zin_P zt_P ztok_P znm_P hown hK hP hD hS (hL.2.2.1 _ hi).1 rfl rfl 8 (by decide) (hT _ zi_79) (fun _ h9 => h9) rfl (by decide +kernel) rfl rfl (Nat.le_of_ble_eq_true rfl) (fb_up s1 14 i 0) (ps_C14 _ _ _) (fb_hoC hL _ 14 _ _ ow_14 (ix_14 _)) zd_X_release_42 (fun H locs hP hD hS => ?_)
      obtain ⟨s4, es4⟩ : ∃ z, z = fb_up s1 14 i 0 := ⟨_, rfl⟩
      have oks4 : fb_okC fl fr s4 := es4 ▸ (fb_okC_up oks1 (Or.inl rfl))
      rw [← es4] at hP hD
      exact W.vret hx hb hr (fun t ht hW => ⟨⟨s4, rfl, ⟨(by subst es4 es1; simp only [cf_release, if_pos h2, if_neg h3, fb_b_t, fb_b_f]), oks4⟩, by rw [ht]; exact hP, va_K.moved hW.alike hK, hD⟩, hS.F ht⟩) hS.2.2 zd_X_release_45

set_option maxHeartbeats 4000000 in
set_option maxRecDepth 100000 in
theorem c_X_readyFrame (l : Launch) (D : va_G) (cA : Nat → ClassId) (ad : Nat → Nat → Nat) (LL : fb_L) (fl fr : Nat) (st : fb_S) (hL : fb_lvC LL fl fr) (hok : fb_okC fl fr st) (i : Nat) (hi : i < 32) (q : Int32) (hq : q = 0 ∨ q = 1) : fb_Mq l zy_X_readyFrame (zw_X_readyFrame :: lw_gd) { frames := 1, cells := 0, slots := 0, locals := 20 } (fb_cC cA) D fb_cl (fb_tys cA) ad LL st [.ref (ad 0 0), .ref (ad 5 i), .int q] (fun rr st1 => rr = fb_ro (ad 7) (cf_ready st i q) ∧ st1 = st ∧ fb_okC fl fr st1) := by
  have hfl : fl ≤ 12 := hL.2.2.2.2.2.2.1
  have hfr : fr ≤ 100 := hL.2.2.2.2.2.2.2
  intro sz
  refine Met.ofW (cc := zb_X_readyFrame) (maxL := 4) (ret := (some (.object "PausedFabric$Frame"))) (by decide) rfl ?_
  intro p e s m args below meth c s₁ B hml hv
  obtain ⟨rfl, hsz, hP, hK, hD0⟩ := hv
  have hx := B.exec
  have hb := B.bytes
  have hr := B.returns
  have hts := atoms_spec (ws := zw_X_readyFrame :: lw_gd) B.pre
  have hT : ∀ w ∈ lw_gd, w.before _ s = true := fun w h => hts w (List.mem_cons_of_mem _ h)
  have hown : s.vm.findClass "PausedFabric" = some m.cls := findClass_of_methodNamed B.named
  have hlocks := B.notSynchronized
  subst hsz
  have hD := fb_D_self (sz := s.heap.size) hD0
  have hS : va_S (fb_A ad LL s.heap.size) s.heap s.heap [] := va_S.rf
  have hl := lv_entry ([.ref (ad 0 0), .ref (ad 5 i), .int q]) (n := 4) (Nat.le_of_ble_eq_true rfl)
  rw [lg_entry_eq]
  generalize (lg_sl ([.ref (ad 0 0), .ref (ad 5 i), .int q]) ++ List.replicate (4 - (lg_sl ([.ref (ad 0 0), .ref (ad 5 i), .int q])).length) Slot.unset).toArray = ls at hl ⊢
  have hl : lv_has ls 4 [(0, .ref (ad 0 0)), (1, .ref (ad 5 i)), (2, .int q)] := hl
  refine lv_aload_n hx hb zd_X_readyFrame_0 rfl (lv_at hl 1 rfl) ?_
  refine pw_get (C := "PausedFabric$Port") (T := zT_P) (N := 11) hx hb hT zin_P hown hK hP (hL.2.2.1 _ hi).1 rfl rfl 2 (by decide) (hT _ zi_67) (fun _ h9 => h9) rfl zd_X_readyFrame_1 ?_
  refine lv_iload_n hx hb zd_X_readyFrame_4 rfl (lv_at hl 2 rfl) ?_
  refine pw_aald (r := some (ad 11 (3 * i + fb_n q))) hx hb hK hP (hL.2.2.1 _ hi).2.1 4 rfl rfl (fb_v01 hq) (if_pos (fb_vl (fb_v01 hq))) zd_X_readyFrame_5 ?_
  refine pw_get (C := "PausedFabric$FrameQueue") (T := zT_Q) (N := 3) hx hb hT zin_Q hown hK hP (hL.2.2.2.1 _ (fb_w96p hi (fb_vl (fb_v01 hq)))) rfl rfl 0 (by decide) (hT _ zi_50) (fun _ h9 => h9) rfl zd_X_readyFrame_6 ?_
  refine pw_split (fun hz1 => ?_) (fun hz1 => ?_)
  · skip
    refine lv_astore_nN (lv' := [(3, .null), (0, .ref (ad 0 0)), (1, .ref (ad 5 i)), (2, .int q)]) hx hb zd_X_readyFrame_9 rfl hl (by decide) rfl (fun ls hl => ?_)
    refine lv_aload_nN hx hb zd_X_readyFrame_10 rfl (lv_at hl 0 rfl) ?_
    refine lv_ifnullN (tgt := 25) hx hb zd_X_readyFrame_11 (by decide) ?_
    refine lv_null hx hb zd_X_readyFrame_25 ?_
    exact W.aret (v := .null) hx hb hr (Or.inl ⟨_, rfl⟩) (Or.inl rfl) (fun t ht hW => ⟨⟨none, st, rfl, ⟨(fb_ro_n fb_m1).symm.trans (congrArg (fb_ro (ad 7)) (show -1 = cf_ready st i q from (by simp only [cf_ready, if_pos hz1, fb_b_t, fb_b_f]))), rfl, hok⟩, by rw [ht]; exact hP, va_K.moved hW.alike hK, hD⟩, hS.F ht⟩) hS.2.2 zd_X_readyFrame_26
  · skip
    refine lv_astore_n (lv' := [(3, .ref (ad 7 (fb_n (st 19 (3 * i + fb_n q))))), (0, .ref (ad 0 0)), (1, .ref (ad 5 i)), (2, .int q)]) hx hb zd_X_readyFrame_9 rfl hl (by decide) rfl (fun ls hl => ?_)
    refine lv_aload_n hx hb zd_X_readyFrame_10 rfl (lv_at hl 0 rfl) ?_
    refine lv_ifnull hx hb zd_X_readyFrame_11 ?_
    refine lv_iload_n hx hb zd_X_readyFrame_14 rfl (lv_at hl 3 rfl) ?_
    refine lv_if_ne (tgt := 27) hx hb zd_X_readyFrame_15 (by decide) (fun h2 => ?_) (fun h2 => ?_)
    · skip
      refine lv_aload_n hx hb zd_X_readyFrame_27 rfl (lv_at hl 2 rfl) ?_
      refine pw_get (C := "PausedFabric$Port") (T := zT_P) (N := 11) hx hb hT zin_P hown hK hP (hL.2.2.1 _ hi).1 rfl rfl 0 (by decide) (hT _ zi_63) (fun _ h9 => h9) rfl zd_X_readyFrame_28 ?_
      refine pw_Si (bytes := zb_X_isHost) (maxL := 1) (ret := (some .boolean)) (As := [.int (st 10 i)]) (rest := []) ⟨hx, hb, hml, hown, hT⟩ (c_X_isHost l D cA (fb_cC cA) ad LL st (st 10 i)) (cwS 1 hT (fb_gS zi_31 zi_32 zi_1 zc_X_isHost) rfl rfl rfl (by decide +kernel) ⟨Nat.le_of_ble_eq_true rfl, Nat.le_of_ble_eq_true rfl⟩) hK hP hD hS rfl hl.1 rfl (lv_room (Nat.le_of_ble_eq_true rfl)) zd_X_readyFrame_31 ⟨Nat.zero_le _, Nat.zero_le _⟩ (fun rx sx H locs hp hP hD hS => ?_)
      obtain ⟨hr9, hs, hok9⟩ := hp
      rw [hr9]
      rw [hs] at hP hD
      refine lv_if_eq (tgt := 55) hx hb zd_X_readyFrame_34 (by decide) (fun h3 => ?_) (fun h3 => ?_)
      · skip
        have h3b := fb_b0 h3
        refine lv_aload_n hx hb zd_X_readyFrame_55 rfl (lv_at hl 0 rfl) ?_
        exact W.aret (v := .ref (ad 7 (fb_n (st 19 (3 * i + fb_n q))))) hx hb hr (Or.inl ⟨_, rfl⟩) (Or.inr ⟨_, rfl⟩) (fun t ht hW => ⟨⟨some (ad 7 (fb_n (st 19 (3 * i + fb_n q)))), st, rfl, ⟨(fb_ro_s hz1).symm.trans (congrArg (fb_ro (ad 7)) (show st 19 (3 * i + fb_n q) = cf_ready st i q from (by simp only [cf_ready, if_neg hz1, if_neg h2, if_neg h3b, fb_b_t, fb_b_f]))), rfl, hok⟩, by rw [ht]; exact hP, va_K.moved hW.alike hK, hD⟩, hS.F ht⟩) hS.2.2 zd_X_readyFrame_56
      · skip
        have h3b := fb_b1 h3
        refine lv_aload_n hx hb zd_X_readyFrame_37 rfl (lv_at hl 1 rfl) ?_
        refine pw_get (C := "PausedFabric") (T := zT_X) (N := 11) hx hb hT zin_X hown hK hP (hL.2.1 0 (by decide)) rfl rfl 10 (by decide) (hT _ zi_124) (fun _ h9 => h9) rfl zd_X_readyFrame_38 ?_
        refine lv_aload_n hx hb zd_X_readyFrame_41 rfl (lv_at hl 0 rfl) ?_
        refine pw_get (C := "PausedFabric$Frame") (T := zT_K) (N := 10) hx hb hT zin_K hown hK hP (hL.2.2.2.2.2.1 _ (fb_rl (hok 19 _) hz1)) rfl rfl 1 (by decide) (hT _ zi_240) (fun _ h9 => h9) rfl zd_X_readyFrame_42 ?_
        refine pw_get (C := "PausedFabric$Flow") (T := zT_F) (N := 12) hx hb hT zin_F hown hK hP (hL.2.2.2.2.1 _ (fb_vl (hok 36 _ (fb_rl (hok 19 _) hz1)))).1 rfl rfl 6 (by decide) (hT _ zi_184) (fun _ h9 => h9) rfl zd_X_readyFrame_45 ?_
        refine lv_icmp_ge (tgt := 55) hx hb zd_X_readyFrame_48 (by decide) (fun h4 => ?_) (fun h4 => ?_)
        · skip
          refine lv_aload_n hx hb zd_X_readyFrame_55 rfl (lv_at hl 0 rfl) ?_
          exact W.aret (v := .ref (ad 7 (fb_n (st 19 (3 * i + fb_n q))))) hx hb hr (Or.inl ⟨_, rfl⟩) (Or.inr ⟨_, rfl⟩) (fun t ht hW => ⟨⟨some (ad 7 (fb_n (st 19 (3 * i + fb_n q)))), st, rfl, ⟨(fb_ro_s hz1).symm.trans (congrArg (fb_ro (ad 7)) (show st 19 (3 * i + fb_n q) = cf_ready st i q from (by simp only [cf_ready, if_neg hz1, if_neg h2, if_pos h3b, if_pos h4, fb_b_t, fb_b_f]))), rfl, hok⟩, by rw [ht]; exact hP, va_K.moved hW.alike hK, hD⟩, hS.F ht⟩) hS.2.2 zd_X_readyFrame_56
        · skip
          refine lv_null hx hb zd_X_readyFrame_51 ?_
          refine lv_goto (tgt := 56) hx hb zd_X_readyFrame_52 (by decide) ?_
          exact W.aret (v := .null) hx hb hr (Or.inl ⟨_, rfl⟩) (Or.inl rfl) (fun t ht hW => ⟨⟨none, st, rfl, ⟨(fb_ro_n fb_m1).symm.trans (congrArg (fb_ro (ad 7)) (show -1 = cf_ready st i q from (by simp only [cf_ready, if_neg hz1, if_neg h2, if_pos h3b, if_neg h4, fb_b_t, fb_b_f]))), rfl, hok⟩, by rw [ht]; exact hP, va_K.moved hW.alike hK, hD⟩, hS.F ht⟩) hS.2.2 zd_X_readyFrame_56
    · skip
      refine lv_aload_n hx hb zd_X_readyFrame_18 rfl (lv_at hl 2 rfl) ?_
      refine pw_get (C := "PausedFabric$Port") (T := zT_P) (N := 11) hx hb hT zin_P hown hK hP (hL.2.2.1 _ hi).1 rfl rfl 10 (by decide) (hT _ zi_83) (fun _ h9 => h9) rfl zd_X_readyFrame_19 ?_
      refine lv_if_eq (tgt := 27) hx hb zd_X_readyFrame_22 (by decide) (fun h5 => ?_) (fun h5 => ?_)
      · skip
        refine lv_aload_n hx hb zd_X_readyFrame_27 rfl (lv_at hl 2 rfl) ?_
        refine pw_get (C := "PausedFabric$Port") (T := zT_P) (N := 11) hx hb hT zin_P hown hK hP (hL.2.2.1 _ hi).1 rfl rfl 0 (by decide) (hT _ zi_63) (fun _ h9 => h9) rfl zd_X_readyFrame_28 ?_
        refine pw_Si (bytes := zb_X_isHost) (maxL := 1) (ret := (some .boolean)) (As := [.int (st 10 i)]) (rest := []) ⟨hx, hb, hml, hown, hT⟩ (c_X_isHost l D cA (fb_cC cA) ad LL st (st 10 i)) (cwS 1 hT (fb_gS zi_31 zi_32 zi_1 zc_X_isHost) rfl rfl rfl (by decide +kernel) ⟨Nat.le_of_ble_eq_true rfl, Nat.le_of_ble_eq_true rfl⟩) hK hP hD hS rfl hl.1 rfl (lv_room (Nat.le_of_ble_eq_true rfl)) zd_X_readyFrame_31 ⟨Nat.zero_le _, Nat.zero_le _⟩ (fun rx sx H locs hp hP hD hS => ?_)
        obtain ⟨hr9, hs, hok9⟩ := hp
        rw [hr9]
        rw [hs] at hP hD
        refine lv_if_eq (tgt := 55) hx hb zd_X_readyFrame_34 (by decide) (fun h6 => ?_) (fun h6 => ?_)
        · skip
          have h6b := fb_b0 h6
          refine lv_aload_n hx hb zd_X_readyFrame_55 rfl (lv_at hl 0 rfl) ?_
          exact W.aret (v := .ref (ad 7 (fb_n (st 19 (3 * i + fb_n q))))) hx hb hr (Or.inl ⟨_, rfl⟩) (Or.inr ⟨_, rfl⟩) (fun t ht hW => ⟨⟨some (ad 7 (fb_n (st 19 (3 * i + fb_n q)))), st, rfl, ⟨(fb_ro_s hz1).symm.trans (congrArg (fb_ro (ad 7)) (show st 19 (3 * i + fb_n q) = cf_ready st i q from (by simp only [cf_ready, if_neg hz1, if_pos h2, if_pos h5, if_neg h6b, fb_b_t, fb_b_f]))), rfl, hok⟩, by rw [ht]; exact hP, va_K.moved hW.alike hK, hD⟩, hS.F ht⟩) hS.2.2 zd_X_readyFrame_56
        · skip
          have h6b := fb_b1 h6
          refine lv_aload_n hx hb zd_X_readyFrame_37 rfl (lv_at hl 1 rfl) ?_
          refine pw_get (C := "PausedFabric") (T := zT_X) (N := 11) hx hb hT zin_X hown hK hP (hL.2.1 0 (by decide)) rfl rfl 10 (by decide) (hT _ zi_124) (fun _ h9 => h9) rfl zd_X_readyFrame_38 ?_
          refine lv_aload_n hx hb zd_X_readyFrame_41 rfl (lv_at hl 0 rfl) ?_
          refine pw_get (C := "PausedFabric$Frame") (T := zT_K) (N := 10) hx hb hT zin_K hown hK hP (hL.2.2.2.2.2.1 _ (fb_rl (hok 19 _) hz1)) rfl rfl 1 (by decide) (hT _ zi_240) (fun _ h9 => h9) rfl zd_X_readyFrame_42 ?_
          refine pw_get (C := "PausedFabric$Flow") (T := zT_F) (N := 12) hx hb hT zin_F hown hK hP (hL.2.2.2.2.1 _ (fb_vl (hok 36 _ (fb_rl (hok 19 _) hz1)))).1 rfl rfl 6 (by decide) (hT _ zi_184) (fun _ h9 => h9) rfl zd_X_readyFrame_45 ?_
          refine lv_icmp_ge (tgt := 55) hx hb zd_X_readyFrame_48 (by decide) (fun h7 => ?_) (fun h7 => ?_)
          · skip
            refine lv_aload_n hx hb zd_X_readyFrame_55 rfl (lv_at hl 0 rfl) ?_
            exact W.aret (v := .ref (ad 7 (fb_n (st 19 (3 * i + fb_n q))))) hx hb hr (Or.inl ⟨_, rfl⟩) (Or.inr ⟨_, rfl⟩) (fun t ht hW => ⟨⟨some (ad 7 (fb_n (st 19 (3 * i + fb_n q)))), st, rfl, ⟨(fb_ro_s hz1).symm.trans (congrArg (fb_ro (ad 7)) (show st 19 (3 * i + fb_n q) = cf_ready st i q from (by simp only [cf_ready, if_neg hz1, if_pos h2, if_pos h5, if_pos h6b, if_pos h7, fb_b_t, fb_b_f]))), rfl, hok⟩, by rw [ht]; exact hP, va_K.moved hW.alike hK, hD⟩, hS.F ht⟩) hS.2.2 zd_X_readyFrame_56
          · skip
            refine lv_null hx hb zd_X_readyFrame_51 ?_
            refine lv_goto (tgt := 56) hx hb zd_X_readyFrame_52 (by decide) ?_
            exact W.aret (v := .null) hx hb hr (Or.inl ⟨_, rfl⟩) (Or.inl rfl) (fun t ht hW => ⟨⟨none, st, rfl, ⟨(fb_ro_n fb_m1).symm.trans (congrArg (fb_ro (ad 7)) (show -1 = cf_ready st i q from (by simp only [cf_ready, if_neg hz1, if_pos h2, if_pos h5, if_pos h6b, if_neg h7, fb_b_t, fb_b_f]))), rfl, hok⟩, by rw [ht]; exact hP, va_K.moved hW.alike hK, hD⟩, hS.F ht⟩) hS.2.2 zd_X_readyFrame_56
      · skip
        refine lv_null hx hb zd_X_readyFrame_25 ?_
        exact W.aret (v := .null) hx hb hr (Or.inl ⟨_, rfl⟩) (Or.inl rfl) (fun t ht hW => ⟨⟨none, st, rfl, ⟨(fb_ro_n fb_m1).symm.trans (congrArg (fb_ro (ad 7)) (show -1 = cf_ready st i q from (by simp only [cf_ready, if_neg hz1, if_pos h2, if_neg h5, fb_b_t, fb_b_f]))), rfl, hok⟩, by rw [ht]; exact hP, va_K.moved hW.alike hK, hD⟩, hS.F ht⟩) hS.2.2 zd_X_readyFrame_26

set_option maxHeartbeats 4000000 in
set_option maxRecDepth 100000 in
theorem c_X_enqueue (l : Launch) (D : va_G) (cA : Nat → ClassId) (ad : Nat → Nat → Nat) (LL : fb_L) (fl fr : Nat) (st : fb_S) (hL : fb_lvC LL fl fr) (hok : fb_okC fl fr st) (k : Nat) (hk : k < fr) : fb_Mi l zy_X_enqueue (zw_X_enqueue :: lw_gd) { frames := 1, cells := 0, slots := 0, locals := 21 } (fb_cC cA) D fb_cl (fb_tys cA) ad LL st [.ref (ad 7 k)] (fun rr st1 => rr = cf_enqA k st ∧ st1 = cf_enq k st ∧ fb_okC fl fr st1) := by
  have hfl : fl ≤ 12 := hL.2.2.2.2.2.2.1
  have hfr : fr ≤ 100 := hL.2.2.2.2.2.2.2
  intro sz
  refine Met.ofW (cc := zb_X_enqueue) (maxL := 3) (ret := (some .int)) (by decide) rfl ?_
  intro p e s m args below meth c s₁ B hml hv
  obtain ⟨rfl, hsz, hP, hK, hD0⟩ := hv
  have hx := B.exec
  have hb := B.bytes
  have hr := B.returns
  have hts := atoms_spec (ws := zw_X_enqueue :: lw_gd) B.pre
  have hT : ∀ w ∈ lw_gd, w.before _ s = true := fun w h => hts w (List.mem_cons_of_mem _ h)
  have hown : s.vm.findClass "PausedFabric" = some m.cls := findClass_of_methodNamed B.named
  have hlocks := B.notSynchronized
  subst hsz
  have hD := fb_D_self (sz := s.heap.size) hD0
  have hS : va_S (fb_A ad LL s.heap.size) s.heap s.heap [] := va_S.rf
  have hl := lv_entry ([.ref (ad 7 k)]) (n := 3) (Nat.le_of_ble_eq_true rfl)
  rw [lg_entry_eq]
  generalize (lg_sl ([.ref (ad 7 k)]) ++ List.replicate (3 - (lg_sl ([.ref (ad 7 k)])).length) Slot.unset).toArray = ls at hl ⊢
  have hl : lv_has ls 3 [(0, .ref (ad 7 k))] := hl
  refine lv_aload_n hx hb zd_X_enqueue_0 rfl (lv_at hl 0 rfl) ?_
  refine pw_get (C := "PausedFabric$Frame") (T := zT_K) (N := 10) hx hb hT zin_K hown hK hP (hL.2.2.2.2.2.1 _ hk) rfl rfl 1 (by decide) (hT _ zi_240) (fun _ h9 => h9) rfl zd_X_enqueue_1 ?_
  refine lv_aload_n hx hb zd_X_enqueue_4 rfl (lv_at hl 0 rfl) ?_
  refine pw_get (C := "PausedFabric$Frame") (T := zT_K) (N := 10) hx hb hT zin_K hown hK hP (hL.2.2.2.2.2.1 _ hk) rfl rfl 6 (by decide) (hT _ zi_251) (fun _ h9 => h9) rfl zd_X_enqueue_5 ?_
  refine pw_Vq (bytes := zb_F_portAt) (maxL := 2) (ret := (some (.object "PausedFabric$Port"))) (As := [.int (st 41 k)]) (rest := []) ⟨hx, hb, hml, hown, hT⟩ (c_F_portAt l D cA ad LL fl fr st hL hok (fb_n (st 36 k)) (fb_vl (hok 36 _ hk)) (st 41 k)) (cwV 1 hT (fb_gV zi_282 zi_283 zi_284 zi_6 zc_F_portAt) rfl rfl rfl (by decide +kernel) ⟨Nat.le_of_ble_eq_true rfl, Nat.le_of_ble_eq_true rfl⟩) hK hP hD hS (fb_recv hK hP (hL.2.2.2.2.1 _ (fb_vl (hok 36 _ hk))).1 rfl rfl) rfl hl.1 rfl (lv_room (Nat.le_of_ble_eq_true rfl)) zd_X_enqueue_8 ⟨Nat.zero_le _, Nat.zero_le _⟩ (fun rx sx H locs hp hP hD hS => ?_)
  obtain ⟨hr9, hs, hok9⟩ := hp
  rw [hr9]
  rw [hs] at hP hD
  refine pw_split (fun hz1 => ?_) (fun hz1 => ?_)
  · skip
    refine lv_astore_nN (lv' := [(1, .null), (0, .ref (ad 7 k))]) hx hb zd_X_enqueue_11 rfl hl (by decide) rfl (fun ls hl => ?_)
    refine lv_aload_nN hx hb zd_X_enqueue_12 rfl (lv_at hl 0 rfl) ?_
    refine lv_ifnonnullN hx hb zd_X_enqueue_13 ?_
    refine lv_iconst (v := 0) hx hb zd_X_enqueue_16 (by decide) ?_
    exact W.iret (v := 0) hx hb hr (fun t ht hW => ⟨⟨0, st, rfl, ⟨(by simp only [cf_enqA, cf_enq, cf_enqQ, cf_enqJ, if_pos hz1, fb_b_t, fb_b_f]), (by simp only [cf_enqA, cf_enq, cf_enqQ, cf_enqJ, if_pos hz1, fb_b_t, fb_b_f]), hok⟩, by rw [ht]; exact hP, va_K.moved hW.alike hK, hD⟩, hS.F ht⟩) hS.2.2 zd_X_enqueue_17
  · skip
    refine lv_astore_n (lv' := [(1, .ref (ad 5 (fb_n (cf_portAt st (fb_n (st 36 k)) (st 41 k))))), (0, .ref (ad 7 k))]) hx hb zd_X_enqueue_11 rfl hl (by decide) rfl (fun ls hl => ?_)
    refine lv_aload_n hx hb zd_X_enqueue_12 rfl (lv_at hl 0 rfl) ?_
    refine lv_ifnonnull (tgt := 18) hx hb zd_X_enqueue_13 (by decide) ?_
    refine lv_aload_n hx hb zd_X_enqueue_18 rfl (lv_at hl 0 rfl) ?_
    refine pw_get (C := "PausedFabric$Port") (T := zT_P) (N := 11) hx hb hT zin_P hown hK hP (hL.2.2.1 _ (fb_rl (rg_portAt hok (fb_n (st 36 k)) (st 41 k)) hz1)).1 rfl rfl 2 (by decide) (hT _ zi_67) (fun _ h9 => h9) rfl zd_X_enqueue_19 ?_
    refine lv_aload_n hx hb zd_X_enqueue_22 rfl (lv_at hl 1 rfl) ?_
    refine pw_get (C := "PausedFabric$Frame") (T := zT_K) (N := 10) hx hb hT zin_K hown hK hP (hL.2.2.2.2.2.1 _ hk) rfl rfl 1 (by decide) (hT _ zi_240) (fun _ h9 => h9) rfl zd_X_enqueue_23 ?_
    refine pw_get (C := "PausedFabric$Flow") (T := zT_F) (N := 12) hx hb hT zin_F hown hK hP (hL.2.2.2.2.1 _ (fb_vl (hok 36 _ hk))).1 rfl rfl 0 (by decide) (hT _ zi_175) (fun _ h9 => h9) rfl zd_X_enqueue_26 ?_
    refine pw_aald (r := some (ad 11 (3 * (fb_n (cf_portAt st (fb_n (st 36 k)) (st 41 k))) + fb_n (st 22 (fb_n (st 36 k)))))) hx hb hK hP (hL.2.2.1 _ (fb_rl (rg_portAt hok (fb_n (st 36 k)) (st 41 k)) hz1)).2.1 4 rfl rfl (fb_v01 (hok 22 _)) (if_pos (fb_vl (fb_v01 (hok 22 _)))) zd_X_enqueue_29 ?_
    refine lv_astore_n (lv' := [(2, .ref (ad 11 (3 * (fb_n (cf_portAt st (fb_n (st 36 k)) (st 41 k))) + fb_n (st 22 (fb_n (st 36 k)))))), (1, .ref (ad 5 (fb_n (cf_portAt st (fb_n (st 36 k)) (st 41 k))))), (0, .ref (ad 7 k))]) hx hb zd_X_enqueue_30 rfl hl (by decide) rfl (fun ls hl => ?_)
    refine lv_aload_n hx hb zd_X_enqueue_31 rfl (lv_at hl 2 rfl) ?_
    refine lv_iconst (v := 1) hx hb zd_X_enqueue_32 (by decide) ?_
    refine pw_put (C := "PausedFabric$Frame") (T := zT_K) (N := 10) (ty := .int) (v := .int 1) hx hb hT zin_K zt_K ztok_K znm_K hown hK hP hD hS (hL.2.2.2.2.2.1 _ hk) rfl rfl 3 (by decide) (hT _ zi_245) (fun _ h9 => h9) rfl (by decide +kernel) rfl rfl (Nat.le_of_ble_eq_true rfl) (fb_up st 38 k 1) (ps_C38 _ _ _) (fb_hoC hL _ 38 _ _ ow_38 (ix_38 _)) zd_X_enqueue_33 (fun H locs hP hD hS => ?_)
    obtain ⟨s2, es2⟩ : ∃ z, z = fb_up st 38 k 1 := ⟨_, rfl⟩
    have oks2 : fb_okC fl fr s2 := es2 ▸ (fb_okC_up hok trivial)
    rw [← es2] at hP hD
    refine lv_aload_n hx hb zd_X_enqueue_36 rfl (lv_at hl 2 rfl) ?_
    refine lv_aload_n hx hb zd_X_enqueue_37 rfl (lv_at hl 1 rfl) ?_
    refine pw_get (C := "PausedFabric$Port") (T := zT_P) (N := 11) hx hb hT zin_P hown hK hP (hL.2.2.1 _ (fb_rl (rg_portAt hok (fb_n (st 36 k)) (st 41 k)) hz1)).1 rfl rfl 0 (by decide) (hT _ zi_63) (fun _ h9 => h9) rfl zd_X_enqueue_38 ?_
    refine pw_put (C := "PausedFabric$Frame") (T := zT_K) (N := 10) (ty := .int) (v := .int (s2 10 (fb_n (cf_portAt st (fb_n (st 36 k)) (st 41 k))))) hx hb hT zin_K zt_K ztok_K znm_K hown hK hP hD hS (hL.2.2.2.2.2.1 _ hk) rfl rfl 4 (by decide) (hT _ zi_247) (fun _ h9 => h9) rfl (by decide +kernel) rfl rfl (Nat.le_of_ble_eq_true rfl) (fb_up s2 39 k (s2 10 (fb_n (cf_portAt st (fb_n (st 36 k)) (st 41 k))))) (ps_C39 _ _ _) (fb_hoC hL _ 39 _ _ ow_39 (ix_39 _)) zd_X_enqueue_41 (fun H locs hP hD hS => ?_)
    obtain ⟨s3, es3⟩ : ∃ z, z = fb_up s2 39 k (s2 10 (fb_n (cf_portAt st (fb_n (st 36 k)) (st 41 k)))) := ⟨_, rfl⟩
    have oks3 : fb_okC fl fr s3 := es3 ▸ (fb_okC_up oks2 trivial)
    rw [← es3] at hP hD
    refine lv_aload_n hx hb zd_X_enqueue_44 rfl (lv_at hl 0 rfl) ?_
    refine lv_aload_n hx hb zd_X_enqueue_45 rfl (lv_at hl 2 rfl) ?_
    refine pw_Vv (bytes := zb_Q_add) (maxL := 2) (ret := none) (As := [.ref (ad 7 k)]) (rest := []) ⟨hx, hb, hml, hown, hT⟩ (c_Q_add l D cA ad LL fl fr s3 hL oks3 (3 * (fb_n (cf_portAt st (fb_n (st 36 k)) (st 41 k))) + fb_n (st 22 (fb_n (st 36 k)))) (fb_w96p (fb_rl (rg_portAt hok (fb_n (st 36 k)) (st 41 k)) hz1) (fb_vl (fb_v01 (hok 22 _)))) k hk) (cwV 1 hT (fb_gV zi_286 zi_287 zi_288 zi_4 zc_Q_add) rfl rfl rfl (by decide +kernel) ⟨Nat.le_of_ble_eq_true rfl, Nat.le_of_ble_eq_true rfl⟩) hK hP hD hS (fb_recv hK hP (hL.2.2.2.1 _ (fb_w96p (fb_rl (rg_portAt hok (fb_n (st 36 k)) (st 41 k)) hz1) (fb_vl (fb_v01 (hok 22 _))))) rfl rfl) rfl hl.1 rfl (lv_room (Nat.le_of_ble_eq_true rfl)) zd_X_enqueue_46 ⟨Nat.zero_le _, Nat.zero_le _⟩ (fun s4 H locs hp hP hD hS => ?_)
    obtain ⟨hs, hok9⟩ := hp
    have es4 : s4 = cf_add (3 * (fb_n (cf_portAt st (fb_n (st 36 k)) (st 41 k))) + fb_n (st 22 (fb_n (st 36 k)))) k s3 := hs
    have oks4 : fb_okC fl fr s4 := hok9
    refine lv_aload_n hx hb zd_X_enqueue_49 rfl (lv_at hl 0 rfl) ?_
    refine pw_get (C := "PausedFabric$FrameQueue") (T := zT_Q) (N := 3) hx hb hT zin_Q hown hK hP (hL.2.2.2.1 _ (fb_w96p (fb_rl (rg_portAt hok (fb_n (st 36 k)) (st 41 k)) hz1) (fb_vl (fb_v01 (hok 22 _))))) rfl rfl 2 (by decide) (hT _ zi_53) (fun _ h9 => h9) rfl zd_X_enqueue_50 ?_
    exact W.iret (v := s4 21 (3 * (fb_n (cf_portAt st (fb_n (st 36 k)) (st 41 k))) + fb_n (st 22 (fb_n (st 36 k))))) hx hb hr (fun t ht hW => ⟨⟨s4 21 (3 * (fb_n (cf_portAt st (fb_n (st 36 k)) (st 41 k))) + fb_n (st 22 (fb_n (st 36 k)))), s4, rfl, ⟨(by subst es4 es3 es2; simp only [cf_enqA, cf_enq, cf_enqQ, cf_enqJ, if_neg hz1, fb_b_t, fb_b_f]), (by subst es4 es3 es2; simp only [cf_enqA, cf_enq, cf_enqQ, cf_enqJ, if_neg hz1, fb_b_t, fb_b_f]), oks4⟩, by rw [ht]; exact hP, va_K.moved hW.alike hK, hD⟩, hS.F ht⟩) hS.2.2 zd_X_enqueue_53

set_option maxHeartbeats 4000000 in
set_option maxRecDepth 100000 in
theorem c_X_endSending (l : Launch) (D : va_G) (cA : Nat → ClassId) (ad : Nat → Nat → Nat) (LL : fb_L) (fl fr : Nat) (st : fb_S) (hL : fb_lvC LL fl fr) (hok : fb_okC fl fr st) (i : Nat) (hi : i < 32) : fb_Mv l zy_X_endSending (zw_X_endSending :: lw_gd) { frames := 1, cells := 0, slots := 0, locals := 23 } (fb_cC cA) D fb_cl (fb_tys cA) ad LL st [.ref (ad 0 0), .ref (ad 5 i)] (fun st1 => st1 = cf_endSending i st ∧ fb_okC fl fr st1) := by
  have hfl : fl ≤ 12 := hL.2.2.2.2.2.2.1
  have hfr : fr ≤ 100 := hL.2.2.2.2.2.2.2
  intro sz
  refine Met.ofW (cc := zb_X_endSending) (maxL := 3) (ret := none) (by decide) rfl ?_
  intro p e s m args below meth c s₁ B hml hv
  obtain ⟨rfl, hsz, hP, hK, hD0⟩ := hv
  have hx := B.exec
  have hb := B.bytes
  have hr := B.returns
  have hts := atoms_spec (ws := zw_X_endSending :: lw_gd) B.pre
  have hT : ∀ w ∈ lw_gd, w.before _ s = true := fun w h => hts w (List.mem_cons_of_mem _ h)
  have hown : s.vm.findClass "PausedFabric" = some m.cls := findClass_of_methodNamed B.named
  have hlocks := B.notSynchronized
  subst hsz
  have hD := fb_D_self (sz := s.heap.size) hD0
  have hS : va_S (fb_A ad LL s.heap.size) s.heap s.heap [] := va_S.rf
  have hl := lv_entry ([.ref (ad 0 0), .ref (ad 5 i)]) (n := 3) (Nat.le_of_ble_eq_true rfl)
  rw [lg_entry_eq]
  generalize (lg_sl ([.ref (ad 0 0), .ref (ad 5 i)]) ++ List.replicate (3 - (lg_sl ([.ref (ad 0 0), .ref (ad 5 i)])).length) Slot.unset).toArray = ls at hl ⊢
  have hl : lv_has ls 3 [(0, .ref (ad 0 0)), (1, .ref (ad 5 i))] := hl
  refine lv_aload_n hx hb zd_X_endSending_0 rfl (lv_at hl 1 rfl) ?_
  refine pw_get (C := "PausedFabric$Port") (T := zT_P) (N := 11) hx hb hT zin_P hown hK hP (hL.2.2.1 _ hi).1 rfl rfl 5 (by decide) (hT _ zi_73) (fun _ h9 => h9) rfl zd_X_endSending_1 ?_
  refine pw_split (fun hz1 => ?_) (fun hz1 => ?_)
  · skip
    refine lv_astore_nN (lv' := [(2, .null), (0, .ref (ad 0 0)), (1, .ref (ad 5 i))]) hx hb zd_X_endSending_4 rfl hl (by decide) rfl (fun ls hl => ?_)
    refine lv_aload_nN hx hb zd_X_endSending_5 rfl (lv_at hl 0 rfl) ?_
    refine lv_ifnullN (tgt := 20) hx hb zd_X_endSending_6 (by decide) ?_
    exact W.vret hx hb hr (fun t ht hW => ⟨⟨st, rfl, ⟨(by simp only [cf_endSending, if_pos hz1, fb_b_t, fb_b_f]), hok⟩, by rw [ht]; exact hP, va_K.moved hW.alike hK, hD⟩, hS.F ht⟩) hS.2.2 zd_X_endSending_20
  · skip
    refine lv_astore_n (lv' := [(2, .ref (ad 7 (fb_n (st 13 i)))), (0, .ref (ad 0 0)), (1, .ref (ad 5 i))]) hx hb zd_X_endSending_4 rfl hl (by decide) rfl (fun ls hl => ?_)
    refine lv_aload_n hx hb zd_X_endSending_5 rfl (lv_at hl 0 rfl) ?_
    refine lv_ifnull hx hb zd_X_endSending_6 ?_
    refine lv_aload_n hx hb zd_X_endSending_9 rfl (lv_at hl 0 rfl) ?_
    refine pw_get (C := "PausedFabric$Frame") (T := zT_K) (N := 10) hx hb hT zin_K hown hK hP (hL.2.2.2.2.2.1 _ (fb_rl (hok 13 _) hz1)) rfl rfl 8 (by decide) (hT _ zi_255) (fun _ h9 => h9) rfl zd_X_endSending_10 ?_
    refine lv_aload_n hx hb zd_X_endSending_13 rfl (lv_at hl 1 rfl) ?_
    refine pw_get (C := "PausedFabric") (T := zT_X) (N := 11) hx hb hT zin_X hown hK hP (hL.2.1 0 (by decide)) rfl rfl 10 (by decide) (hT _ zi_124) (fun _ h9 => h9) rfl zd_X_endSending_14 ?_
    refine lv_icmp_eq (tgt := 21) hx hb zd_X_endSending_17 (by decide) (fun h2 => ?_) (fun h2 => ?_)
    · skip
      refine lv_aload_n hx hb zd_X_endSending_21 rfl (lv_at hl 2 rfl) ?_
      refine lv_null hx hb zd_X_endSending_22 ?_
      refine pw_put (C := "PausedFabric$Port") (T := zT_P) (N := 11) (ty := (.object "PausedFabric$Frame")) (v := .null) hx hb hT zin_P zt_P ztok_P znm_P hown hK hP hD hS (hL.2.2.1 _ hi).1 rfl rfl 5 (by decide) (hT _ zi_73) (fun _ h9 => h9) rfl (by decide +kernel) rfl rfl (Nat.le_of_ble_eq_true rfl) (fb_up st 13 i (-1)) (psn_C13 _ _ fb_m1) (fb_hoC hL _ 13 _ _ ow_13 (ix_13 _)) zd_X_endSending_23 (fun H locs hP hD hS => ?_)
      obtain ⟨s3, es3⟩ : ∃ z, z = fb_up st 13 i (-1) := ⟨_, rfl⟩
      have oks3 : fb_okC fl fr s3 := es3 ▸ (fb_okC_up hok (Or.inl rfl))
      rw [← es3] at hP hD
      refine lv_aload_n hx hb zd_X_endSending_26 rfl (lv_at hl 0 rfl) ?_
      refine lv_iconst (v := 3) hx hb zd_X_endSending_27 (by decide) ?_
      refine pw_put (C := "PausedFabric$Frame") (T := zT_K) (N := 10) (ty := .int) (v := .int 3) hx hb hT zin_K zt_K ztok_K znm_K hown hK hP hD hS (hL.2.2.2.2.2.1 _ (fb_rl (hok 13 _) hz1)) rfl rfl 3 (by decide) (hT _ zi_245) (fun _ h9 => h9) rfl (by decide +kernel) rfl rfl (Nat.le_of_ble_eq_true rfl) (fb_up s3 38 (fb_n (st 13 i)) 3) (ps_C38 _ _ _) (fb_hoC hL _ 38 _ _ ow_38 (ix_38 _)) zd_X_endSending_28 (fun H locs hP hD hS => ?_)
      obtain ⟨s4, es4⟩ : ∃ z, z = fb_up s3 38 (fb_n (st 13 i)) 3 := ⟨_, rfl⟩
      have oks4 : fb_okC fl fr s4 := es4 ▸ (fb_okC_up oks3 trivial)
      rw [← es4] at hP hD
      refine lv_aload_n hx hb zd_X_endSending_31 rfl (lv_at hl 0 rfl) ?_
      refine lv_aload_n hx hb zd_X_endSending_32 rfl (lv_at hl 1 rfl) ?_
      refine pw_get (C := "PausedFabric") (T := zT_X) (N := 11) hx hb hT zin_X hown hK hP (hL.2.1 0 (by decide)) rfl rfl 10 (by decide) (hT _ zi_124) (fun _ h9 => h9) rfl zd_X_endSending_33 ?_
      refine lv_aload_n hx hb zd_X_endSending_36 rfl (lv_at hl 1 rfl) ?_
      refine pw_get (C := "PausedFabric") (T := zT_X) (N := 11) hx hb hT zin_X hown hK hP (hL.2.1 0 (by decide)) rfl rfl 0 (by decide) (hT _ zi_114) (fun _ h9 => h9) rfl zd_X_endSending_37 ?_
      refine lv_iadd hx hb zd_X_endSending_40 ?_
      refine pw_put (C := "PausedFabric$Frame") (T := zT_K) (N := 10) (ty := .int) (v := .int ((s4 6 0) + (s4 0 0))) hx hb hT zin_K zt_K ztok_K znm_K hown hK hP hD hS (hL.2.2.2.2.2.1 _ (fb_rl (hok 13 _) hz1)) rfl rfl 8 (by decide) (hT _ zi_255) (fun _ h9 => h9) rfl (by decide +kernel) rfl rfl (Nat.le_of_ble_eq_true rfl) (fb_up s4 43 (fb_n (st 13 i)) ((s4 6 0) + (s4 0 0))) (ps_C43 _ _ _) (fb_hoC hL _ 43 _ _ ow_43 (ix_43 _)) zd_X_endSending_41 (fun H locs hP hD hS => ?_)
      obtain ⟨s5, es5⟩ : ∃ z, z = fb_up s4 43 (fb_n (st 13 i)) ((s4 6 0) + (s4 0 0)) := ⟨_, rfl⟩
      have oks5 : fb_okC fl fr s5 := es5 ▸ (fb_okC_up oks4 trivial)
      rw [← es5] at hP hD
      refine lv_aload_n hx hb zd_X_endSending_44 rfl (lv_at hl 2 rfl) ?_
      refine pw_get (C := "PausedFabric$Port") (T := zT_P) (N := 11) hx hb hT zin_P hown hK hP (hL.2.2.1 _ hi).1 rfl rfl 6 (by decide) (hT _ zi_75) (fun _ h9 => h9) rfl zd_X_endSending_45 ?_
      refine lv_aload_n hx hb zd_X_endSending_48 rfl (lv_at hl 0 rfl) ?_
      refine pw_Vv (bytes := zb_Q_add) (maxL := 2) (ret := none) (As := [.ref (ad 7 (fb_n (st 13 i)))]) (rest := []) ⟨hx, hb, hml, hown, hT⟩ (c_Q_add l D cA ad LL fl fr s5 hL oks5 (3 * i + 2) (fb_w96 hi) (fb_n (st 13 i)) (fb_rl (hok 13 _) hz1)) (cwV 1 hT (fb_gV zi_286 zi_287 zi_288 zi_4 zc_Q_add) rfl rfl rfl (by decide +kernel) ⟨Nat.le_of_ble_eq_true rfl, Nat.le_of_ble_eq_true rfl⟩) hK hP hD hS (fb_recv hK hP (hL.2.2.2.1 _ (fb_w96 hi)) rfl rfl) rfl hl.1 rfl (lv_room (Nat.le_of_ble_eq_true rfl)) zd_X_endSending_49 ⟨Nat.zero_le _, Nat.zero_le _⟩ (fun s6 H locs hp hP hD hS => ?_)
      obtain ⟨hs, hok9⟩ := hp
      have es6 : s6 = cf_add (3 * i + 2) (fb_n (st 13 i)) s5 := hs
      have oks6 : fb_okC fl fr s6 := hok9
      refine lv_aload_n hx hb zd_X_endSending_52 rfl (lv_at hl 0 rfl) ?_
      refine pw_get (C := "PausedFabric$Frame") (T := zT_K) (N := 10) hx hb hT zin_K hown hK hP (hL.2.2.2.2.2.1 _ (fb_rl (hok 13 _) hz1)) rfl rfl 7 (by decide) (hT _ zi_253) (fun _ h9 => h9) rfl zd_X_endSending_53 ?_
      refine pw_split (fun hz7 => ?_) (fun hz7 => ?_)
      · skip
        refine lv_ifnullN (tgt := 68) hx hb zd_X_endSending_56 (by decide) ?_
        exact W.vret hx hb hr (fun t ht hW => ⟨⟨s6, rfl, ⟨(by subst es6 es5 es4 es3; simp only [cf_endSending, if_neg hz1, if_pos h2, if_pos hz7, fb_b_t, fb_b_f]), oks6⟩, by rw [ht]; exact hP, va_K.moved hW.alike hK, hD⟩, hS.F ht⟩) hS.2.2 zd_X_endSending_68
      · skip
        refine lv_ifnull hx hb zd_X_endSending_56 ?_
        refine lv_aload_n hx hb zd_X_endSending_59 rfl (lv_at hl 1 rfl) ?_
        refine lv_aload_n hx hb zd_X_endSending_60 rfl (lv_at hl 0 rfl) ?_
        refine lv_aload_n hx hb zd_X_endSending_61 rfl (lv_at hl 0 rfl) ?_
        refine pw_get (C := "PausedFabric$Frame") (T := zT_K) (N := 10) hx hb hT zin_K hown hK hP (hL.2.2.2.2.2.1 _ (fb_rl (hok 13 _) hz1)) rfl rfl 7 (by decide) (hT _ zi_253) (fun _ h9 => h9) rfl zd_X_endSending_62 ?_
        refine pw_split (fun h9 => absurd h9 hz7) (fun _ => ?_)
        refine pw_Vv (bytes := zb_X_release) (maxL := 4) (ret := none) (As := [.ref (ad 7 (fb_n (st 13 i))), .ref (ad 5 (fb_n (s6 42 (fb_n (st 13 i)))))]) (rest := []) ⟨hx, hb, hml, hown, hT⟩ (c_X_release l D cA ad LL fl fr s6 hL oks6 (fb_n (st 13 i)) (fb_rl (hok 13 _) hz1) (fb_n (s6 42 (fb_n (st 13 i)))) (fb_rl (oks6 42 _) hz7)) (cwV 2 hT (fb_gV zi_306 zi_308 zs_X_release zi_1 zc_X_release) rfl rfl rfl (by decide +kernel) ⟨Nat.le_of_ble_eq_true rfl, Nat.le_of_ble_eq_true rfl⟩) hK hP hD hS (fb_recv hK hP (hL.2.1 0 (by decide)) rfl rfl) rfl hl.1 rfl (lv_room (Nat.le_of_ble_eq_true rfl)) zd_X_endSending_65 ⟨Nat.zero_le _, Nat.zero_le _⟩ (fun s8 H locs hp hP hD hS => ?_)
        obtain ⟨hs, hok9⟩ := hp
        have es8 : s8 = cf_release (fb_n (st 13 i)) (fb_n (s6 42 (fb_n (st 13 i)))) s6 := hs
        have oks8 : fb_okC fl fr s8 := hok9
        exact W.vret hx hb hr (fun t ht hW => ⟨⟨s8, rfl, ⟨(by subst es8 es6 es5 es4 es3; simp only [cf_endSending, if_neg hz1, if_pos h2, if_neg hz7, fb_b_t, fb_b_f]), oks8⟩, by rw [ht]; exact hP, va_K.moved hW.alike hK, hD⟩, hS.F ht⟩) hS.2.2 zd_X_endSending_68
    · skip
      exact W.vret hx hb hr (fun t ht hW => ⟨⟨st, rfl, ⟨(by simp only [cf_endSending, if_neg hz1, if_neg h2, fb_b_t, fb_b_f]), hok⟩, by rw [ht]; exact hP, va_K.moved hW.alike hK, hD⟩, hS.F ht⟩) hS.2.2 zd_X_endSending_20
