/-! contracts (by program) -/
set_option maxHeartbeats 4000000 in
set_option maxRecDepth 100000 in
theorem c_F_portAt (l : Launch) (D : va_G) (cA : Nat → ClassId) (ad : Nat → Nat → Nat) (LL : fb_L) (fl fr : Nat) (st : fb_S) (hL : fb_lvC LL fl fr) (hok : fb_okC fl fr st) (f : Nat) (hf : f < fl) (hop : Int32) : fb_Mq l zy_F_portAt (zw_F_portAt :: lw_gd) { frames := 0, cells := 0, slots := 0, locals := 0 } (fb_cC cA) D fb_cl (fb_tys cA) ad LL st [.ref (ad 6 f), .int hop] (fun rr st1 => rr = fb_ro (ad 5) (cf_portAt st f hop) ∧ st1 = st ∧ fb_okC fl fr st1) := by
  have hfl : fl ≤ 12 := hL.2.2.2.2.2.2.1
  have hfr : fr ≤ 100 := hL.2.2.2.2.2.2.2
  intro sz
  refine Met.ofW (cc := zb_F_portAt) (maxL := 2) (ret := (some (.object "PausedFabric$Port"))) (by decide) rfl ?_
  intro p e s m args below meth c s₁ B hml hv
  obtain ⟨rfl, hsz, hP, hK, hD0⟩ := hv
  have hx := B.exec
  have hb := B.bytes
  have hr := B.returns
  have hts := atoms_spec (ws := zw_F_portAt :: lw_gd) B.pre
  have hT : ∀ w ∈ lw_gd, w.before _ s = true := fun w h => hts w (List.mem_cons_of_mem _ h)
  have hown : s.vm.findClass "PausedFabric$Flow" = some m.cls := findClass_of_methodNamed B.named
  have hlocks := B.notSynchronized
  subst hsz
  have hD := fb_D_self (sz := s.heap.size) hD0
  have hS : va_S (fb_A ad LL s.heap.size) s.heap s.heap [] := va_S.rf
  have hl := lv_entry ([.ref (ad 6 f), .int hop]) (n := 2) (Nat.le_of_ble_eq_true rfl)
  rw [lg_entry_eq]
  generalize (lg_sl ([.ref (ad 6 f), .int hop]) ++ List.replicate (2 - (lg_sl ([.ref (ad 6 f), .int hop])).length) Slot.unset).toArray = ls at hl ⊢
  have hl : lv_has ls 2 [(0, .ref (ad 6 f)), (1, .int hop)] := hl
  refine lv_iload_n hx hb zd_F_portAt_0 rfl (lv_at hl 1 rfl) ?_
  refine lv_if_lt (tgt := 22) hx hb zd_F_portAt_1 (by decide) (fun h1 => ?_) (fun h1 => ?_)
  · skip
    refine lv_null hx hb zd_F_portAt_22 ?_
    exact W.aret (v := .null) hx hb hr (Or.inl ⟨_, rfl⟩) (Or.inl rfl) (fun t ht hW => ⟨⟨none, st, rfl, ⟨(fb_ro_n fb_m1).symm.trans (congrArg (fb_ro (ad 5)) (show -1 = cf_portAt st f hop from (by simp only [cf_portAt, if_pos h1, fb_b_t, fb_b_f]))), rfl, hok⟩, by rw [ht]; exact hP, va_K.moved hW.alike hK, hD⟩, hS.F ht⟩) hS.2.2 zd_F_portAt_23
  · skip
    refine lv_iload_n hx hb zd_F_portAt_4 rfl (lv_at hl 1 rfl) ?_
    refine lv_aload_n hx hb zd_F_portAt_5 rfl (lv_at hl 0 rfl) ?_
    refine pw_get (C := "PausedFabric$Flow") (T := zT_F) (N := 12) hx hb hT zin_F hown hK hP (hL.2.2.2.2.1 _ hf).1 rfl rfl 1 (by decide) (hT _ zi_176) (fun _ h9 => h9) rfl zd_F_portAt_6 ?_
    refine pw_alen (v := st 34 f) hx hb hK hP (hL.2.2.2.2.1 _ hf).2 1 rfl rfl (fb_len24 (hok 34 _ hf)) zd_F_portAt_9 ?_
    refine lv_icmp_ge (tgt := 22) hx hb zd_F_portAt_10 (by decide) (fun h2 => ?_) (fun h2 => ?_)
    · skip
      refine lv_null hx hb zd_F_portAt_22 ?_
      exact W.aret (v := .null) hx hb hr (Or.inl ⟨_, rfl⟩) (Or.inl rfl) (fun t ht hW => ⟨⟨none, st, rfl, ⟨(fb_ro_n fb_m1).symm.trans (congrArg (fb_ro (ad 5)) (show -1 = cf_portAt st f hop from (by simp only [cf_portAt, if_neg h1, if_pos h2, fb_b_t, fb_b_f]))), rfl, hok⟩, by rw [ht]; exact hP, va_K.moved hW.alike hK, hD⟩, hS.F ht⟩) hS.2.2 zd_F_portAt_23
    · skip
      refine lv_aload_n hx hb zd_F_portAt_13 rfl (lv_at hl 0 rfl) ?_
      refine pw_get (C := "PausedFabric$Flow") (T := zT_F) (N := 12) hx hb hT zin_F hown hK hP (hL.2.2.2.2.1 _ hf).1 rfl rfl 1 (by decide) (hT _ zi_176) (fun _ h9 => h9) rfl zd_F_portAt_14 ?_
      refine lv_iload_n hx hb zd_F_portAt_17 rfl (lv_at hl 1 rfl) ?_
      refine pw_aald (r := fb_ro (ad 5) (st 33 (4 * f + fb_n hop))) hx hb hK hP (hL.2.2.2.2.1 _ hf).2 1 rfl rfl (fb_in24 (hok 34 _ hf) h1 h2) (congrArg (fb_ro (ad 5)) (if_pos (fb_lt4 (hok 34 _ hf) h1 h2))) zd_F_portAt_18 ?_
      refine lv_goto (tgt := 23) hx hb zd_F_portAt_19 (by decide) ?_
      exact W.aret (v := va_rf (fb_ro (ad 5) (st 33 (4 * f + fb_n hop)))) hx hb hr (Or.inl ⟨_, rfl⟩) (fb_rfc _) (fun t ht hW => ⟨⟨fb_ro (ad 5) (st 33 (4 * f + fb_n hop)), st, rfl, ⟨congrArg (fb_ro (ad 5)) (show st 33 (4 * f + fb_n hop) = cf_portAt st f hop from (by simp only [cf_portAt, if_neg h1, if_neg h2, fb_b_t, fb_b_f])), rfl, hok⟩, by rw [ht]; exact hP, va_K.moved hW.alike hK, hD⟩, hS.F ht⟩) hS.2.2 zd_F_portAt_23

set_option maxHeartbeats 4000000 in
set_option maxRecDepth 100000 in
theorem c_F_waitFrom (l : Launch) (D : va_G) (cA : Nat → ClassId) (ad : Nat → Nat → Nat) (LL : fb_L) (fl fr : Nat) (st : fb_S) (hL : fb_lvC LL fl fr) (hok : fb_okC fl fr st) (f : Nat) (hf : f < fl) (t0 : Int32) (n : Int32) : fb_Mv l zy_F_waitFrom (zw_F_waitFrom :: lw_gd) { frames := 0, cells := 0, slots := 0, locals := 0 } (fb_cC cA) D fb_cl (fb_tys cA) ad LL st [.ref (ad 6 f), .int t0, .int n] (fun st1 => st1 = cf_waitFrom f t0 n st ∧ fb_okC fl fr st1) := by
  have hfl : fl ≤ 12 := hL.2.2.2.2.2.2.1
  have hfr : fr ≤ 100 := hL.2.2.2.2.2.2.2
  intro sz
  refine Met.ofW (cc := zb_F_waitFrom) (maxL := 3) (ret := none) (by decide) rfl ?_
  intro p e s m args below meth c s₁ B hml hv
  obtain ⟨rfl, hsz, hP, hK, hD0⟩ := hv
  have hx := B.exec
  have hb := B.bytes
  have hr := B.returns
  have hts := atoms_spec (ws := zw_F_waitFrom :: lw_gd) B.pre
  have hT : ∀ w ∈ lw_gd, w.before _ s = true := fun w h => hts w (List.mem_cons_of_mem _ h)
  have hown : s.vm.findClass "PausedFabric$Flow" = some m.cls := findClass_of_methodNamed B.named
  have hlocks := B.notSynchronized
  subst hsz
  have hD := fb_D_self (sz := s.heap.size) hD0
  have hS : va_S (fb_A ad LL s.heap.size) s.heap s.heap [] := va_S.rf
  have hl := lv_entry ([.ref (ad 6 f), .int t0, .int n]) (n := 3) (Nat.le_of_ble_eq_true rfl)
  rw [lg_entry_eq]
  generalize (lg_sl ([.ref (ad 6 f), .int t0, .int n]) ++ List.replicate (3 - (lg_sl ([.ref (ad 6 f), .int t0, .int n])).length) Slot.unset).toArray = ls at hl ⊢
  have hl : lv_has ls 3 [(0, .ref (ad 6 f)), (1, .int t0), (2, .int n)] := hl
  refine lv_aload_n hx hb zd_F_waitFrom_0 rfl (lv_at hl 0 rfl) ?_
  refine lv_iload_n hx hb zd_F_waitFrom_1 rfl (lv_at hl 1 rfl) ?_
  refine lv_bipush (v := 64) hx hb zd_F_waitFrom_2 (by decide) ?_
  refine lv_iload_n hx hb zd_F_waitFrom_4 rfl (lv_at hl 2 rfl) ?_
  refine lv_imul hx hb zd_F_waitFrom_5 ?_
  refine lv_aload_n hx hb zd_F_waitFrom_6 rfl (lv_at hl 0 rfl) ?_
  refine pw_get (C := "PausedFabric$Flow") (T := zT_F) (N := 12) hx hb hT zin_F hown hK hP (hL.2.2.2.2.1 _ hf).1 rfl rfl 2 (by decide) (hT _ zi_177) (fun _ h9 => h9) rfl zd_F_waitFrom_7 ?_
  refine lv_iadd hx hb zd_F_waitFrom_10 ?_
  refine lv_iconst (v := 1) hx hb zd_F_waitFrom_11 (by decide) ?_
  refine lv_isub hx hb zd_F_waitFrom_12 ?_
  refine lv_aload_n hx hb zd_F_waitFrom_13 rfl (lv_at hl 0 rfl) ?_
  refine pw_get (C := "PausedFabric$Flow") (T := zT_F) (N := 12) hx hb hT zin_F hown hK hP (hL.2.2.2.2.1 _ hf).1 rfl rfl 2 (by decide) (hT _ zi_177) (fun _ h9 => h9) rfl zd_F_waitFrom_14 ?_
  refine lv_idiv hx hb zd_F_waitFrom_17 (fb_ne1 (hok 23 _ hf)) ?_
  refine lv_iadd hx hb zd_F_waitFrom_18 ?_
  refine pw_put (C := "PausedFabric$Flow") (T := zT_F) (N := 12) (ty := .int) (v := .int (t0 + ((((64 * n) + (st 23 f)) - 1) / (st 23 f)))) hx hb hT zin_F zt_F ztok_F znm_F hown hK hP hD hS (hL.2.2.2.2.1 _ hf).1 rfl rfl 6 (by decide) (hT _ zi_183) (fun _ h9 => h9) rfl (by decide +kernel) rfl rfl (Nat.le_of_ble_eq_true rfl) (fb_up st 27 f (t0 + ((((64 * n) + (st 23 f)) - 1) / (st 23 f)))) (ps_C27 _ _ _) (fb_hoC hL _ 27 _ _ ow_27 (ix_27 _)) zd_F_waitFrom_19 (fun H locs hP hD hS => ?_)
  obtain ⟨s1, es1⟩ : ∃ z, z = fb_up st 27 f (t0 + ((((64 * n) + (st 23 f)) - 1) / (st 23 f))) := ⟨_, rfl⟩
  have oks1 : fb_okC fl fr s1 := es1 ▸ (fb_okC_up hok trivial)
  rw [← es1] at hP hD
  exact W.vret hx hb hr (fun t ht hW => ⟨⟨s1, rfl, ⟨(by subst es1; simp only [cf_waitFrom, fb_b_t, fb_b_f]), oks1⟩, by rw [ht]; exact hP, va_K.moved hW.alike hK, hD⟩, hS.F ht⟩) hS.2.2 zd_F_waitFrom_22

set_option maxHeartbeats 4000000 in
set_option maxRecDepth 100000 in
theorem c_F_slowDown (l : Launch) (D : va_G) (cA : Nat → ClassId) (ad : Nat → Nat → Nat) (LL : fb_L) (fl fr : Nat) (st : fb_S) (hL : fb_lvC LL fl fr) (hok : fb_okC fl fr st) (f : Nat) (hf : f < fl) : fb_Mv l zy_F_slowDown (zw_F_slowDown :: lw_gd) { frames := 1, cells := 0, slots := 0, locals := 16 } (fb_cC cA) D fb_cl (fb_tys cA) ad LL st [.ref (ad 6 f)] (fun st1 => st1 = cf_slow f st ∧ fb_okC fl fr st1) := by
  have hfl : fl ≤ 12 := hL.2.2.2.2.2.2.1
  have hfr : fr ≤ 100 := hL.2.2.2.2.2.2.2
  intro sz
  refine Met.ofW (cc := zb_F_slowDown) (maxL := 1) (ret := none) (by decide) rfl ?_
  intro p e s m args below meth c s₁ B hml hv
  obtain ⟨rfl, hsz, hP, hK, hD0⟩ := hv
  have hx := B.exec
  have hb := B.bytes
  have hr := B.returns
  have hts := atoms_spec (ws := zw_F_slowDown :: lw_gd) B.pre
  have hT : ∀ w ∈ lw_gd, w.before _ s = true := fun w h => hts w (List.mem_cons_of_mem _ h)
  have hown : s.vm.findClass "PausedFabric$Flow" = some m.cls := findClass_of_methodNamed B.named
  have hlocks := B.notSynchronized
  subst hsz
  have hD := fb_D_self (sz := s.heap.size) hD0
  have hS : va_S (fb_A ad LL s.heap.size) s.heap s.heap [] := va_S.rf
  have hl := lv_entry ([.ref (ad 6 f)]) (n := 1) (Nat.le_of_ble_eq_true rfl)
  rw [lg_entry_eq]
  generalize (lg_sl ([.ref (ad 6 f)]) ++ List.replicate (1 - (lg_sl ([.ref (ad 6 f)])).length) Slot.unset).toArray = ls at hl ⊢
  have hl : lv_has ls 1 [(0, .ref (ad 6 f))] := hl
  refine lv_aload_n hx hb zd_F_slowDown_0 rfl (lv_at hl 0 rfl) ?_
  refine lv_aload_n hx hb zd_F_slowDown_1 rfl (lv_at hl 0 rfl) ?_
  refine pw_get (C := "PausedFabric$Flow") (T := zT_F) (N := 12) hx hb hT zin_F hown hK hP (hL.2.2.2.2.1 _ hf).1 rfl rfl 2 (by decide) (hT _ zi_177) (fun _ h9 => h9) rfl zd_F_slowDown_2 ?_
  refine pw_put (C := "PausedFabric$Flow") (T := zT_F) (N := 12) (ty := .int) (v := .int (st 23 f)) hx hb hT zin_F zt_F ztok_F znm_F hown hK hP hD hS (hL.2.2.2.2.1 _ hf).1 rfl rfl 3 (by decide) (hT _ zi_179) (fun _ h9 => h9) rfl (by decide +kernel) rfl rfl (Nat.le_of_ble_eq_true rfl) (fb_up st 24 f (st 23 f)) (ps_C24 _ _ _) (fb_hoC hL _ 24 _ _ ow_24 (ix_24 _)) zd_F_slowDown_5 (fun H locs hP hD hS => ?_)
  obtain ⟨s1, es1⟩ : ∃ z, z = fb_up st 24 f (st 23 f) := ⟨_, rfl⟩
  have oks1 : fb_okC fl fr s1 := es1 ▸ (fb_okC_up hok (fun _ => hok 23 _ hf))
  rw [← es1] at hP hD
  refine lv_aload_n hx hb zd_F_slowDown_8 rfl (lv_at hl 0 rfl) ?_
  refine lv_iconst (v := 1) hx hb zd_F_slowDown_9 (by decide) ?_
  refine lv_aload_n hx hb zd_F_slowDown_10 rfl (lv_at hl 0 rfl) ?_
  refine pw_get (C := "PausedFabric$Flow") (T := zT_F) (N := 12) hx hb hT zin_F hown hK hP (hL.2.2.2.2.1 _ hf).1 rfl rfl 2 (by decide) (hT _ zi_177) (fun _ h9 => h9) rfl zd_F_slowDown_11 ?_
  refine lv_aload_n hx hb zd_F_slowDown_14 rfl (lv_at hl 0 rfl) ?_
  refine pw_get (C := "PausedFabric$Flow") (T := zT_F) (N := 12) hx hb hT zin_F hown hK hP (hL.2.2.2.2.1 _ hf).1 rfl rfl 2 (by decide) (hT _ zi_177) (fun _ h9 => h9) rfl zd_F_slowDown_15 ?_
  refine lv_aload_n hx hb zd_F_slowDown_18 rfl (lv_at hl 0 rfl) ?_
  refine pw_get (C := "PausedFabric$Flow") (T := zT_F) (N := 12) hx hb hT zin_F hown hK hP (hL.2.2.2.2.1 _ hf).1 rfl rfl 4 (by decide) (hT _ zi_180) (fun _ h9 => h9) rfl zd_F_slowDown_19 ?_
  refine lv_imul hx hb zd_F_slowDown_22 ?_
  refine lv_sipush (v := 128) hx hb zd_F_slowDown_23 (by decide) ?_
  refine lv_idiv hx hb zd_F_slowDown_26 (by decide) ?_
  refine lv_isub hx hb zd_F_slowDown_27 ?_
  refine va_mmax hx hb (hml.trans hl.1.symm) hown (hT _ zi_318) (hT _ zi_29) (hT _ zi_2) (hT _ zc_J_max) (Nat.le_of_ble_eq_true rfl) (Nat.le_of_ble_eq_true rfl) (Nat.zero_le _) (Nat.zero_le _) zd_F_slowDown_28 ?_
  refine pw_put (C := "PausedFabric$Flow") (T := zT_F) (N := 12) (ty := .int) (v := .int (if 1 < ((s1 23 f) - (((s1 23 f) * (s1 25 f)) / 128)) then ((s1 23 f) - (((s1 23 f) * (s1 25 f)) / 128)) else 1)) hx hb hT zin_F zt_F ztok_F znm_F hown hK hP hD hS (hL.2.2.2.2.1 _ hf).1 rfl rfl 2 (by decide) (hT _ zi_177) (fun _ h9 => h9) rfl (by decide +kernel) rfl rfl (Nat.le_of_ble_eq_true rfl) (fb_up s1 23 f (if 1 < ((s1 23 f) - (((s1 23 f) * (s1 25 f)) / 128)) then ((s1 23 f) - (((s1 23 f) * (s1 25 f)) / 128)) else 1)) (ps_C23 _ _ _) (fb_hoC hL _ 23 _ _ ow_23 (ix_23 _)) zd_F_slowDown_31 (fun H locs hP hD hS => ?_)
  obtain ⟨s2, es2⟩ : ∃ z, z = fb_up s1 23 f (if 1 < ((s1 23 f) - (((s1 23 f) * (s1 25 f)) / 128)) then ((s1 23 f) - (((s1 23 f) * (s1 25 f)) / 128)) else 1) := ⟨_, rfl⟩
  have oks2 : fb_okC fl fr s2 := es2 ▸ (fb_okC_up oks1 (fun _ => fb_slow1 (oks1 23 _ hf) (oks1 25 _ hf)))
  rw [← es2] at hP hD
  refine lv_aload_n hx hb zd_F_slowDown_34 rfl (lv_at hl 0 rfl) ?_
  refine lv_bipush (v := 15) hx hb zd_F_slowDown_35 (by decide) ?_
  refine lv_aload_n hx hb zd_F_slowDown_37 rfl (lv_at hl 0 rfl) ?_
  refine pw_get (C := "PausedFabric$Flow") (T := zT_F) (N := 12) hx hb hT zin_F hown hK hP (hL.2.2.2.2.1 _ hf).1 rfl rfl 4 (by decide) (hT _ zi_180) (fun _ h9 => h9) rfl zd_F_slowDown_38 ?_
  refine lv_imul hx hb zd_F_slowDown_41 ?_
  refine lv_bipush (v := 64) hx hb zd_F_slowDown_42 (by decide) ?_
  refine lv_iadd hx hb zd_F_slowDown_44 ?_
  refine lv_bipush (v := 16) hx hb zd_F_slowDown_45 (by decide) ?_
  refine lv_idiv hx hb zd_F_slowDown_47 (by decide) ?_
  refine pw_put (C := "PausedFabric$Flow") (T := zT_F) (N := 12) (ty := .int) (v := .int (((15 * (s2 25 f)) + 64) / 16)) hx hb hT zin_F zt_F ztok_F znm_F hown hK hP hD hS (hL.2.2.2.2.1 _ hf).1 rfl rfl 4 (by decide) (hT _ zi_180) (fun _ h9 => h9) rfl (by decide +kernel) rfl rfl (Nat.le_of_ble_eq_true rfl) (fb_up s2 25 f (((15 * (s2 25 f)) + 64) / 16)) (ps_C25 _ _ _) (fb_hoC hL _ 25 _ _ ow_25 (ix_25 _)) zd_F_slowDown_48 (fun H locs hP hD hS => ?_)
  obtain ⟨s3, es3⟩ : ∃ z, z = fb_up s2 25 f (((15 * (s2 25 f)) + 64) / 16) := ⟨_, rfl⟩
  have oks3 : fb_okC fl fr s3 := es3 ▸ (fb_okC_up oks2 (fun _ => fb_slow2 (oks2 25 _ hf)))
  rw [← es3] at hP hD
  refine lv_aload_n hx hb zd_F_slowDown_51 rfl (lv_at hl 0 rfl) ?_
  refine lv_iconst (v := 0) hx hb zd_F_slowDown_52 (by decide) ?_
  refine pw_put (C := "PausedFabric$Flow") (T := zT_F) (N := 12) (ty := .int) (v := .int 0) hx hb hT zin_F zt_F ztok_F znm_F hown hK hP hD hS (hL.2.2.2.2.1 _ hf).1 rfl rfl 5 (by decide) (hT _ zi_182) (fun _ h9 => h9) rfl (by decide +kernel) rfl rfl (Nat.le_of_ble_eq_true rfl) (fb_up s3 26 f 0) (ps_C26 _ _ _) (fb_hoC hL _ 26 _ _ ow_26 (ix_26 _)) zd_F_slowDown_53 (fun H locs hP hD hS => ?_)
  obtain ⟨s4, es4⟩ : ∃ z, z = fb_up s3 26 f 0 := ⟨_, rfl⟩
  have oks4 : fb_okC fl fr s4 := es4 ▸ (fb_okC_up oks3 trivial)
  rw [← es4] at hP hD
  exact W.vret hx hb hr (fun t ht hW => ⟨⟨s4, rfl, ⟨(by subst es4 es3 es2 es1; simp only [cf_slow, fb_b_t, fb_b_f]), oks4⟩, by rw [ht]; exact hP, va_K.moved hW.alike hK, hD⟩, hS.F ht⟩) hS.2.2 zd_F_slowDown_56

set_option maxHeartbeats 4000000 in
set_option maxRecDepth 100000 in
theorem c_F_recover (l : Launch) (D : va_G) (cA : Nat → ClassId) (ad : Nat → Nat → Nat) (LL : fb_L) (fl fr : Nat) (st : fb_S) (hL : fb_lvC LL fl fr) (hok : fb_okC fl fr st) (f : Nat) (hf : f < fl) : fb_Mv l zy_F_recover (zw_F_recover :: lw_gd) { frames := 0, cells := 0, slots := 0, locals := 0 } (fb_cC cA) D fb_cl (fb_tys cA) ad LL st [.ref (ad 6 f)] (fun st1 => st1 = cf_recover f st ∧ fb_okC fl fr st1) := by
  have hfl : fl ≤ 12 := hL.2.2.2.2.2.2.1
  have hfr : fr ≤ 100 := hL.2.2.2.2.2.2.2
  intro sz
  refine Met.ofW (cc := zb_F_recover) (maxL := 1) (ret := none) (by decide) rfl ?_
  intro p e s m args below meth c s₁ B hml hv
  obtain ⟨rfl, hsz, hP, hK, hD0⟩ := hv
  have hx := B.exec
  have hb := B.bytes
  have hr := B.returns
  have hts := atoms_spec (ws := zw_F_recover :: lw_gd) B.pre
  have hT : ∀ w ∈ lw_gd, w.before _ s = true := fun w h => hts w (List.mem_cons_of_mem _ h)
  have hown : s.vm.findClass "PausedFabric$Flow" = some m.cls := findClass_of_methodNamed B.named
  have hlocks := B.notSynchronized
  subst hsz
  have hD := fb_D_self (sz := s.heap.size) hD0
  have hS : va_S (fb_A ad LL s.heap.size) s.heap s.heap [] := va_S.rf
  have hl := lv_entry ([.ref (ad 6 f)]) (n := 1) (Nat.le_of_ble_eq_true rfl)
  rw [lg_entry_eq]
  generalize (lg_sl ([.ref (ad 6 f)]) ++ List.replicate (1 - (lg_sl ([.ref (ad 6 f)])).length) Slot.unset).toArray = ls at hl ⊢
  have hl : lv_has ls 1 [(0, .ref (ad 6 f))] := hl
  refine lv_aload_n hx hb zd_F_recover_0 rfl (lv_at hl 0 rfl) ?_
  refine lv_iconst (v := 0) hx hb zd_F_recover_1 (by decide) ?_
  refine pw_put (C := "PausedFabric$Flow") (T := zT_F) (N := 12) (ty := .int) (v := .int 0) hx hb hT zin_F zt_F ztok_F znm_F hown hK hP hD hS (hL.2.2.2.2.1 _ hf).1 rfl rfl 5 (by decide) (hT _ zi_182) (fun _ h9 => h9) rfl (by decide +kernel) rfl rfl (Nat.le_of_ble_eq_true rfl) (fb_up st 26 f 0) (ps_C26 _ _ _) (fb_hoC hL _ 26 _ _ ow_26 (ix_26 _)) zd_F_recover_2 (fun H locs hP hD hS => ?_)
  obtain ⟨s1, es1⟩ : ∃ z, z = fb_up st 26 f 0 := ⟨_, rfl⟩
  have oks1 : fb_okC fl fr s1 := es1 ▸ (fb_okC_up hok trivial)
  rw [← es1] at hP hD
  refine lv_aload_n hx hb zd_F_recover_5 rfl (lv_at hl 0 rfl) ?_
  refine lv_bipush (v := 15) hx hb zd_F_recover_6 (by decide) ?_
  refine lv_aload_n hx hb zd_F_recover_8 rfl (lv_at hl 0 rfl) ?_
  refine pw_get (C := "PausedFabric$Flow") (T := zT_F) (N := 12) hx hb hT zin_F hown hK hP (hL.2.2.2.2.1 _ hf).1 rfl rfl 4 (by decide) (hT _ zi_180) (fun _ h9 => h9) rfl zd_F_recover_9 ?_
  refine lv_imul hx hb zd_F_recover_12 ?_
  refine lv_bipush (v := 16) hx hb zd_F_recover_13 (by decide) ?_
  refine lv_idiv hx hb zd_F_recover_15 (by decide) ?_
  refine pw_put (C := "PausedFabric$Flow") (T := zT_F) (N := 12) (ty := .int) (v := .int ((15 * (s1 25 f)) / 16)) hx hb hT zin_F zt_F ztok_F znm_F hown hK hP hD hS (hL.2.2.2.2.1 _ hf).1 rfl rfl 4 (by decide) (hT _ zi_180) (fun _ h9 => h9) rfl (by decide +kernel) rfl rfl (Nat.le_of_ble_eq_true rfl) (fb_up s1 25 f ((15 * (s1 25 f)) / 16)) (ps_C25 _ _ _) (fb_hoC hL _ 25 _ _ ow_25 (ix_25 _)) zd_F_recover_16 (fun H locs hP hD hS => ?_)
  obtain ⟨s2, es2⟩ : ∃ z, z = fb_up s1 25 f ((15 * (s1 25 f)) / 16) := ⟨_, rfl⟩
  have oks2 : fb_okC fl fr s2 := es2 ▸ (fb_okC_up oks1 (fun _ => fb_rec1 (oks1 25 _ hf)))
  rw [← es2] at hP hD
  refine lv_aload_n hx hb zd_F_recover_19 rfl (lv_at hl 0 rfl) ?_
  refine lv_aload_n hx hb zd_F_recover_20 rfl (lv_at hl 0 rfl) ?_
  refine pw_get (C := "PausedFabric$Flow") (T := zT_F) (N := 12) hx hb hT zin_F hown hK hP (hL.2.2.2.2.1 _ hf).1 rfl rfl 2 (by decide) (hT _ zi_177) (fun _ h9 => h9) rfl zd_F_recover_21 ?_
  refine lv_aload_n hx hb zd_F_recover_24 rfl (lv_at hl 0 rfl) ?_
  refine pw_get (C := "PausedFabric$Flow") (T := zT_F) (N := 12) hx hb hT zin_F hown hK hP (hL.2.2.2.2.1 _ hf).1 rfl rfl 3 (by decide) (hT _ zi_179) (fun _ h9 => h9) rfl zd_F_recover_25 ?_
  refine lv_iadd hx hb zd_F_recover_28 ?_
  refine lv_iconst (v := 1) hx hb zd_F_recover_29 (by decide) ?_
  refine lv_iadd hx hb zd_F_recover_30 ?_
  refine lv_iconst (v := 2) hx hb zd_F_recover_31 (by decide) ?_
  refine lv_idiv hx hb zd_F_recover_32 (by decide) ?_
  refine pw_put (C := "PausedFabric$Flow") (T := zT_F) (N := 12) (ty := .int) (v := .int ((((s2 23 f) + (s2 24 f)) + 1) / 2)) hx hb hT zin_F zt_F ztok_F znm_F hown hK hP hD hS (hL.2.2.2.2.1 _ hf).1 rfl rfl 2 (by decide) (hT _ zi_177) (fun _ h9 => h9) rfl (by decide +kernel) rfl rfl (Nat.le_of_ble_eq_true rfl) (fb_up s2 23 f ((((s2 23 f) + (s2 24 f)) + 1) / 2)) (ps_C23 _ _ _) (fb_hoC hL _ 23 _ _ ow_23 (ix_23 _)) zd_F_recover_33 (fun H locs hP hD hS => ?_)
  obtain ⟨s3, es3⟩ : ∃ z, z = fb_up s2 23 f ((((s2 23 f) + (s2 24 f)) + 1) / 2) := ⟨_, rfl⟩
  have oks3 : fb_okC fl fr s3 := es3 ▸ (fb_okC_up oks2 (fun _ => fb_rec2 (oks2 23 _ hf) (oks2 24 _ hf)))
  rw [← es3] at hP hD
  exact W.vret hx hb hr (fun t ht hW => ⟨⟨s3, rfl, ⟨(by subst es3 es2 es1; simp only [cf_recover, fb_b_t, fb_b_f]), oks3⟩, by rw [ht]; exact hP, va_K.moved hW.alike hK, hD⟩, hS.F ht⟩) hS.2.2 zd_F_recover_36

set_option maxHeartbeats 4000000 in
set_option maxRecDepth 100000 in
theorem c_F_adjustRate (l : Launch) (D : va_G) (cA : Nat → ClassId) (ad : Nat → Nat → Nat) (LL : fb_L) (fl fr : Nat) (st : fb_S) (hL : fb_lvC LL fl fr) (hok : fb_okC fl fr st) (f : Nat) (hf : f < fl) (told : Int32) : fb_Mv l zy_F_adjustRate (zw_F_adjustRate :: lw_gd) { frames := 2, cells := 0, slots := 0, locals := 36 } (fb_cC cA) D fb_cl (fb_tys cA) ad LL st [.ref (ad 6 f), .int told] (fun st1 => st1 = cf_adjust f told st ∧ fb_okC fl fr st1) := by
  have hfl : fl ≤ 12 := hL.2.2.2.2.2.2.1
  have hfr : fr ≤ 100 := hL.2.2.2.2.2.2.2
  intro sz
  refine Met.ofW (cc := zb_F_adjustRate) (maxL := 2) (ret := none) (by decide) rfl ?_
  intro p e s m args below meth c s₁ B hml hv
  obtain ⟨rfl, hsz, hP, hK, hD0⟩ := hv
  have hx := B.exec
  have hb := B.bytes
  have hr := B.returns
  have hts := atoms_spec (ws := zw_F_adjustRate :: lw_gd) B.pre
  have hT : ∀ w ∈ lw_gd, w.before _ s = true := fun w h => hts w (List.mem_cons_of_mem _ h)
  have hown : s.vm.findClass "PausedFabric$Flow" = some m.cls := findClass_of_methodNamed B.named
  have hlocks := B.notSynchronized
  subst hsz
  have hD := fb_D_self (sz := s.heap.size) hD0
  have hS : va_S (fb_A ad LL s.heap.size) s.heap s.heap [] := va_S.rf
  have hl := lv_entry ([.ref (ad 6 f), .int told]) (n := 2) (Nat.le_of_ble_eq_true rfl)
  rw [lg_entry_eq]
  generalize (lg_sl ([.ref (ad 6 f), .int told]) ++ List.replicate (2 - (lg_sl ([.ref (ad 6 f), .int told])).length) Slot.unset).toArray = ls at hl ⊢
  have hl : lv_has ls 2 [(0, .ref (ad 6 f)), (1, .int told)] := hl
  refine lv_iload_n hx hb zd_F_adjustRate_0 rfl (lv_at hl 1 rfl) ?_
  refine lv_if_eq (tgt := 9) hx hb zd_F_adjustRate_1 (by decide) (fun h1 => ?_) (fun h1 => ?_)
  · skip
    refine lv_aload_n hx hb zd_F_adjustRate_9 rfl (lv_at hl 0 rfl) ?_
    refine lv_dup hx hb zd_F_adjustRate_10 rfl ?_
    refine pw_get (C := "PausedFabric$Flow") (T := zT_F) (N := 12) hx hb hT zin_F hown hK hP (hL.2.2.2.2.1 _ hf).1 rfl rfl 5 (by decide) (hT _ zi_182) (fun _ h9 => h9) rfl zd_F_adjustRate_11 ?_
    refine lv_iconst (v := 1) hx hb zd_F_adjustRate_14 (by decide) ?_
    refine lv_iadd hx hb zd_F_adjustRate_15 ?_
    refine pw_put (C := "PausedFabric$Flow") (T := zT_F) (N := 12) (ty := .int) (v := .int ((st 26 f) + 1)) hx hb hT zin_F zt_F ztok_F znm_F hown hK hP hD hS (hL.2.2.2.2.1 _ hf).1 rfl rfl 5 (by decide) (hT _ zi_182) (fun _ h9 => h9) rfl (by decide +kernel) rfl rfl (Nat.le_of_ble_eq_true rfl) (fb_up st 26 f ((st 26 f) + 1)) (ps_C26 _ _ _) (fb_hoC hL _ 26 _ _ ow_26 (ix_26 _)) zd_F_adjustRate_16 (fun H locs hP hD hS => ?_)
    obtain ⟨s2, es2⟩ : ∃ z, z = fb_up st 26 f ((st 26 f) + 1) := ⟨_, rfl⟩
    have oks2 : fb_okC fl fr s2 := es2 ▸ (fb_okC_up hok trivial)
    rw [← es2] at hP hD
    refine lv_aload_n hx hb zd_F_adjustRate_19 rfl (lv_at hl 0 rfl) ?_
    refine pw_get (C := "PausedFabric$Flow") (T := zT_F) (N := 12) hx hb hT zin_F hown hK hP (hL.2.2.2.2.1 _ hf).1 rfl rfl 5 (by decide) (hT _ zi_182) (fun _ h9 => h9) rfl zd_F_adjustRate_20 ?_
    refine lv_bipush (v := 16) hx hb zd_F_adjustRate_23 (by decide) ?_
    refine lv_icmp_ne (tgt := 32) hx hb zd_F_adjustRate_25 (by decide) (fun h3 => ?_) (fun h3 => ?_)
    · skip
      exact W.vret hx hb hr (fun t ht hW => ⟨⟨s2, rfl, ⟨(by subst es2; simp only [cf_adjust, if_pos h1, if_neg h3, fb_b_t, fb_b_f]), oks2⟩, by rw [ht]; exact hP, va_K.moved hW.alike hK, hD⟩, hS.F ht⟩) hS.2.2 zd_F_adjustRate_32
    · skip
      refine lv_aload_n hx hb zd_F_adjustRate_28 rfl (lv_at hl 0 rfl) ?_
      refine pw_Vv (bytes := zb_F_recover) (maxL := 1) (ret := none) (As := []) (rest := []) ⟨hx, hb, hml, hown, hT⟩ (c_F_recover l D cA ad LL fl fr s2 hL oks2 f hf) (cwV 0 hT (fb_gV zi_319 zi_320 zi_321 zi_6 zc_F_recover) rfl rfl rfl (by decide +kernel) ⟨Nat.le_of_ble_eq_true rfl, Nat.le_of_ble_eq_true rfl⟩) hK hP hD hS (fb_recv hK hP (hL.2.2.2.2.1 _ hf).1 rfl rfl) rfl hl.1 rfl (lv_room (Nat.le_of_ble_eq_true rfl)) zd_F_adjustRate_29 ⟨Nat.zero_le _, Nat.zero_le _⟩ (fun s4 H locs hp hP hD hS => ?_)
      obtain ⟨hs, hok9⟩ := hp
      have es4 : s4 = cf_recover f s2 := hs
      have oks4 : fb_okC fl fr s4 := hok9
      exact W.vret hx hb hr (fun t ht hW => ⟨⟨s4, rfl, ⟨(by subst es4 es2; simp only [cf_adjust, if_pos h1, if_pos h3, fb_b_t, fb_b_f]), oks4⟩, by rw [ht]; exact hP, va_K.moved hW.alike hK, hD⟩, hS.F ht⟩) hS.2.2 zd_F_adjustRate_32
  · skip
    refine lv_aload_n hx hb zd_F_adjustRate_4 rfl (lv_at hl 0 rfl) ?_
    refine pw_Vv (bytes := zb_F_slowDown) (maxL := 1) (ret := none) (As := []) (rest := []) ⟨hx, hb, hml, hown, hT⟩ (c_F_slowDown l D cA ad LL fl fr st hL hok f hf) (cwV 0 hT (fb_gV zi_314 zi_315 zi_316 zi_6 zc_F_slowDown) rfl rfl rfl (by decide +kernel) ⟨Nat.le_of_ble_eq_true rfl, Nat.le_of_ble_eq_true rfl⟩) hK hP hD hS (fb_recv hK hP (hL.2.2.2.2.1 _ hf).1 rfl rfl) rfl hl.1 rfl (lv_room (Nat.le_of_ble_eq_true rfl)) zd_F_adjustRate_5 ⟨Nat.zero_le _, Nat.zero_le _⟩ (fun s5 H locs hp hP hD hS => ?_)
    obtain ⟨hs, hok9⟩ := hp
    have es5 : s5 = cf_slow f st := hs
    have oks5 : fb_okC fl fr s5 := hok9
    exact W.vret hx hb hr (fun t ht hW => ⟨⟨s5, rfl, ⟨(by subst es5; simp only [cf_adjust, if_neg h1, fb_b_t, fb_b_f]), oks5⟩, by rw [ht]; exact hP, va_K.moved hW.alike hK, hD⟩, hS.F ht⟩) hS.2.2 zd_F_adjustRate_8
