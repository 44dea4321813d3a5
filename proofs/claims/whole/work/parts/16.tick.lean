/-! contracts (by program) -/
set_option maxHeartbeats 4000000 in
set_option maxRecDepth 100000 in
theorem c_X_remember (l : Launch) (D : va_G) (cA : Nat → ClassId) (ad : Nat → Nat → Nat) (LL : fb_L) (fl fr : Nat) (st : fb_S) (hL : fb_lvC LL fl fr) (hok : fb_okC fl fr st) : fb_Mv l zy_X_remember (zw_X_remember :: lw_gd) { frames := 1, cells := 0, slots := 0, locals := 22 } (fb_cC cA) D fb_cl (fb_tys cA) ad LL st [.ref (ad 0 0)] (fun st1 => st1 = cf_remember fl st ∧ fb_okC fl fr st1) := by
  have hfl : fl ≤ 12 := hL.2.2.2.2.2.2.1
  have hfr : fr ≤ 100 := hL.2.2.2.2.2.2.2
  intro sz
  refine Met.ofW (cc := zb_X_remember) (maxL := 5) (ret := none) (by decide) rfl ?_
  intro p e s m args below meth c s₁ B hml hv
  obtain ⟨rfl, hsz, hP, hK, hD0⟩ := hv
  have hx := B.exec
  have hb := B.bytes
  have hr := B.returns
  have hts := atoms_spec (ws := zw_X_remember :: lw_gd) B.pre
  have hT : ∀ w ∈ lw_gd, w.before _ s = true := fun w h => hts w (List.mem_cons_of_mem _ h)
  have hown : s.vm.findClass "PausedFabric" = some m.cls := findClass_of_methodNamed B.named
  have hlocks := B.notSynchronized
  subst hsz
  have hD := fb_D_self (sz := s.heap.size) hD0
  have hS : va_S (fb_A ad LL s.heap.size) s.heap s.heap [] := va_S.rf
  have hl := lv_entry ([.ref (ad 0 0)]) (n := 5) (Nat.le_of_ble_eq_true rfl)
  rw [lg_entry_eq]
  generalize (lg_sl ([.ref (ad 0 0)]) ++ List.replicate (5 - (lg_sl ([.ref (ad 0 0)])).length) Slot.unset).toArray = ls at hl ⊢
  have hl : lv_has ls 5 [(0, .ref (ad 0 0))] := hl
  refine lv_aload_n hx hb zd_X_remember_0 rfl (lv_at hl 0 rfl) ?_
  refine pw_get (C := "PausedFabric") (T := zT_X) (N := 11) hx hb hT zin_X hown hK hP (hL.2.1 0 (by decide)) rfl rfl 5 (by decide) (hT _ zi_119) (fun _ h9 => h9) rfl zd_X_remember_1 ?_
  refine lv_astore_n (lv' := [(1, .ref (ad 2 0)), (0, .ref (ad 0 0))]) hx hb zd_X_remember_4 rfl hl (by decide) rfl (fun ls hl => ?_)
  refine lv_aload_n hx hb zd_X_remember_5 rfl (lv_at hl 0 rfl) ?_
  refine pw_alen (v := 32) hx hb hK hP (hL.2.1 2 (by decide)) 1 rfl rfl rfl zd_X_remember_6 ?_
  refine lv_istore_n (lv' := [(2, .int 32), (1, .ref (ad 2 0)), (0, .ref (ad 0 0))]) hx hb zd_X_remember_7 rfl hl (by decide) rfl (fun ls hl => ?_)
  refine lv_iconst (v := 0) hx hb zd_X_remember_8 (by decide) ?_
  refine lv_istore_n (lv' := [(3, .int 0), (2, .int 32), (1, .ref (ad 2 0)), (0, .ref (ad 0 0))]) hx hb zd_X_remember_9 rfl hl (by decide) rfl (fun ls hl => ?_)
  refine pw_loop (n := 32) (Inv := fun (a : Nat) (H : Heap) (locs : List Loc) (ls : Array Slot) => ∃ (S1 : fb_S), (S1 = fb_it cf_memP a st) ∧ fb_okC fl fr S1 ∧ lv_has ls 5 [(0, .ref (ad 0 0)), (1, .ref (ad 2 0)), (2, .int 32), (3, .int (nI a))] ∧ va_P D fb_cl (fb_wl (fb_cC cA) ad S1 LL) H ∧ va_D (fb_A ad LL s.heap.size) (fb_wl (fb_cC cA) ad S1 LL) ∧ va_S (fb_A ad LL s.heap.size) s.heap H locs) ?_ ?_ ?_
  · skip
    intro a hia H locs ls hI iha
    obtain ⟨S1, hIa, okS1, hl, hP, hD, hS⟩ := hI
    refine lv_iload_n hx hb zd_X_remember_10 rfl (lv_at hl 3 rfl) ?_
    refine lv_iload_n hx hb zd_X_remember_11 rfl (lv_at hl 2 rfl) ?_
    refine lv_icmp_ge (tgt := 44) hx hb zd_X_remember_12 (by decide) (fun h9 => absurd h9 (fb_lge (by decide) hia (by omega))) (fun _ => ?_)
    refine lv_aload_n hx hb zd_X_remember_15 rfl (lv_at hl 1 rfl) ?_
    refine lv_iload_n hx hb zd_X_remember_16 rfl (lv_at hl 3 rfl) ?_
    refine pw_aald (r := some (ad 5 a)) hx hb hK hP (hL.2.1 2 (by decide)) 1 rfl rfl (vp_in_nI (by omega) (by decide)) (by rw [nI_clamp (by omega)]; exact if_pos (by omega)) zd_X_remember_17 ?_
    refine lv_astore (lv' := [(4, .ref (ad 5 a)), (0, .ref (ad 0 0)), (1, .ref (ad 2 0)), (2, .int 32), (3, .int (nI a))]) hx hb zd_X_remember_18 hl (by decide) rfl (fun ls hl => ?_)
    refine lv_aload hx hb zd_X_remember_20 (lv_at hl 0 rfl) ?_
    refine lv_aload hx hb zd_X_remember_22 (lv_at hl 0 rfl) ?_
    refine pw_get (C := "PausedFabric$Port") (T := zT_P) (N := 11) hx hb hT zin_P hown hK hP (hL.2.2.1 _ (by omega)).1 rfl rfl 9 (by decide) (hT _ zi_81) (fun _ h9 => h9) rfl zd_X_remember_24 ?_
    refine lv_aload hx hb zd_X_remember_27 (lv_at hl 0 rfl) ?_
    refine pw_get (C := "PausedFabric$Port") (T := zT_P) (N := 11) hx hb hT zin_P hown hK hP (hL.2.2.1 _ (by omega)).1 rfl rfl 8 (by decide) (hT _ zi_79) (fun _ h9 => h9) rfl zd_X_remember_29 ?_
    refine pw_Si (bytes := zb_X_withLatest) (maxL := 3) (ret := (some .int)) (As := [.int (S1 15 a), .int (S1 14 a)]) (rest := [.ref (ad 5 a)]) ⟨hx, hb, hml, hown, hT⟩ (c_X_withLatest l D cA (fb_cC cA) ad LL S1 (S1 15 a) (S1 14 a)) (cwS 2 hT (fb_gS zi_365 zi_366 zi_1 zc_X_withLatest) rfl rfl rfl (by decide +kernel) ⟨Nat.le_of_ble_eq_true rfl, Nat.le_of_ble_eq_true rfl⟩) hK hP hD hS rfl hl.1 rfl (lv_room (Nat.le_of_ble_eq_true rfl)) zd_X_remember_32 ⟨Nat.zero_le _, Nat.zero_le _⟩ (fun rx sx H locs hp hP hD hS => ?_)
    obtain ⟨hr9, hs, hok9⟩ := hp
    rw [hr9]
    rw [hs] at hP hD
    refine pw_put (C := "PausedFabric$Port") (T := zT_P) (N := 11) (ty := .int) (v := .int (cf_latest (S1 15 a) (S1 14 a))) hx hb hT zin_P zt_P ztok_P znm_P hown hK hP hD hS (hL.2.2.1 _ (by omega)).1 rfl rfl 9 (by decide) (hT _ zi_81) (fun _ h9 => h9) rfl (by decide +kernel) rfl rfl (Nat.le_of_ble_eq_true rfl) (fb_up S1 15 a (cf_latest (S1 15 a) (S1 14 a))) (ps_C15 _ _ _) (fb_hoC hL _ 15 _ _ ow_15 (ix_15 _)) zd_X_remember_35 (fun H locs hP hD hS => ?_)
    obtain ⟨s1, es1⟩ : ∃ z, z = fb_up S1 15 a (cf_latest (S1 15 a) (S1 14 a)) := ⟨_, rfl⟩
    have oks1 : fb_okC fl fr s1 := es1 ▸ (fb_okC_up okS1 trivial)
    rw [← es1] at hP hD
    refine lv_iinc (k := 4) (v := nI (a + 1)) (lv' := [(3, .int (nI (a + 1))), (4, .ref (ad 5 a)), (0, .ref (ad 0 0)), (1, .ref (ad 2 0)), (2, .int 32)]) hx hb zd_X_remember_38 hl rfl (nI_succ _).symm (by decide) rfl (fun ls hl => ?_)
    refine lv_goto (tgt := 10) hx hb zd_X_remember_41 (by decide) ?_
    exact iha _ _ _ ⟨s1, ((show s1 = cf_memP a S1 from by subst es1; rfl).trans (congrArg (cf_memP a) hIa)), oks1, (lv_sub hl [2, 3, 4, 0] rfl), hP, hD, hS⟩
  · skip
    intro H locs ls hI
    obtain ⟨S1, hIa, okS1, hl, hP, hD, hS⟩ := hI
    refine lv_iload_n hx hb zd_X_remember_10 rfl (lv_at hl 3 rfl) ?_
    refine lv_iload_n hx hb zd_X_remember_11 rfl (lv_at hl 2 rfl) ?_
    refine lv_icmp_ge (tgt := 44) hx hb zd_X_remember_12 (by decide) (fun _ => ?_) (fun h9 => absurd (fb_lle (by decide) (by omega)) h9)
    refine lv_iconst (v := 0) hx hb zd_X_remember_44 (by decide) ?_
    refine lv_istore_n (lv' := [(1, .int 0), (0, .ref (ad 0 0)), (2, .int 32), (3, .int (nI 32))]) hx hb zd_X_remember_45 rfl hl (by decide) rfl (fun ls hl => ?_)
    refine pw_loop (n := fl) (Inv := fun (b : Nat) (H : Heap) (locs : List Loc) (ls : Array Slot) => ∃ (S2 : fb_S), (S2 = fb_it cf_memF b S1) ∧ fb_okC fl fr S2 ∧ lv_has ls 5 [(0, .ref (ad 0 0)), (1, .int (nI b))] ∧ va_P D fb_cl (fb_wl (fb_cC cA) ad S2 LL) H ∧ va_D (fb_A ad LL s.heap.size) (fb_wl (fb_cC cA) ad S2 LL) ∧ va_S (fb_A ad LL s.heap.size) s.heap H locs) ?_ ?_ ?_
    · skip
      intro b hib H locs ls hI ihb
      obtain ⟨S2, hIb, okS2, hl, hP, hD, hS⟩ := hI
      refine lv_iload_n hx hb zd_X_remember_46 rfl (lv_at hl 1 rfl) ?_
      refine lv_aload_n hx hb zd_X_remember_47 rfl (lv_at hl 0 rfl) ?_
      refine pw_get (C := "PausedFabric") (T := zT_X) (N := 11) hx hb hT zin_X hown hK hP (hL.2.1 0 (by decide)) rfl rfl 8 (by decide) (hT _ zi_122) (fun _ h9 => h9) rfl zd_X_remember_48 ?_
      refine lv_icmp_ge (tgt := 87) hx hb zd_X_remember_51 (by decide) (fun h9 => absurd h9 (fb_lge (okS2 4 0 rfl) hib (by omega))) (fun _ => ?_)
      refine lv_aload_n hx hb zd_X_remember_54 rfl (lv_at hl 0 rfl) ?_
      refine pw_get (C := "PausedFabric") (T := zT_X) (N := 11) hx hb hT zin_X hown hK hP (hL.2.1 0 (by decide)) rfl rfl 6 (by decide) (hT _ zi_120) (fun _ h9 => h9) rfl zd_X_remember_55 ?_
      refine lv_iload_n hx hb zd_X_remember_58 rfl (lv_at hl 1 rfl) ?_
      refine pw_aald (r := some (ad 6 b)) hx hb hK hP (hL.2.1 3 (by decide)) 2 rfl rfl (vp_in_nI (by omega) (by decide)) (fb_liv8 okS2 hib (by omega)) zd_X_remember_59 ?_
      refine lv_astore_n (lv' := [(2, .ref (ad 6 b)), (0, .ref (ad 0 0)), (1, .int (nI b))]) hx hb zd_X_remember_60 rfl hl (by decide) rfl (fun ls hl => ?_)
      refine lv_aload_n hx hb zd_X_remember_61 rfl (lv_at hl 0 rfl) ?_
      refine lv_aload_n hx hb zd_X_remember_62 rfl (lv_at hl 0 rfl) ?_
      refine pw_get (C := "PausedFabric$Flow") (T := zT_F) (N := 12) hx hb hT zin_F hown hK hP (hL.2.2.2.2.1 _ hib).1 rfl rfl 8 (by decide) (hT _ zi_188) (fun _ h9 => h9) rfl zd_X_remember_63 ?_
      refine lv_aload_n hx hb zd_X_remember_66 rfl (lv_at hl 0 rfl) ?_
      refine pw_get (C := "PausedFabric$Flow") (T := zT_F) (N := 12) hx hb hT zin_F hown hK hP (hL.2.2.2.2.1 _ hib).1 rfl rfl 7 (by decide) (hT _ zi_186) (fun _ h9 => h9) rfl zd_X_remember_67 ?_
      refine pw_Si (bytes := zb_X_withLatest) (maxL := 3) (ret := (some .int)) (As := [.int (S2 29 b), .int (S2 28 b)]) (rest := [.ref (ad 6 b)]) ⟨hx, hb, hml, hown, hT⟩ (c_X_withLatest l D cA (fb_cC cA) ad LL S2 (S2 29 b) (S2 28 b)) (cwS 2 hT (fb_gS zi_365 zi_366 zi_1 zc_X_withLatest) rfl rfl rfl (by decide +kernel) ⟨Nat.le_of_ble_eq_true rfl, Nat.le_of_ble_eq_true rfl⟩) hK hP hD hS rfl hl.1 rfl (lv_room (Nat.le_of_ble_eq_true rfl)) zd_X_remember_70 ⟨Nat.zero_le _, Nat.zero_le _⟩ (fun rx sx H locs hp hP hD hS => ?_)
      obtain ⟨hr9, hs, hok9⟩ := hp
      rw [hr9]
      rw [hs] at hP hD
      refine pw_put (C := "PausedFabric$Flow") (T := zT_F) (N := 12) (ty := .int) (v := .int (cf_latest (S2 29 b) (S2 28 b))) hx hb hT zin_F zt_F ztok_F znm_F hown hK hP hD hS (hL.2.2.2.2.1 _ hib).1 rfl rfl 8 (by decide) (hT _ zi_188) (fun _ h9 => h9) rfl (by decide +kernel) rfl rfl (Nat.le_of_ble_eq_true rfl) (fb_up S2 29 b (cf_latest (S2 29 b) (S2 28 b))) (ps_C29 _ _ _) (fb_hoC hL _ 29 _ _ ow_29 (ix_29 _)) zd_X_remember_73 (fun H locs hP hD hS => ?_)
      obtain ⟨s2, es2⟩ : ∃ z, z = fb_up S2 29 b (cf_latest (S2 29 b) (S2 28 b)) := ⟨_, rfl⟩
      have oks2 : fb_okC fl fr s2 := es2 ▸ (fb_okC_up okS2 trivial)
      rw [← es2] at hP hD
      refine lv_aload_n hx hb zd_X_remember_76 rfl (lv_at hl 0 rfl) ?_
      refine lv_iconst (v := 0) hx hb zd_X_remember_77 (by decide) ?_
      refine pw_put (C := "PausedFabric$Flow") (T := zT_F) (N := 12) (ty := .boolean) (v := .int 0) hx hb hT zin_F zt_F ztok_F znm_F hown hK hP hD hS (hL.2.2.2.2.1 _ hib).1 rfl rfl 7 (by decide) (hT _ zi_186) (fun _ h9 => h9) rfl (by decide +kernel) rfl rfl (Nat.le_of_ble_eq_true rfl) (fb_up s2 28 b 0) (ps_C28 _ _ _) (fb_hoC hL _ 28 _ _ ow_28 (ix_28 _)) zd_X_remember_78 (fun H locs hP hD hS => ?_)
      obtain ⟨s3, es3⟩ : ∃ z, z = fb_up s2 28 b 0 := ⟨_, rfl⟩
      have oks3 : fb_okC fl fr s3 := es3 ▸ (fb_okC_up oks2 (Or.inl rfl))
      rw [← es3] at hP hD
      refine lv_iinc (k := 2) (v := nI (b + 1)) (lv' := [(1, .int (nI (b + 1))), (2, .ref (ad 6 b)), (0, .ref (ad 0 0))]) hx hb zd_X_remember_81 hl rfl (nI_succ _).symm (by decide) rfl (fun ls hl => ?_)
      refine lv_goto (tgt := 46) hx hb zd_X_remember_84 (by decide) ?_
      exact ihb _ _ _ ⟨s3, ((show s3 = cf_memF b S2 from by subst es3 es2; rfl).trans (congrArg (cf_memF b) hIb)), oks3, (lv_sub hl [2, 0] rfl), hP, hD, hS⟩
    · skip
      intro H locs ls hI
      obtain ⟨S2, hIb, okS2, hl, hP, hD, hS⟩ := hI
      refine lv_iload_n hx hb zd_X_remember_46 rfl (lv_at hl 1 rfl) ?_
      refine lv_aload_n hx hb zd_X_remember_47 rfl (lv_at hl 0 rfl) ?_
      refine pw_get (C := "PausedFabric") (T := zT_X) (N := 11) hx hb hT zin_X hown hK hP (hL.2.1 0 (by decide)) rfl rfl 8 (by decide) (hT _ zi_122) (fun _ h9 => h9) rfl zd_X_remember_48 ?_
      refine lv_icmp_ge (tgt := 87) hx hb zd_X_remember_51 (by decide) (fun _ => ?_) (fun h9 => absurd (fb_lle (okS2 4 0 rfl) (by omega)) h9)
      exact W.vret hx hb hr (fun t ht hW => ⟨⟨S2, rfl, ⟨(by subst hIb hIa; simp only [cf_remember, fb_b_t, fb_b_f]), okS2⟩, by rw [ht]; exact hP, va_K.moved hW.alike hK, hD⟩, hS.F ht⟩) hS.2.2 zd_X_remember_87
    · skip
      exact ⟨S1, rfl, okS1, (lv_sub hl [1, 0] rfl), hP, hD, hS⟩
  · skip
    exact ⟨st, rfl, hok, (lv_sub hl [3, 2, 1, 0] rfl), hP, hD, hS⟩

set_option maxHeartbeats 4000000 in
set_option maxRecDepth 100000 in
theorem c_X_makeTick (l : Launch) (D : va_G) (cA : Nat → ClassId) (ad : Nat → Nat → Nat) (LL : fb_L) (fl fr : Nat) (st : fb_S) (hL : fb_lvC LL fl fr) (hok : fb_okC fl fr st) : fb_Mi l zy_X_makeTick (zw_X_makeTick :: lw_gd) { frames := 4, cells := 0, slots := 0, locals := 88 } (fb_cC cA) D fb_cl (fb_tys cA) ad LL st [.ref (ad 0 0)] (fun rr st1 => rr = cf_tick1A fl st ∧ st1 = cf_tick1 fl st ∧ fb_okC fl fr st1) := by
  have hfl : fl ≤ 12 := hL.2.2.2.2.2.2.1
  have hfr : fr ≤ 100 := hL.2.2.2.2.2.2.2
  intro sz
  refine Met.ofW (cc := zb_X_makeTick) (maxL := 6) (ret := (some .int)) (by decide) rfl ?_
  intro p e s m args below meth c s₁ B hml hv
  obtain ⟨rfl, hsz, hP, hK, hD0⟩ := hv
  have hx := B.exec
  have hb := B.bytes
  have hr := B.returns
  have hts := atoms_spec (ws := zw_X_makeTick :: lw_gd) B.pre
  have hT : ∀ w ∈ lw_gd, w.before _ s = true := fun w h => hts w (List.mem_cons_of_mem _ h)
  have hown : s.vm.findClass "PausedFabric" = some m.cls := findClass_of_methodNamed B.named
  have hlocks := B.notSynchronized
  subst hsz
  have hD := fb_D_self (sz := s.heap.size) hD0
  have hS : va_S (fb_A ad LL s.heap.size) s.heap s.heap [] := va_S.rf
  have hl := lv_entry ([.ref (ad 0 0)]) (n := 6) (Nat.le_of_ble_eq_true rfl)
  rw [lg_entry_eq]
  generalize (lg_sl ([.ref (ad 0 0)]) ++ List.replicate (6 - (lg_sl ([.ref (ad 0 0)])).length) Slot.unset).toArray = ls at hl ⊢
  have hl : lv_has ls 6 [(0, .ref (ad 0 0))] := hl
  refine lv_aload_n hx hb zd_X_makeTick_0 rfl (lv_at hl 0 rfl) ?_
  refine lv_dup hx hb zd_X_makeTick_1 rfl ?_
  refine pw_get (C := "PausedFabric") (T := zT_X) (N := 11) hx hb hT zin_X hown hK hP (hL.2.1 0 (by decide)) rfl rfl 10 (by decide) (hT _ zi_124) (fun _ h9 => h9) rfl zd_X_makeTick_2 ?_
  refine lv_iconst (v := 1) hx hb zd_X_makeTick_5 (by decide) ?_
  refine lv_iadd hx hb zd_X_makeTick_6 ?_
  refine pw_put (C := "PausedFabric") (T := zT_X) (N := 11) (ty := .int) (v := .int ((st 6 0) + 1)) hx hb hT zin_X zt_X ztok_X znm_X hown hK hP hD hS (hL.2.1 0 (by decide)) rfl rfl 10 (by decide) (hT _ zi_124) (fun _ h9 => h9) rfl (by decide +kernel) rfl rfl (Nat.le_of_ble_eq_true rfl) (fb_up st 6 0 ((st 6 0) + 1)) (ps_C6 _ _) (fb_hoC hL _ 6 _ _ ow_6 (ix_6 _)) zd_X_makeTick_7 (fun H locs hP hD hS => ?_)
  obtain ⟨s1, es1⟩ : ∃ z, z = fb_up st 6 0 ((st 6 0) + 1) := ⟨_, rfl⟩
  have oks1 : fb_okC fl fr s1 := es1 ▸ (fb_okC_up hok trivial)
  rw [← es1] at hP hD
  refine lv_aload_n hx hb zd_X_makeTick_10 rfl (lv_at hl 0 rfl) ?_
  refine pw_get (C := "PausedFabric") (T := zT_X) (N := 11) hx hb hT zin_X hown hK hP (hL.2.1 0 (by decide)) rfl rfl 5 (by decide) (hT _ zi_119) (fun _ h9 => h9) rfl zd_X_makeTick_11 ?_
  refine lv_astore_n (lv' := [(1, .ref (ad 2 0)), (0, .ref (ad 0 0))]) hx hb zd_X_makeTick_14 rfl hl (by decide) rfl (fun ls hl => ?_)
  refine lv_aload_n hx hb zd_X_makeTick_15 rfl (lv_at hl 0 rfl) ?_
  refine pw_alen (v := 32) hx hb hK hP (hL.2.1 2 (by decide)) 1 rfl rfl rfl zd_X_makeTick_16 ?_
  refine lv_istore_n (lv' := [(2, .int 32), (1, .ref (ad 2 0)), (0, .ref (ad 0 0))]) hx hb zd_X_makeTick_17 rfl hl (by decide) rfl (fun ls hl => ?_)
  refine lv_iconst (v := 0) hx hb zd_X_makeTick_18 (by decide) ?_
  refine lv_istore_n (lv' := [(3, .int 0), (2, .int 32), (1, .ref (ad 2 0)), (0, .ref (ad 0 0))]) hx hb zd_X_makeTick_19 rfl hl (by decide) rfl (fun ls hl => ?_)
  refine pw_loop (n := 32) (Inv := fun (a : Nat) (H : Heap) (locs : List Loc) (ls : Array Slot) => ∃ (S1 : fb_S), (S1 = fb_it cf_pause1 a s1) ∧ fb_okC fl fr S1 ∧ lv_has ls 6 [(0, .ref (ad 0 0)), (1, .ref (ad 2 0)), (2, .int 32), (3, .int (nI a))] ∧ va_P D fb_cl (fb_wl (fb_cC cA) ad S1 LL) H ∧ va_D (fb_A ad LL s.heap.size) (fb_wl (fb_cC cA) ad S1 LL) ∧ va_S (fb_A ad LL s.heap.size) s.heap H locs) ?_ ?_ ?_
  · skip
    intro a hia H locs ls hI iha
    obtain ⟨S1, hIa, okS1, hl, hP, hD, hS⟩ := hI
    refine lv_iload_n hx hb zd_X_makeTick_20 rfl (lv_at hl 3 rfl) ?_
    refine lv_iload_n hx hb zd_X_makeTick_21 rfl (lv_at hl 2 rfl) ?_
    refine lv_icmp_ge (tgt := 50) hx hb zd_X_makeTick_22 (by decide) (fun h9 => absurd h9 (fb_lge (by decide) hia (by omega))) (fun _ => ?_)
    refine lv_aload_n hx hb zd_X_makeTick_25 rfl (lv_at hl 1 rfl) ?_
    refine lv_iload_n hx hb zd_X_makeTick_26 rfl (lv_at hl 3 rfl) ?_
    refine pw_aald (r := some (ad 5 a)) hx hb hK hP (hL.2.1 2 (by decide)) 1 rfl rfl (vp_in_nI (by omega) (by decide)) (by rw [nI_clamp (by omega)]; exact if_pos (by omega)) zd_X_makeTick_27 ?_
    refine lv_astore (lv' := [(4, .ref (ad 5 a)), (0, .ref (ad 0 0)), (1, .ref (ad 2 0)), (2, .int 32), (3, .int (nI a))]) hx hb zd_X_makeTick_28 hl (by decide) rfl (fun ls hl => ?_)
    refine lv_aload hx hb zd_X_makeTick_30 (lv_at hl 0 rfl) ?_
    refine lv_aload_n hx hb zd_X_makeTick_32 rfl (lv_at hl 1 rfl) ?_
    refine lv_aload hx hb zd_X_makeTick_33 (lv_at hl 0 rfl) ?_
    refine pw_get (C := "PausedFabric$Port") (T := zT_P) (N := 11) hx hb hT zin_P hown hK hP (hL.2.2.1 _ (by omega)).1 rfl rfl 9 (by decide) (hT _ zi_81) (fun _ h9 => h9) rfl zd_X_makeTick_35 ?_
    refine pw_Vi (bytes := zb_X_wasSo) (maxL := 2) (ret := (some .boolean)) (As := [.int (S1 15 a)]) (rest := [.ref (ad 5 a)]) ⟨hx, hb, hml, hown, hT⟩ (c_X_wasSo l D cA ad LL fl fr S1 hL okS1 (S1 15 a)) (cwV 1 hT (fb_gV zi_298 zi_300 zs_X_wasSo zi_1 zc_X_wasSo) rfl rfl rfl (by decide +kernel) ⟨Nat.le_of_ble_eq_true rfl, Nat.le_of_ble_eq_true rfl⟩) hK hP hD hS (fb_recv hK hP (hL.2.1 0 (by decide)) rfl rfl) rfl hl.1 rfl (lv_room (Nat.le_of_ble_eq_true rfl)) zd_X_makeTick_38 ⟨Nat.zero_le _, Nat.zero_le _⟩ (fun rx sx H locs hp hP hD hS => ?_)
    obtain ⟨hr9, hs, hok9⟩ := hp
    rw [hr9]
    rw [hs] at hP hD
    refine pw_put (C := "PausedFabric$Port") (T := zT_P) (N := 11) (ty := .boolean) (v := .int (fb_b (cf_was S1 (S1 15 a)))) hx hb hT zin_P zt_P ztok_P znm_P hown hK hP hD hS (hL.2.2.1 _ (by omega)).1 rfl rfl 10 (by decide) (hT _ zi_83) (fun _ h9 => h9) rfl (by decide +kernel) (fb_nz (fb_b01 _)) (fb_fz (fb_b01 _)) (Nat.le_of_ble_eq_true rfl) (fb_up S1 16 a (fb_b (cf_was S1 (S1 15 a)))) (ps_C16 _ _ _) (fb_hoC hL _ 16 _ _ ow_16 (ix_16 _)) zd_X_makeTick_41 (fun H locs hP hD hS => ?_)
    obtain ⟨s2, es2⟩ : ∃ z, z = fb_up S1 16 a (fb_b (cf_was S1 (S1 15 a))) := ⟨_, rfl⟩
    have oks2 : fb_okC fl fr s2 := es2 ▸ (fb_okC_up okS1 (fb_b01 _))
    rw [← es2] at hP hD
    refine lv_iinc (k := 4) (v := nI (a + 1)) (lv' := [(3, .int (nI (a + 1))), (4, .ref (ad 5 a)), (0, .ref (ad 0 0)), (1, .ref (ad 2 0)), (2, .int 32)]) hx hb zd_X_makeTick_44 hl rfl (nI_succ _).symm (by decide) rfl (fun ls hl => ?_)
    refine lv_goto (tgt := 20) hx hb zd_X_makeTick_47 (by decide) ?_
    exact iha _ _ _ ⟨s2, ((show s2 = cf_pause1 a S1 from by subst es2; rfl).trans (congrArg (cf_pause1 a) hIa)), oks2, (lv_sub hl [2, 3, 4, 0] rfl), hP, hD, hS⟩
  · skip
    intro H locs ls hI
    obtain ⟨S1, hIa, okS1, hl, hP, hD, hS⟩ := hI
    refine lv_iload_n hx hb zd_X_makeTick_20 rfl (lv_at hl 3 rfl) ?_
    refine lv_iload_n hx hb zd_X_makeTick_21 rfl (lv_at hl 2 rfl) ?_
    refine lv_icmp_ge (tgt := 50) hx hb zd_X_makeTick_22 (by decide) (fun _ => ?_) (fun h9 => absurd (fb_lle (by decide) (by omega)) h9)
    refine lv_aload_n hx hb zd_X_makeTick_50 rfl (lv_at hl 0 rfl) ?_
    refine pw_get (C := "PausedFabric") (T := zT_X) (N := 11) hx hb hT zin_X hown hK hP (hL.2.1 0 (by decide)) rfl rfl 5 (by decide) (hT _ zi_119) (fun _ h9 => h9) rfl zd_X_makeTick_51 ?_
    refine lv_astore_n (lv' := [(1, .ref (ad 2 0)), (0, .ref (ad 0 0)), (2, .int 32), (3, .int (nI 32))]) hx hb zd_X_makeTick_54 rfl hl (by decide) rfl (fun ls hl => ?_)
    refine lv_aload_n hx hb zd_X_makeTick_55 rfl (lv_at hl 0 rfl) ?_
    refine pw_alen (v := 32) hx hb hK hP (hL.2.1 2 (by decide)) 1 rfl rfl rfl zd_X_makeTick_56 ?_
    refine lv_istore_n (lv' := [(2, .int 32), (1, .ref (ad 2 0)), (0, .ref (ad 0 0)), (3, .int (nI 32))]) hx hb zd_X_makeTick_57 rfl hl (by decide) rfl (fun ls hl => ?_)
    refine lv_iconst (v := 0) hx hb zd_X_makeTick_58 (by decide) ?_
    refine lv_istore_n (lv' := [(3, .int 0), (2, .int 32), (1, .ref (ad 2 0)), (0, .ref (ad 0 0))]) hx hb zd_X_makeTick_59 rfl hl (by decide) rfl (fun ls hl => ?_)
    refine pw_loop (n := 32) (Inv := fun (b : Nat) (H : Heap) (locs : List Loc) (ls : Array Slot) => ∃ (S2 : fb_S), (S2 = fb_it cf_endSending b S1) ∧ fb_okC fl fr S2 ∧ lv_has ls 6 [(0, .ref (ad 0 0)), (1, .ref (ad 2 0)), (2, .int 32), (3, .int (nI b))] ∧ va_P D fb_cl (fb_wl (fb_cC cA) ad S2 LL) H ∧ va_D (fb_A ad LL s.heap.size) (fb_wl (fb_cC cA) ad S2 LL) ∧ va_S (fb_A ad LL s.heap.size) s.heap H locs) ?_ ?_ ?_
    · skip
      intro b hib H locs ls hI ihb
      obtain ⟨S2, hIb, okS2, hl, hP, hD, hS⟩ := hI
      refine lv_iload_n hx hb zd_X_makeTick_60 rfl (lv_at hl 3 rfl) ?_
      refine lv_iload_n hx hb zd_X_makeTick_61 rfl (lv_at hl 2 rfl) ?_
      refine lv_icmp_ge (tgt := 82) hx hb zd_X_makeTick_62 (by decide) (fun h9 => absurd h9 (fb_lge (by decide) hib (by omega))) (fun _ => ?_)
      refine lv_aload_n hx hb zd_X_makeTick_65 rfl (lv_at hl 1 rfl) ?_
      refine lv_iload_n hx hb zd_X_makeTick_66 rfl (lv_at hl 3 rfl) ?_
      refine pw_aald (r := some (ad 5 b)) hx hb hK hP (hL.2.1 2 (by decide)) 1 rfl rfl (vp_in_nI (by omega) (by decide)) (by rw [nI_clamp (by omega)]; exact if_pos (by omega)) zd_X_makeTick_67 ?_
      refine lv_astore (lv' := [(4, .ref (ad 5 b)), (0, .ref (ad 0 0)), (1, .ref (ad 2 0)), (2, .int 32), (3, .int (nI b))]) hx hb zd_X_makeTick_68 hl (by decide) rfl (fun ls hl => ?_)
      refine lv_aload_n hx hb zd_X_makeTick_70 rfl (lv_at hl 1 rfl) ?_
      refine lv_aload hx hb zd_X_makeTick_71 (lv_at hl 0 rfl) ?_
      refine pw_Vv (bytes := zb_X_endSending) (maxL := 3) (ret := none) (As := [.ref (ad 5 b)]) (rest := []) ⟨hx, hb, hml, hown, hT⟩ (c_X_endSending l D cA ad LL fl fr S2 hL okS2 b (by omega)) (cwV 1 hT (fb_gV zi_302 zi_304 zs_X_endSending zi_1 zc_X_endSending) rfl rfl rfl (by decide +kernel) ⟨Nat.le_of_ble_eq_true rfl, Nat.le_of_ble_eq_true rfl⟩) hK hP hD hS (fb_recv hK hP (hL.2.1 0 (by decide)) rfl rfl) rfl hl.1 rfl (lv_room (Nat.le_of_ble_eq_true rfl)) zd_X_makeTick_73 ⟨Nat.zero_le _, Nat.zero_le _⟩ (fun s3 H locs hp hP hD hS => ?_)
      obtain ⟨hs, hok9⟩ := hp
      have es3 : s3 = cf_endSending b S2 := hs
      have oks3 : fb_okC fl fr s3 := hok9
      refine lv_iinc (k := 4) (v := nI (b + 1)) (lv' := [(3, .int (nI (b + 1))), (4, .ref (ad 5 b)), (0, .ref (ad 0 0)), (1, .ref (ad 2 0)), (2, .int 32)]) hx hb zd_X_makeTick_76 hl rfl (nI_succ _).symm (by decide) rfl (fun ls hl => ?_)
      refine lv_goto (tgt := 60) hx hb zd_X_makeTick_79 (by decide) ?_
      exact ihb _ _ _ ⟨s3, ((show s3 = cf_endSending b S2 from by subst es3; rfl).trans (congrArg (cf_endSending b) hIb)), oks3, (lv_sub hl [2, 3, 4, 0] rfl), hP, hD, hS⟩
    · skip
      intro H locs ls hI
      obtain ⟨S2, hIb, okS2, hl, hP, hD, hS⟩ := hI
      refine lv_iload_n hx hb zd_X_makeTick_60 rfl (lv_at hl 3 rfl) ?_
      refine lv_iload_n hx hb zd_X_makeTick_61 rfl (lv_at hl 2 rfl) ?_
      refine lv_icmp_ge (tgt := 82) hx hb zd_X_makeTick_62 (by decide) (fun _ => ?_) (fun h9 => absurd (fb_lle (by decide) (by omega)) h9)
      refine lv_iconst (v := 0) hx hb zd_X_makeTick_82 (by decide) ?_
      refine lv_istore_n (lv' := [(1, .int 0), (0, .ref (ad 0 0)), (2, .int 32), (3, .int (nI 32))]) hx hb zd_X_makeTick_83 rfl hl (by decide) rfl (fun ls hl => ?_)
      refine pw_loop (n := fl) (Inv := fun (c1 : Nat) (H : Heap) (locs : List Loc) (ls : Array Slot) => ∃ (S3 : fb_S), (S3 = fb_it cf_rate1 c1 S2) ∧ fb_okC fl fr S3 ∧ lv_has ls 6 [(0, .ref (ad 0 0)), (1, .int (nI c1))] ∧ va_P D fb_cl (fb_wl (fb_cC cA) ad S3 LL) H ∧ va_D (fb_A ad LL s.heap.size) (fb_wl (fb_cC cA) ad S3 LL) ∧ va_S (fb_A ad LL s.heap.size) s.heap H locs) ?_ ?_ ?_
      · skip
        intro c1 hic1 H locs ls hI ihc1
        obtain ⟨S3, hIc1, okS3, hl, hP, hD, hS⟩ := hI
        refine lv_iload_n hx hb zd_X_makeTick_84 rfl (lv_at hl 1 rfl) ?_
        refine lv_aload_n hx hb zd_X_makeTick_85 rfl (lv_at hl 0 rfl) ?_
        refine pw_get (C := "PausedFabric") (T := zT_X) (N := 11) hx hb hT zin_X hown hK hP (hL.2.1 0 (by decide)) rfl rfl 8 (by decide) (hT _ zi_122) (fun _ h9 => h9) rfl zd_X_makeTick_86 ?_
        refine lv_icmp_ge (tgt := 120) hx hb zd_X_makeTick_89 (by decide) (fun h9 => absurd h9 (fb_lge (okS3 4 0 rfl) hic1 (by omega))) (fun _ => ?_)
        refine lv_aload_n hx hb zd_X_makeTick_92 rfl (lv_at hl 0 rfl) ?_
        refine pw_get (C := "PausedFabric") (T := zT_X) (N := 11) hx hb hT zin_X hown hK hP (hL.2.1 0 (by decide)) rfl rfl 6 (by decide) (hT _ zi_120) (fun _ h9 => h9) rfl zd_X_makeTick_93 ?_
        refine lv_iload_n hx hb zd_X_makeTick_96 rfl (lv_at hl 1 rfl) ?_
        refine pw_aald (r := some (ad 6 c1)) hx hb hK hP (hL.2.1 3 (by decide)) 2 rfl rfl (vp_in_nI (by omega) (by decide)) (fb_liv8 okS3 hic1 (by omega)) zd_X_makeTick_97 ?_
        refine lv_aload_n hx hb zd_X_makeTick_98 rfl (lv_at hl 0 rfl) ?_
        refine lv_aload_n hx hb zd_X_makeTick_99 rfl (lv_at hl 0 rfl) ?_
        refine pw_get (C := "PausedFabric") (T := zT_X) (N := 11) hx hb hT zin_X hown hK hP (hL.2.1 0 (by decide)) rfl rfl 6 (by decide) (hT _ zi_120) (fun _ h9 => h9) rfl zd_X_makeTick_100 ?_
        refine lv_iload_n hx hb zd_X_makeTick_103 rfl (lv_at hl 1 rfl) ?_
        refine pw_aald (r := some (ad 6 c1)) hx hb hK hP (hL.2.1 3 (by decide)) 2 rfl rfl (vp_in_nI (by omega) (by decide)) (fb_liv8 okS3 hic1 (by omega)) zd_X_makeTick_104 ?_
        refine pw_get (C := "PausedFabric$Flow") (T := zT_F) (N := 12) hx hb hT zin_F hown hK hP (hL.2.2.2.2.1 _ hic1).1 rfl rfl 8 (by decide) (hT _ zi_188) (fun _ h9 => h9) rfl zd_X_makeTick_105 ?_
        refine pw_Vi (bytes := zb_X_wasSo) (maxL := 2) (ret := (some .boolean)) (As := [.int (S3 29 c1)]) (rest := [.ref (ad 6 c1)]) ⟨hx, hb, hml, hown, hT⟩ (c_X_wasSo l D cA ad LL fl fr S3 hL okS3 (S3 29 c1)) (cwV 1 hT (fb_gV zi_298 zi_300 zs_X_wasSo zi_1 zc_X_wasSo) rfl rfl rfl (by decide +kernel) ⟨Nat.le_of_ble_eq_true rfl, Nat.le_of_ble_eq_true rfl⟩) hK hP hD hS (fb_recv hK hP (hL.2.1 0 (by decide)) rfl rfl) rfl hl.1 rfl (lv_room (Nat.le_of_ble_eq_true rfl)) zd_X_makeTick_108 ⟨Nat.zero_le _, Nat.zero_le _⟩ (fun rx sx H locs hp hP hD hS => ?_)
        obtain ⟨hr9, hs, hok9⟩ := hp
        rw [hr9]
        rw [hs] at hP hD
        refine pw_Vv (bytes := zb_F_adjustRate) (maxL := 2) (ret := none) (As := [.int (fb_b (cf_was S3 (S3 29 c1)))]) (rest := []) ⟨hx, hb, hml, hown, hT⟩ (c_F_adjustRate l D cA ad LL fl fr S3 hL okS3 c1 hic1 (fb_b (cf_was S3 (S3 29 c1)))) (cwV 1 hT (fb_gV zi_310 zi_311 zi_312 zi_6 zc_F_adjustRate) rfl rfl rfl (by decide +kernel) ⟨Nat.le_of_ble_eq_true rfl, Nat.le_of_ble_eq_true rfl⟩) hK hP hD hS (fb_recv hK hP (hL.2.2.2.2.1 _ hic1).1 rfl rfl) rfl hl.1 rfl (lv_room (Nat.le_of_ble_eq_true rfl)) zd_X_makeTick_111 ⟨Nat.zero_le _, Nat.zero_le _⟩ (fun s4 H locs hp hP hD hS => ?_)
        obtain ⟨hs, hok9⟩ := hp
        have es4 : s4 = cf_adjust c1 (fb_b (cf_was S3 (S3 29 c1))) S3 := hs
        have oks4 : fb_okC fl fr s4 := hok9
        refine lv_iinc (k := 1) (v := nI (c1 + 1)) (lv' := [(1, .int (nI (c1 + 1))), (0, .ref (ad 0 0))]) hx hb zd_X_makeTick_114 hl rfl (nI_succ _).symm (by decide) rfl (fun ls hl => ?_)
        refine lv_goto (tgt := 84) hx hb zd_X_makeTick_117 (by decide) ?_
        exact ihc1 _ _ _ ⟨s4, ((show s4 = cf_rate1 c1 S3 from by subst es4; rfl).trans (congrArg (cf_rate1 c1) hIc1)), oks4, (lv_sub hl [1, 0] rfl), hP, hD, hS⟩
      · skip
        intro H locs ls hI
        obtain ⟨S3, hIc1, okS3, hl, hP, hD, hS⟩ := hI
        refine lv_iload_n hx hb zd_X_makeTick_84 rfl (lv_at hl 1 rfl) ?_
        refine lv_aload_n hx hb zd_X_makeTick_85 rfl (lv_at hl 0 rfl) ?_
        refine pw_get (C := "PausedFabric") (T := zT_X) (N := 11) hx hb hT zin_X hown hK hP (hL.2.1 0 (by decide)) rfl rfl 8 (by decide) (hT _ zi_122) (fun _ h9 => h9) rfl zd_X_makeTick_86 ?_
        refine lv_icmp_ge (tgt := 120) hx hb zd_X_makeTick_89 (by decide) (fun _ => ?_) (fun h9 => absurd (fb_lle (okS3 4 0 rfl) (by omega)) h9)
        refine lv_iconst (v := 0) hx hb zd_X_makeTick_120 (by decide) ?_
        refine lv_istore_n (lv' := [(1, .int 0), (0, .ref (ad 0 0))]) hx hb zd_X_makeTick_121 rfl hl (by decide) rfl (fun ls hl => ?_)
        refine lv_aload_n hx hb zd_X_makeTick_122 rfl (lv_at hl 1 rfl) ?_
        refine pw_get (C := "PausedFabric") (T := zT_X) (N := 11) hx hb hT zin_X hown hK hP (hL.2.1 0 (by decide)) rfl rfl 5 (by decide) (hT _ zi_119) (fun _ h9 => h9) rfl zd_X_makeTick_123 ?_
        refine lv_astore_n (lv' := [(2, .ref (ad 2 0)), (1, .int 0), (0, .ref (ad 0 0))]) hx hb zd_X_makeTick_126 rfl hl (by decide) rfl (fun ls hl => ?_)
        refine lv_aload_n hx hb zd_X_makeTick_127 rfl (lv_at hl 0 rfl) ?_
        refine pw_alen (v := 32) hx hb hK hP (hL.2.1 2 (by decide)) 1 rfl rfl rfl zd_X_makeTick_128 ?_
        refine lv_istore_n (lv' := [(3, .int 32), (2, .ref (ad 2 0)), (1, .int 0), (0, .ref (ad 0 0))]) hx hb zd_X_makeTick_129 rfl hl (by decide) rfl (fun ls hl => ?_)
        refine lv_iconst (v := 0) hx hb zd_X_makeTick_130 (by decide) ?_
        refine lv_istore (lv' := [(4, .int 0), (3, .int 32), (2, .ref (ad 2 0)), (1, .int 0), (0, .ref (ad 0 0))]) hx hb zd_X_makeTick_131 hl (by decide) rfl (fun ls hl => ?_)
        refine pw_loop (n := 32) (Inv := fun (d1 : Nat) (H : Heap) (locs : List Loc) (ls : Array Slot) => ∃ (S4 : fb_S) (x9 : Int32), x9 = cf_arr S3 d1 ∧ (S4 = fb_it cf_deliver d1 S3) ∧ fb_okC fl fr S4 ∧ lv_has ls 6 [(0, .ref (ad 0 0)), (1, .int x9), (2, .ref (ad 2 0)), (3, .int 32), (4, .int (nI d1))] ∧ va_P D fb_cl (fb_wl (fb_cC cA) ad S4 LL) H ∧ va_D (fb_A ad LL s.heap.size) (fb_wl (fb_cC cA) ad S4 LL) ∧ va_S (fb_A ad LL s.heap.size) s.heap H locs) ?_ ?_ ?_
        · skip
          intro d1 hid1 H locs ls hI ihd1
          obtain ⟨S4, x9, hx9, hId1, okS4, hl, hP, hD, hS⟩ := hI
          subst hx9
          refine lv_iload hx hb zd_X_makeTick_133 (lv_at hl 4 rfl) ?_
          refine lv_iload_n hx hb zd_X_makeTick_135 rfl (lv_at hl 3 rfl) ?_
          refine lv_icmp_ge (tgt := 160) hx hb zd_X_makeTick_136 (by decide) (fun h9 => absurd h9 (fb_lge (by decide) hid1 (by omega))) (fun _ => ?_)
          refine lv_aload_n hx hb zd_X_makeTick_139 rfl (lv_at hl 2 rfl) ?_
          refine lv_iload hx hb zd_X_makeTick_140 (lv_at hl 4 rfl) ?_
          refine pw_aald (r := some (ad 5 d1)) hx hb hK hP (hL.2.1 2 (by decide)) 1 rfl rfl (vp_in_nI (by omega) (by decide)) (by rw [nI_clamp (by omega)]; exact if_pos (by omega)) zd_X_makeTick_142 ?_
          refine lv_astore (lv' := [(5, .ref (ad 5 d1)), (0, .ref (ad 0 0)), (1, .int (cf_arr S3 d1)), (2, .ref (ad 2 0)), (3, .int 32), (4, .int (nI d1))]) hx hb zd_X_makeTick_143 hl (by decide) rfl (fun ls hl => ?_)
          refine lv_iload_n hx hb zd_X_makeTick_145 rfl (lv_at hl 2 rfl) ?_
          refine lv_aload_n hx hb zd_X_makeTick_146 rfl (lv_at hl 1 rfl) ?_
          refine lv_aload hx hb zd_X_makeTick_147 (lv_at hl 0 rfl) ?_
          refine pw_Vi (bytes := zb_X_deliver) (maxL := 3) (ret := (some .int)) (As := [.ref (ad 5 d1)]) (rest := [.int (cf_arr S3 d1)]) ⟨hx, hb, hml, hown, hT⟩ (c_X_deliver l D cA ad LL fl fr S4 hL okS4 d1 (by omega)) (cwV 1 hT (fb_gV zi_323 zi_325 zs_X_deliver zi_1 zc_X_deliver) rfl rfl rfl (by decide +kernel) ⟨Nat.le_of_ble_eq_true rfl, Nat.le_of_ble_eq_true rfl⟩) hK hP hD hS (fb_recv hK hP (hL.2.1 0 (by decide)) rfl rfl) rfl hl.1 rfl (lv_room (Nat.le_of_ble_eq_true rfl)) zd_X_makeTick_149 ⟨Nat.zero_le _, Nat.zero_le _⟩ (fun rx s5 H locs hp hP hD hS => ?_)
          obtain ⟨hr9, hs, hok9⟩ := hp
          rw [hr9]
          have es5 : s5 = cf_deliver d1 S4 := hs
          have oks5 : fb_okC fl fr s5 := hok9
          refine lv_iadd hx hb zd_X_makeTick_152 ?_
          refine lv_istore_n (lv' := [(1, .int ((cf_arr S3 d1) + (cf_deliverA d1 S4))), (5, .ref (ad 5 d1)), (0, .ref (ad 0 0)), (2, .ref (ad 2 0)), (3, .int 32), (4, .int (nI d1))]) hx hb zd_X_makeTick_153 rfl hl (by decide) rfl (fun ls hl => ?_)
          refine lv_iinc (k := 5) (v := nI (d1 + 1)) (lv' := [(4, .int (nI (d1 + 1))), (1, .int ((cf_arr S3 d1) + (cf_deliverA d1 S4))), (5, .ref (ad 5 d1)), (0, .ref (ad 0 0)), (2, .ref (ad 2 0)), (3, .int 32)]) hx hb zd_X_makeTick_154 hl rfl (nI_succ _).symm (by decide) rfl (fun ls hl => ?_)
          refine lv_goto (tgt := 133) hx hb zd_X_makeTick_157 (by decide) ?_
          exact ihd1 _ _ _ ⟨s5, (cf_arr S3 d1) + (cf_deliverA d1 S4), (by rw [hId1]; rfl), (es5.trans (congrArg (cf_deliver d1) hId1)), oks5, (lv_sub hl [3, 1, 4, 5, 0] rfl), hP, hD, hS⟩
        · skip
          intro H locs ls hI
          obtain ⟨S4, x9, hx9, hId1, okS4, hl, hP, hD, hS⟩ := hI
          subst hx9
          refine lv_iload hx hb zd_X_makeTick_133 (lv_at hl 4 rfl) ?_
          refine lv_iload_n hx hb zd_X_makeTick_135 rfl (lv_at hl 3 rfl) ?_
          refine lv_icmp_ge (tgt := 160) hx hb zd_X_makeTick_136 (by decide) (fun _ => ?_) (fun h9 => absurd (fb_lle (by decide) (by omega)) h9)
          refine lv_aload_n hx hb zd_X_makeTick_160 rfl (lv_at hl 0 rfl) ?_
          refine pw_get (C := "PausedFabric") (T := zT_X) (N := 11) hx hb hT zin_X hown hK hP (hL.2.1 0 (by decide)) rfl rfl 5 (by decide) (hT _ zi_119) (fun _ h9 => h9) rfl zd_X_makeTick_161 ?_
          refine lv_astore_n (lv' := [(2, .ref (ad 2 0)), (0, .ref (ad 0 0)), (1, .int (cf_arr S3 32)), (3, .int 32), (4, .int (nI 32))]) hx hb zd_X_makeTick_164 rfl hl (by decide) rfl (fun ls hl => ?_)
          refine lv_aload_n hx hb zd_X_makeTick_165 rfl (lv_at hl 0 rfl) ?_
          refine pw_alen (v := 32) hx hb hK hP (hL.2.1 2 (by decide)) 1 rfl rfl rfl zd_X_makeTick_166 ?_
          refine lv_istore_n (lv' := [(3, .int 32), (2, .ref (ad 2 0)), (0, .ref (ad 0 0)), (1, .int (cf_arr S3 32)), (4, .int (nI 32))]) hx hb zd_X_makeTick_167 rfl hl (by decide) rfl (fun ls hl => ?_)
          refine lv_iconst (v := 0) hx hb zd_X_makeTick_168 (by decide) ?_
          refine lv_istore (lv' := [(4, .int 0), (3, .int 32), (2, .ref (ad 2 0)), (0, .ref (ad 0 0)), (1, .int (cf_arr S3 32))]) hx hb zd_X_makeTick_169 hl (by decide) rfl (fun ls hl => ?_)
          refine pw_loop (n := 32) (Inv := fun (g1 : Nat) (H : Heap) (locs : List Loc) (ls : Array Slot) => ∃ (S5 : fb_S), (S5 = fb_it cf_choose g1 S4) ∧ fb_okC fl fr S5 ∧ lv_has ls 6 [(0, .ref (ad 0 0)), (1, .int (cf_arr S3 32)), (2, .ref (ad 2 0)), (3, .int 32), (4, .int (nI g1))] ∧ va_P D fb_cl (fb_wl (fb_cC cA) ad S5 LL) H ∧ va_D (fb_A ad LL s.heap.size) (fb_wl (fb_cC cA) ad S5 LL) ∧ va_S (fb_A ad LL s.heap.size) s.heap H locs) ?_ ?_ ?_
          · skip
            intro g1 hig1 H locs ls hI ihg1
            obtain ⟨S5, hIg1, okS5, hl, hP, hD, hS⟩ := hI
            refine lv_iload hx hb zd_X_makeTick_171 (lv_at hl 4 rfl) ?_
            refine lv_iload_n hx hb zd_X_makeTick_173 rfl (lv_at hl 3 rfl) ?_
            refine lv_icmp_ge (tgt := 195) hx hb zd_X_makeTick_174 (by decide) (fun h9 => absurd h9 (fb_lge (by decide) hig1 (by omega))) (fun _ => ?_)
            refine lv_aload_n hx hb zd_X_makeTick_177 rfl (lv_at hl 2 rfl) ?_
            refine lv_iload hx hb zd_X_makeTick_178 (lv_at hl 4 rfl) ?_
            refine pw_aald (r := some (ad 5 g1)) hx hb hK hP (hL.2.1 2 (by decide)) 1 rfl rfl (vp_in_nI (by omega) (by decide)) (by rw [nI_clamp (by omega)]; exact if_pos (by omega)) zd_X_makeTick_180 ?_
            refine lv_astore (lv' := [(5, .ref (ad 5 g1)), (0, .ref (ad 0 0)), (1, .int (cf_arr S3 32)), (2, .ref (ad 2 0)), (3, .int 32), (4, .int (nI g1))]) hx hb zd_X_makeTick_181 hl (by decide) rfl (fun ls hl => ?_)
            refine lv_aload_n hx hb zd_X_makeTick_183 rfl (lv_at hl 1 rfl) ?_
            refine lv_aload hx hb zd_X_makeTick_184 (lv_at hl 0 rfl) ?_
            refine pw_Vv (bytes := zb_X_choose) (maxL := 7) (ret := none) (As := [.ref (ad 5 g1)]) (rest := []) ⟨hx, hb, hml, hown, hT⟩ (c_X_choose l D cA ad LL fl fr S5 hL okS5 g1 (by omega)) (cwV 1 hT (fb_gV zi_345 zi_347 zs_X_choose zi_1 zc_X_choose) rfl rfl rfl (by decide +kernel) ⟨Nat.le_of_ble_eq_true rfl, Nat.le_of_ble_eq_true rfl⟩) hK hP hD hS (fb_recv hK hP (hL.2.1 0 (by decide)) rfl rfl) rfl hl.1 rfl (lv_room (Nat.le_of_ble_eq_true rfl)) zd_X_makeTick_186 ⟨Nat.zero_le _, Nat.zero_le _⟩ (fun s6 H locs hp hP hD hS => ?_)
            obtain ⟨hs, hok9⟩ := hp
            have es6 : s6 = cf_choose g1 S5 := hs
            have oks6 : fb_okC fl fr s6 := hok9
            refine lv_iinc (k := 5) (v := nI (g1 + 1)) (lv' := [(4, .int (nI (g1 + 1))), (5, .ref (ad 5 g1)), (0, .ref (ad 0 0)), (1, .int (cf_arr S3 32)), (2, .ref (ad 2 0)), (3, .int 32)]) hx hb zd_X_makeTick_189 hl rfl (nI_succ _).symm (by decide) rfl (fun ls hl => ?_)
            refine lv_goto (tgt := 171) hx hb zd_X_makeTick_192 (by decide) ?_
            exact ihg1 _ _ _ ⟨s6, ((show s6 = cf_choose g1 S5 from by subst es6; rfl).trans (congrArg (cf_choose g1) hIg1)), oks6, (lv_sub hl [2, 3, 4, 5, 0] rfl), hP, hD, hS⟩
          · skip
            intro H locs ls hI
            obtain ⟨S5, hIg1, okS5, hl, hP, hD, hS⟩ := hI
            refine lv_iload hx hb zd_X_makeTick_171 (lv_at hl 4 rfl) ?_
            refine lv_iload_n hx hb zd_X_makeTick_173 rfl (lv_at hl 3 rfl) ?_
            refine lv_icmp_ge (tgt := 195) hx hb zd_X_makeTick_174 (by decide) (fun _ => ?_) (fun h9 => absurd (fb_lle (by decide) (by omega)) h9)
            refine lv_aload_n hx hb zd_X_makeTick_195 rfl (lv_at hl 0 rfl) ?_
            refine pw_Vv (bytes := zb_X_remember) (maxL := 5) (ret := none) (As := []) (rest := []) ⟨hx, hb, hml, hown, hT⟩ (c_X_remember l D cA ad LL fl fr S5 hL okS5 ) (cwV 0 hT (fb_gV zi_361 zi_363 zs_X_remember zi_1 zc_X_remember) rfl rfl rfl (by decide +kernel) ⟨Nat.le_of_ble_eq_true rfl, Nat.le_of_ble_eq_true rfl⟩) hK hP hD hS (fb_recv hK hP (hL.2.1 0 (by decide)) rfl rfl) rfl hl.1 rfl (lv_room (Nat.le_of_ble_eq_true rfl)) zd_X_makeTick_196 ⟨Nat.zero_le _, Nat.zero_le _⟩ (fun s7 H locs hp hP hD hS => ?_)
            obtain ⟨hs, hok9⟩ := hp
            have es7 : s7 = cf_remember fl S5 := hs
            have oks7 : fb_okC fl fr s7 := hok9
            refine lv_iload_n hx hb zd_X_makeTick_199 rfl (lv_at hl 1 rfl) ?_
            exact W.iret (v := cf_arr S3 32) hx hb hr (fun t ht hW => ⟨⟨cf_arr S3 32, s7, rfl, ⟨(show cf_arr S3 32 = cf_arr (cf_before fl st) 32 from by rw [show S3 = cf_before fl st from by rw [hIc1, hIb, hIa, es1, cf_before]]), (show s7 = cf_remember fl (fb_it cf_choose 32 (fb_it cf_deliver 32 (cf_before fl st))) from by rw [es7, hIg1, hId1, show S3 = cf_before fl st from by rw [hIc1, hIb, hIa, es1, cf_before]]), oks7⟩, by rw [ht]; exact hP, va_K.moved hW.alike hK, hD⟩, hS.F ht⟩) hS.2.2 zd_X_makeTick_200
          · skip
            exact ⟨S4, rfl, okS4, (lv_sub hl [3, 4, 2, 1, 0] rfl), hP, hD, hS⟩
        · skip
          exact ⟨S3, 0, rfl, rfl, okS3, (lv_sub hl [4, 3, 2, 1, 0] rfl), hP, hD, hS⟩
      · skip
        exact ⟨S2, rfl, okS2, (lv_sub hl [1, 0] rfl), hP, hD, hS⟩
    · skip
      exact ⟨S1, rfl, okS1, (lv_sub hl [3, 2, 1, 0] rfl), hP, hD, hS⟩
  · skip
    exact ⟨s1, rfl, oks1, (lv_sub hl [3, 2, 1, 0] rfl), hP, hD, hS⟩

set_option maxHeartbeats 4000000 in
set_option maxRecDepth 100000 in
theorem c_X_tick (l : Launch) (D : va_G) (cA : Nat → ClassId) (ad : Nat → Nat → Nat) (LL : fb_L) (fl fr : Nat) (st : fb_S) (hL : fb_lvC LL fl fr) (hok : fb_okC fl fr st) (n : Int32) : fb_Mi l zy_X_tick (zw_X_tick :: lw_gd) { frames := 5, cells := 0, slots := 0, locals := 113 } (fb_cC cA) D fb_cl (fb_tys cA) ad LL st [.ref (ad 0 0), .int n] (fun rr st1 => rr = cf_tickA fl n st ∧ st1 = cf_tickS fl n st ∧ fb_okC fl fr st1) := by
  have hfl : fl ≤ 12 := hL.2.2.2.2.2.2.1
  have hfr : fr ≤ 100 := hL.2.2.2.2.2.2.2
  intro sz
  refine Met.ofW (cc := zb_X_tick) (maxL := 4) (ret := (some .int)) (by decide) rfl ?_
  intro p e s m args below meth c s₁ B hml hv
  obtain ⟨rfl, hsz, hP, hK, hD0⟩ := hv
  have hx := B.exec
  have hb := B.bytes
  have hr := B.returns
  have hts := atoms_spec (ws := zw_X_tick :: lw_gd) B.pre
  have hT : ∀ w ∈ lw_gd, w.before _ s = true := fun w h => hts w (List.mem_cons_of_mem _ h)
  have hown : s.vm.findClass "PausedFabric" = some m.cls := findClass_of_methodNamed B.named
  have hlocks := B.notSynchronized
  subst hsz
  have hD := fb_D_self (sz := s.heap.size) hD0
  have hS : va_S (fb_A ad LL s.heap.size) s.heap s.heap [] := va_S.rf
  have hl := lv_entry ([.ref (ad 0 0), .int n]) (n := 4) (Nat.le_of_ble_eq_true rfl)
  rw [lg_entry_eq]
  generalize (lg_sl ([.ref (ad 0 0), .int n]) ++ List.replicate (4 - (lg_sl ([.ref (ad 0 0), .int n])).length) Slot.unset).toArray = ls at hl ⊢
  have hl : lv_has ls 4 [(0, .ref (ad 0 0)), (1, .int n)] := hl
  refine lv_iload_n hx hb zd_X_tick_0 rfl (lv_at hl 1 rfl) ?_
  refine lv_iconst (v := 1) hx hb zd_X_tick_1 (by decide) ?_
  refine lv_icmp_lt (tgt := 11) hx hb zd_X_tick_2 (by decide) (fun h1 => ?_) (fun h1 => ?_)
  · skip
    refine lv_iconst (v := (-1)) hx hb zd_X_tick_11 (by decide) ?_
    exact W.iret (v := (-1)) hx hb hr (fun t ht hW => ⟨⟨(-1), st, rfl, ⟨(by simp only [cf_tickA, cf_tickS, if_pos h1, fb_b_t, fb_b_f]), (by simp only [cf_tickA, cf_tickS, if_pos h1, fb_b_t, fb_b_f]), hok⟩, by rw [ht]; exact hP, va_K.moved hW.alike hK, hD⟩, hS.F ht⟩) hS.2.2 zd_X_tick_12
  · skip
    refine lv_iload_n hx hb zd_X_tick_5 rfl (lv_at hl 1 rfl) ?_
    refine lv_bipush (v := 20) hx hb zd_X_tick_6 (by decide) ?_
    refine lv_icmp_le (tgt := 13) hx hb zd_X_tick_8 (by decide) (fun h2 => ?_) (fun h2 => ?_)
    · skip
      obtain ⟨t1, ht1, ht2⟩ := fb_to20 h1 h2
      have hl : lv_has ls 4 [(0, .ref (ad 0 0)), (1, .int (nI t1))] := ht2 ▸ hl
      have ht3 : fb_n n = t1 := ht2 ▸ nI_clamp (by omega)
      refine lv_iconst (v := 0) hx hb zd_X_tick_13 (by decide) ?_
      refine lv_istore_n (lv' := [(2, .int 0), (0, .ref (ad 0 0)), (1, .int (nI t1))]) hx hb zd_X_tick_14 rfl hl (by decide) rfl (fun ls hl => ?_)
      refine lv_iconst (v := 0) hx hb zd_X_tick_15 (by decide) ?_
      refine lv_istore_n (lv' := [(3, .int 0), (2, .int 0), (0, .ref (ad 0 0)), (1, .int (nI t1))]) hx hb zd_X_tick_16 rfl hl (by decide) rfl (fun ls hl => ?_)
      refine pw_loop (n := t1) (Inv := fun (a : Nat) (H : Heap) (locs : List Loc) (ls : Array Slot) => ∃ (S1 : fb_S) (x9 : Int32), x9 = cf_ticksA fl st a ∧ (S1 = cf_ticks fl a st) ∧ fb_okC fl fr S1 ∧ lv_has ls 4 [(0, .ref (ad 0 0)), (1, .int (nI t1)), (2, .int x9), (3, .int (nI a))] ∧ va_P D fb_cl (fb_wl (fb_cC cA) ad S1 LL) H ∧ va_D (fb_A ad LL s.heap.size) (fb_wl (fb_cC cA) ad S1 LL) ∧ va_S (fb_A ad LL s.heap.size) s.heap H locs) ?_ ?_ ?_
      · skip
        intro a hia H locs ls hI iha
        obtain ⟨S1, x9, hx9, hIa, okS1, hl, hP, hD, hS⟩ := hI
        subst hx9
        refine lv_iload_n hx hb zd_X_tick_17 rfl (lv_at hl 3 rfl) ?_
        refine lv_iload_n hx hb zd_X_tick_18 rfl (lv_at hl 1 rfl) ?_
        refine lv_icmp_ge (tgt := 35) hx hb zd_X_tick_19 (by decide) (fun h9 => absurd h9 (fb_lge rfl hia (by omega))) (fun _ => ?_)
        refine lv_iload_n hx hb zd_X_tick_22 rfl (lv_at hl 2 rfl) ?_
        refine lv_aload_n hx hb zd_X_tick_23 rfl (lv_at hl 0 rfl) ?_
        refine pw_Vi (bytes := zb_X_makeTick) (maxL := 6) (ret := (some .int)) (As := []) (rest := [.int (cf_ticksA fl st a)]) ⟨hx, hb, hml, hown, hT⟩ (c_X_makeTick l D cA ad LL fl fr S1 hL okS1 ) (cwV 0 hT (fb_gV zi_294 zi_296 zs_X_makeTick zi_1 zc_X_makeTick) rfl rfl rfl (by decide +kernel) ⟨Nat.le_of_ble_eq_true rfl, Nat.le_of_ble_eq_true rfl⟩) hK hP hD hS (fb_recv hK hP (hL.2.1 0 (by decide)) rfl rfl) rfl hl.1 rfl (lv_room (Nat.le_of_ble_eq_true rfl)) zd_X_tick_24 ⟨Nat.zero_le _, Nat.zero_le _⟩ (fun rx s3 H locs hp hP hD hS => ?_)
        obtain ⟨hr9, hs, hok9⟩ := hp
        rw [hr9]
        have es3 : s3 = cf_tick1 fl S1 := hs
        have oks3 : fb_okC fl fr s3 := hok9
        refine lv_iadd hx hb zd_X_tick_27 ?_
        refine lv_istore_n (lv' := [(2, .int ((cf_ticksA fl st a) + (cf_tick1A fl S1))), (0, .ref (ad 0 0)), (1, .int (nI t1)), (3, .int (nI a))]) hx hb zd_X_tick_28 rfl hl (by decide) rfl (fun ls hl => ?_)
        refine lv_iinc (k := 3) (v := nI (a + 1)) (lv' := [(3, .int (nI (a + 1))), (2, .int ((cf_ticksA fl st a) + (cf_tick1A fl S1))), (0, .ref (ad 0 0)), (1, .int (nI t1))]) hx hb zd_X_tick_29 hl rfl (nI_succ _).symm (by decide) rfl (fun ls hl => ?_)
        refine lv_goto (tgt := 17) hx hb zd_X_tick_32 (by decide) ?_
        exact iha _ _ _ ⟨s3, (cf_ticksA fl st a) + (cf_tick1A fl S1), (by rw [hIa]; rfl), (es3.trans (congrArg (cf_tick1 fl) hIa)), oks3, (lv_sub hl [2, 3, 1, 0] rfl), hP, hD, hS⟩
      · skip
        intro H locs ls hI
        obtain ⟨S1, x9, hx9, hIa, okS1, hl, hP, hD, hS⟩ := hI
        subst hx9
        refine lv_iload_n hx hb zd_X_tick_17 rfl (lv_at hl 3 rfl) ?_
        refine lv_iload_n hx hb zd_X_tick_18 rfl (lv_at hl 1 rfl) ?_
        refine lv_icmp_ge (tgt := 35) hx hb zd_X_tick_19 (by decide) (fun _ => ?_) (fun h9 => absurd (fb_lle rfl (by omega)) h9)
        refine lv_iload_n hx hb zd_X_tick_35 rfl (lv_at hl 2 rfl) ?_
        exact W.iret (v := cf_ticksA fl st t1) hx hb hr (fun t ht hW => ⟨⟨cf_ticksA fl st t1, S1, rfl, ⟨(by subst hIa; simp only [cf_tickA, cf_tickS, if_neg h1, if_pos h2, ht3, fb_b_t, fb_b_f]), (by subst hIa; simp only [cf_tickA, cf_tickS, if_neg h1, if_pos h2, ht3, fb_b_t, fb_b_f]), okS1⟩, by rw [ht]; exact hP, va_K.moved hW.alike hK, hD⟩, hS.F ht⟩) hS.2.2 zd_X_tick_36
      · skip
        exact ⟨st, 0, rfl, rfl, hok, (lv_sub hl [2, 3, 1, 0] rfl), hP, hD, hS⟩
    · skip
      refine lv_iconst (v := (-1)) hx hb zd_X_tick_11 (by decide) ?_
      exact W.iret (v := (-1)) hx hb hr (fun t ht hW => ⟨⟨(-1), st, rfl, ⟨(by simp only [cf_tickA, cf_tickS, if_neg h1, if_neg h2, fb_b_t, fb_b_f]), (by simp only [cf_tickA, cf_tickS, if_neg h1, if_neg h2, fb_b_t, fb_b_f]), hok⟩, by rw [ht]; exact hP, va_K.moved hW.alike hK, hD⟩, hS.F ht⟩) hS.2.2 zd_X_tick_12
