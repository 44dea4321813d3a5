/-! contracts (by program) -/
set_option maxHeartbeats 4000000 in
set_option maxRecDepth 100000 in
theorem c_M_first (l : Launch) (D : va_G) (cA : Nat → ClassId) (ad : Nat → Nat → Nat) (fl fr T : Nat) (st : fb_S) (hflr : fl ≤ 12 ∧ fr ≤ 100 ∧ T ≤ 30000) (hok : fb_okM fl fr T st) (u : Int32) (v : Int32) (q : Int32) : fb_Mi l zy_M_first (zw_M_first :: lw_gd) { frames := 3, cells := 0, slots := 0, locals := 69 } (fb_cM cA) D fb_cl (fb_tys cA) ad fb_LM st [.ref (ad 0 0), .int u, .int v, .int q] (fun rr st1 => rr = mf_first st u v q fr ∧ st1 = st ∧ fb_okM fl fr T st1) := by
  have hfl : fl ≤ 12 := hflr.1
  have hfr : fr ≤ 100 := hflr.2.1
  have hTb : T ≤ 30000 := hflr.2.2
  intro sz
  refine Met.ofW (cc := zb_M_first) (maxL := 7) (ret := (some .int)) (by decide) rfl ?_
  intro p e s m args below meth c s₁ B hml hv
  obtain ⟨rfl, hsz, hP, hK, hD0⟩ := hv
  have hx := B.exec
  have hb := B.bytes
  have hr := B.returns
  have hts := atoms_spec (ws := zw_M_first :: lw_gd) B.pre
  have hT : ∀ w ∈ lw_gd, w.before _ s = true := fun w h => hts w (List.mem_cons_of_mem _ h)
  have hown : s.vm.findClass "PausedFabricModel" = some m.cls := findClass_of_methodNamed B.named
  have hlocks := B.notSynchronized
  subst hsz
  have hD := fb_D_self (sz := s.heap.size) hD0
  have hS : va_S (fb_A ad fb_LM s.heap.size) s.heap s.heap [] := va_S.rf
  have hl := lv_entry ([.ref (ad 0 0), .int u, .int v, .int q]) (n := 7) (Nat.le_of_ble_eq_true rfl)
  rw [lg_entry_eq]
  generalize (lg_sl ([.ref (ad 0 0), .int u, .int v, .int q]) ++ List.replicate (7 - (lg_sl ([.ref (ad 0 0), .int u, .int v, .int q])).length) Slot.unset).toArray = ls at hl ⊢
  have hl : lv_has ls 7 [(0, .ref (ad 0 0)), (1, .int u), (2, .int v), (3, .int q)] := hl
  refine lv_iconst (v := (-1)) hx hb zd_M_first_0 (by decide) ?_
  refine lv_istore (lv' := [(4, .int (-1)), (0, .ref (ad 0 0)), (1, .int u), (2, .int v), (3, .int q)]) hx hb zd_M_first_1 hl (by decide) rfl (fun ls hl => ?_)
  refine lv_iconst (v := 0) hx hb zd_M_first_3 (by decide) ?_
  refine lv_istore (lv' := [(5, .int 0), (4, .int (-1)), (0, .ref (ad 0 0)), (1, .int u), (2, .int v), (3, .int q)]) hx hb zd_M_first_4 hl (by decide) rfl (fun ls hl => ?_)
  refine pw_loop (n := fr) (Inv := fun (a : Nat) (H : Heap) (locs : List Loc) (ls : Array Slot) => ∃ (x9 : Int32), x9 = mf_first st u v q a ∧ lv_has ls 7 [(0, .ref (ad 0 0)), (1, .int u), (2, .int v), (3, .int q), (4, .int x9), (5, .int (nI a))] ∧ va_P D fb_cl (fb_wl (fb_cM cA) ad st fb_LM) H ∧ va_D (fb_A ad fb_LM s.heap.size) (fb_wl (fb_cM cA) ad st fb_LM) ∧ va_S (fb_A ad fb_LM s.heap.size) s.heap H locs) ?_ ?_ ?_
  · skip
    intro a hia H locs ls hI iha
    obtain ⟨x9, hx9, hl, hP, hD, hS⟩ := hI
    subst hx9
    refine lv_iload hx hb zd_M_first_6 (lv_at hl 5 rfl) ?_
    refine lv_aload_n hx hb zd_M_first_8 rfl (lv_at hl 0 rfl) ?_
    refine pw_get (C := "PausedFabricModel") (T := zT_M) (N := 28) hx hb hT zin_M hown hK hP (fb_memM (k := 0) rfl) rfl rfl 15 (by decide) (hT _ zi_451) (fun _ h9 => h9) rfl zd_M_first_9 ?_
    refine lv_icmp_ge (tgt := 102) hx hb zd_M_first_12 (by decide) (fun h9 => absurd h9 (fb_lge (hok 15 0 rfl) hia (by omega))) (fun _ => ?_)
    refine pw_cut (ls := ls) (X := fb_b (mf_here st u v q a)) (rest := []) 58 (fun H locs => va_P D fb_cl (fb_wl (fb_cM cA) ad st fb_LM) H ∧ va_D (fb_A ad fb_LM s.heap.size) (fb_wl (fb_cM cA) ad st fb_LM) ∧ va_S (fb_A ad fb_LM s.heap.size) s.heap H locs) ?_ (fun kj58 => ?_)
    · skip
      rintro x9 H locs h9 ⟨hP, hD, hS⟩
      subst h9
      refine lv_istore (lv' := [(6, .int (fb_b (mf_here st u v q a))), (0, .ref (ad 0 0)), (1, .int u), (2, .int v), (3, .int q), (4, .int (mf_first st u v q a)), (5, .int (nI a))]) hx hb zd_M_first_58 hl (by decide) rfl (fun ls hl => ?_)
      refine lv_iload hx hb zd_M_first_60 (lv_at hl 0 rfl) ?_
      refine lv_if_eq (tgt := 92) hx hb zd_M_first_62 (by decide) (fun h1 => ?_) (fun h1 => ?_)
      · skip
        have h1b := fb_b0 h1
        refine lv_iload hx hb zd_M_first_92 (lv_at hl 5 rfl) ?_
        refine lv_istore (lv' := [(4, .int (mf_first st u v q a)), (6, .int (fb_b (mf_here st u v q a))), (0, .ref (ad 0 0)), (1, .int u), (2, .int v), (3, .int q), (5, .int (nI a))]) hx hb zd_M_first_94 hl (by decide) rfl (fun ls hl => ?_)
        refine lv_iinc (k := 6) (v := nI (a + 1)) (lv' := [(5, .int (nI (a + 1))), (4, .int (mf_first st u v q a)), (6, .int (fb_b (mf_here st u v q a))), (0, .ref (ad 0 0)), (1, .int u), (2, .int v), (3, .int q)]) hx hb zd_M_first_96 hl rfl (nI_succ _).symm (by decide) rfl (fun ls hl => ?_)
        refine lv_goto (tgt := 6) hx hb zd_M_first_99 (by decide) ?_
        exact iha _ _ _ ⟨mf_first st u v q a, (show mf_first st u v q a = mf_first st u v q (a + 1) from (by simp only [mf_first, if_neg h1b, fb_b_t, fb_b_f])), (lv_sub hl [3, 4, 5, 6, 1, 0] rfl), hP, hD, hS⟩
      · skip
        have h1b := fb_b1 h1
        refine lv_iload hx hb zd_M_first_65 (lv_at hl 5 rfl) ?_
        refine lv_if_lt (tgt := 87) hx hb zd_M_first_67 (by decide) (fun h2 => ?_) (fun h2 => ?_)
        · skip
          refine lv_iload hx hb zd_M_first_87 (lv_at hl 6 rfl) ?_
          refine lv_goto (tgt := 94) hx hb zd_M_first_89 (by decide) ?_
          refine lv_istore (lv' := [(4, .int (nI a)), (6, .int (fb_b (mf_here st u v q a))), (0, .ref (ad 0 0)), (1, .int u), (2, .int v), (3, .int q), (5, .int (nI a))]) hx hb zd_M_first_94 hl (by decide) rfl (fun ls hl => ?_)
          refine lv_iinc (k := 6) (v := nI (a + 1)) (lv' := [(5, .int (nI (a + 1))), (4, .int (nI a)), (6, .int (fb_b (mf_here st u v q a))), (0, .ref (ad 0 0)), (1, .int u), (2, .int v), (3, .int q)]) hx hb zd_M_first_96 hl rfl (nI_succ _).symm (by decide) rfl (fun ls hl => ?_)
          refine lv_goto (tgt := 6) hx hb zd_M_first_99 (by decide) ?_
          exact iha _ _ _ ⟨nI a, (show nI a = mf_first st u v q (a + 1) from (by simp only [mf_first, if_pos h1b, if_pos h2, fb_b_t, fb_b_f])), (lv_sub hl [3, 4, 5, 6, 1, 0] rfl), hP, hD, hS⟩
        · skip
          refine lv_aload_n hx hb zd_M_first_70 rfl (lv_at hl 1 rfl) ?_
          refine pw_get (C := "PausedFabricModel") (T := zT_M) (N := 28) hx hb hT zin_M hown hK hP (fb_memM (k := 0) rfl) rfl rfl 20 (by decide) (hT _ zi_456) (fun _ h9 => h9) rfl zd_M_first_71 ?_
          refine lv_iload hx hb zd_M_first_74 (lv_at hl 6 rfl) ?_
          refine pw_iald (v := st 20 a) hx hb hK hP (fb_memM (k := 20) rfl) 0 rfl rfl (vp_in_nI (by omega) (by decide)) (congrArg (st 20) (nI_clamp (by omega))) zd_M_first_76 ?_
          refine lv_aload_n hx hb zd_M_first_77 rfl (lv_at hl 1 rfl) ?_
          refine pw_get (C := "PausedFabricModel") (T := zT_M) (N := 28) hx hb hT zin_M hown hK hP (fb_memM (k := 0) rfl) rfl rfl 20 (by decide) (hT _ zi_456) (fun _ h9 => h9) rfl zd_M_first_78 ?_
          refine lv_iload hx hb zd_M_first_81 (lv_at hl 5 rfl) ?_
          refine pw_iald (v := st 20 (fb_n (mf_first st u v q a))) hx hb hK hP (fb_memM (k := 20) rfl) 0 rfl rfl (fb_inr (rg_first st u v q a (by omega)) h2 (by omega)) rfl zd_M_first_83 ?_
          refine lv_icmp_ge (tgt := 92) hx hb zd_M_first_84 (by decide) (fun h3 => ?_) (fun h3 => ?_)
          · skip
            refine lv_iload hx hb zd_M_first_92 (lv_at hl 5 rfl) ?_
            refine lv_istore (lv' := [(4, .int (mf_first st u v q a)), (6, .int (fb_b (mf_here st u v q a))), (0, .ref (ad 0 0)), (1, .int u), (2, .int v), (3, .int q), (5, .int (nI a))]) hx hb zd_M_first_94 hl (by decide) rfl (fun ls hl => ?_)
            refine lv_iinc (k := 6) (v := nI (a + 1)) (lv' := [(5, .int (nI (a + 1))), (4, .int (mf_first st u v q a)), (6, .int (fb_b (mf_here st u v q a))), (0, .ref (ad 0 0)), (1, .int u), (2, .int v), (3, .int q)]) hx hb zd_M_first_96 hl rfl (nI_succ _).symm (by decide) rfl (fun ls hl => ?_)
            refine lv_goto (tgt := 6) hx hb zd_M_first_99 (by decide) ?_
            exact iha _ _ _ ⟨mf_first st u v q a, (show mf_first st u v q a = mf_first st u v q (a + 1) from (by simp only [mf_first, if_pos h1b, if_neg h2, if_pos h3, fb_b_t, fb_b_f])), (lv_sub hl [3, 4, 5, 6, 1, 0] rfl), hP, hD, hS⟩
          · skip
            refine lv_iload hx hb zd_M_first_87 (lv_at hl 6 rfl) ?_
            refine lv_goto (tgt := 94) hx hb zd_M_first_89 (by decide) ?_
            refine lv_istore (lv' := [(4, .int (nI a)), (6, .int (fb_b (mf_here st u v q a))), (0, .ref (ad 0 0)), (1, .int u), (2, .int v), (3, .int q), (5, .int (nI a))]) hx hb zd_M_first_94 hl (by decide) rfl (fun ls hl => ?_)
            refine lv_iinc (k := 6) (v := nI (a + 1)) (lv' := [(5, .int (nI (a + 1))), (4, .int (nI a)), (6, .int (fb_b (mf_here st u v q a))), (0, .ref (ad 0 0)), (1, .int u), (2, .int v), (3, .int q)]) hx hb zd_M_first_96 hl rfl (nI_succ _).symm (by decide) rfl (fun ls hl => ?_)
            refine lv_goto (tgt := 6) hx hb zd_M_first_99 (by decide) ?_
            exact iha _ _ _ ⟨nI a, (show nI a = mf_first st u v q (a + 1) from (by simp only [mf_first, if_pos h1b, if_neg h2, if_neg h3, fb_b_t, fb_b_f])), (lv_sub hl [3, 4, 5, 6, 1, 0] rfl), hP, hD, hS⟩
    · skip
      refine lv_aload_n hx hb zd_M_first_15 rfl (lv_at hl 0 rfl) ?_
      refine pw_get (C := "PausedFabricModel") (T := zT_M) (N := 28) hx hb hT zin_M hown hK hP (fb_memM (k := 0) rfl) rfl rfl 18 (by decide) (hT _ zi_454) (fun _ h9 => h9) rfl zd_M_first_16 ?_
      refine lv_iload hx hb zd_M_first_19 (lv_at hl 5 rfl) ?_
      refine pw_iald (v := st 18 a) hx hb hK hP (fb_memM (k := 18) rfl) 0 rfl rfl (vp_in_nI (by omega) (by decide)) (congrArg (st 18) (nI_clamp (by omega))) zd_M_first_21 ?_
      refine lv_iconst (v := 1) hx hb zd_M_first_22 (by decide) ?_
      refine lv_icmp_ne (tgt := 57) hx hb zd_M_first_23 (by decide) (fun h4 => ?_) (fun h4 => ?_)
      · skip
        refine lv_iconst (v := 0) hx hb zd_M_first_57 (by decide) ?_
        exact kj58 _ _ _ (show 0 = fb_b (mf_here st u v q a) from (by simp only [mf_here, if_neg h4, fb_b_t, fb_b_f])) ⟨hP, hD, hS⟩
      · skip
        refine lv_aload_n hx hb zd_M_first_26 rfl (lv_at hl 0 rfl) ?_
        refine pw_get (C := "PausedFabricModel") (T := zT_M) (N := 28) hx hb hT zin_M hown hK hP (fb_memM (k := 0) rfl) rfl rfl 9 (by decide) (hT _ zi_445) (fun _ h9 => h9) rfl zd_M_first_27 ?_
        refine lv_aload_n hx hb zd_M_first_30 rfl (lv_at hl 0 rfl) ?_
        refine pw_get (C := "PausedFabricModel") (T := zT_M) (N := 28) hx hb hT zin_M hown hK hP (fb_memM (k := 0) rfl) rfl rfl 16 (by decide) (hT _ zi_452) (fun _ h9 => h9) rfl zd_M_first_31 ?_
        refine lv_iload hx hb zd_M_first_34 (lv_at hl 5 rfl) ?_
        refine pw_iald (v := st 16 a) hx hb hK hP (fb_memM (k := 16) rfl) 0 rfl rfl (vp_in_nI (by omega) (by decide)) (congrArg (st 16) (nI_clamp (by omega))) zd_M_first_36 ?_
        refine pw_iald (v := st 9 (fb_n (st 16 a))) hx hb hK hP (fb_memM (k := 9) rfl) 0 rfl rfl (hok 16 _).1 rfl zd_M_first_37 ?_
        refine lv_iload_n hx hb zd_M_first_38 rfl (lv_at hl 3 rfl) ?_
        refine lv_icmp_ne (tgt := 57) hx hb zd_M_first_39 (by decide) (fun h5 => ?_) (fun h5 => ?_)
        · skip
          refine lv_iconst (v := 0) hx hb zd_M_first_57 (by decide) ?_
          exact kj58 _ _ _ (show 0 = fb_b (mf_here st u v q a) from (by simp only [mf_here, if_pos h4, if_neg h5, fb_b_t, fb_b_f])) ⟨hP, hD, hS⟩
        · skip
          refine lv_aload_n hx hb zd_M_first_42 rfl (lv_at hl 0 rfl) ?_
          refine lv_iload hx hb zd_M_first_43 (lv_at hl 5 rfl) ?_
          refine lv_iload_n hx hb zd_M_first_45 rfl (lv_at hl 1 rfl) ?_
          refine lv_iload_n hx hb zd_M_first_46 rfl (lv_at hl 2 rfl) ?_
          refine pw_Vi (bytes := zb_M_between) (maxL := 6) (ret := (some .boolean)) (As := [.int (nI a), .int u, .int v]) (rest := []) ⟨hx, hb, hml, hown, hT⟩ (c_M_between l D cA ad fl fr T st hflr hok a u v (by omega)) (cwV 3 hT (fb_gV zi_581 zi_583 zs_M_between zi_5 zc_M_between) rfl rfl rfl (by decide +kernel) ⟨Nat.le_of_ble_eq_true rfl, Nat.le_of_ble_eq_true rfl⟩) hK hP hD hS (fb_recv hK hP (fb_memM (k := 0) rfl) rfl rfl) rfl hl.1 rfl (lv_room (Nat.le_of_ble_eq_true rfl)) zd_M_first_47 ⟨Nat.zero_le _, Nat.zero_le _⟩ (fun rx sx H locs hp hP hD hS => ?_)
          obtain ⟨hr9, hs, hok9⟩ := hp
          rw [hr9]
          rw [hs] at hP hD
          refine lv_if_eq (tgt := 57) hx hb zd_M_first_50 (by decide) (fun h6 => ?_) (fun h6 => ?_)
          · skip
            have h6b := fb_b0 h6
            refine lv_iconst (v := 0) hx hb zd_M_first_57 (by decide) ?_
            exact kj58 _ _ _ (show 0 = fb_b (mf_here st u v q a) from (by simp only [mf_here, if_pos h4, if_pos h5, if_neg h6b, fb_b_t, fb_b_f])) ⟨hP, hD, hS⟩
          · skip
            have h6b := fb_b1 h6
            refine lv_iconst (v := 1) hx hb zd_M_first_53 (by decide) ?_
            refine lv_goto (tgt := 58) hx hb zd_M_first_54 (by decide) ?_
            exact kj58 _ _ _ (show 1 = fb_b (mf_here st u v q a) from (by simp only [mf_here, if_pos h4, if_pos h5, if_pos h6b, fb_b_t, fb_b_f])) ⟨hP, hD, hS⟩
  · skip
    intro H locs ls hI
    obtain ⟨x9, hx9, hl, hP, hD, hS⟩ := hI
    subst hx9
    refine lv_iload hx hb zd_M_first_6 (lv_at hl 5 rfl) ?_
    refine lv_aload_n hx hb zd_M_first_8 rfl (lv_at hl 0 rfl) ?_
    refine pw_get (C := "PausedFabricModel") (T := zT_M) (N := 28) hx hb hT zin_M hown hK hP (fb_memM (k := 0) rfl) rfl rfl 15 (by decide) (hT _ zi_451) (fun _ h9 => h9) rfl zd_M_first_9 ?_
    refine lv_icmp_ge (tgt := 102) hx hb zd_M_first_12 (by decide) (fun _ => ?_) (fun h9 => absurd (fb_lle (hok 15 0 rfl) (by omega)) h9)
    refine lv_iload hx hb zd_M_first_102 (lv_at hl 4 rfl) ?_
    exact W.iret (v := mf_first st u v q fr) hx hb hr (fun t ht hW => ⟨⟨mf_first st u v q fr, st, rfl, ⟨(by simp only [mf_first, fb_b_t, fb_b_f]), rfl, hok⟩, by rw [ht]; exact hP, va_K.moved hW.alike hK, hD⟩, hS.F ht⟩) hS.2.2 zd_M_first_104
  · skip
    exact ⟨(-1), rfl, (lv_sub hl [2, 3, 4, 5, 1, 0] rfl), hP, hD, hS⟩

set_option maxHeartbeats 4000000 in
set_option maxRecDepth 100000 in
theorem c_M_queueLength (l : Launch) (D : va_G) (cA : Nat → ClassId) (ad : Nat → Nat → Nat) (fl fr T : Nat) (st : fb_S) (hflr : fl ≤ 12 ∧ fr ≤ 100 ∧ T ≤ 30000) (hok : fb_okM fl fr T st) (u : Int32) (v : Int32) (q : Int32) : fb_Mi l zy_M_queueLength (zw_M_queueLength :: lw_gd) { frames := 3, cells := 0, slots := 0, locals := 69 } (fb_cM cA) D fb_cl (fb_tys cA) ad fb_LM st [.ref (ad 0 0), .int u, .int v, .int q] (fun rr st1 => rr = mf_qlen st u v q fr ∧ st1 = st ∧ fb_okM fl fr T st1) := by
  have hfl : fl ≤ 12 := hflr.1
  have hfr : fr ≤ 100 := hflr.2.1
  have hTb : T ≤ 30000 := hflr.2.2
  intro sz
  refine Met.ofW (cc := zb_M_queueLength) (maxL := 7) (ret := (some .int)) (by decide) rfl ?_
  intro p e s m args below meth c s₁ B hml hv
  obtain ⟨rfl, hsz, hP, hK, hD0⟩ := hv
  have hx := B.exec
  have hb := B.bytes
  have hr := B.returns
  have hts := atoms_spec (ws := zw_M_queueLength :: lw_gd) B.pre
  have hT : ∀ w ∈ lw_gd, w.before _ s = true := fun w h => hts w (List.mem_cons_of_mem _ h)
  have hown : s.vm.findClass "PausedFabricModel" = some m.cls := findClass_of_methodNamed B.named
  have hlocks := B.notSynchronized
  subst hsz
  have hD := fb_D_self (sz := s.heap.size) hD0
  have hS : va_S (fb_A ad fb_LM s.heap.size) s.heap s.heap [] := va_S.rf
  have hl := lv_entry ([.ref (ad 0 0), .int u, .int v, .int q]) (n := 7) (Nat.le_of_ble_eq_true rfl)
  rw [lg_entry_eq]
  generalize (lg_sl ([.ref (ad 0 0), .int u, .int v, .int q]) ++ List.replicate (7 - (lg_sl ([.ref (ad 0 0), .int u, .int v, .int q])).length) Slot.unset).toArray = ls at hl ⊢
  have hl : lv_has ls 7 [(0, .ref (ad 0 0)), (1, .int u), (2, .int v), (3, .int q)] := hl
  refine lv_iconst (v := 0) hx hb zd_M_queueLength_0 (by decide) ?_
  refine lv_istore (lv' := [(4, .int 0), (0, .ref (ad 0 0)), (1, .int u), (2, .int v), (3, .int q)]) hx hb zd_M_queueLength_1 hl (by decide) rfl (fun ls hl => ?_)
  refine lv_iconst (v := 0) hx hb zd_M_queueLength_3 (by decide) ?_
  refine lv_istore (lv' := [(5, .int 0), (4, .int 0), (0, .ref (ad 0 0)), (1, .int u), (2, .int v), (3, .int q)]) hx hb zd_M_queueLength_4 hl (by decide) rfl (fun ls hl => ?_)
  refine pw_loop (n := fr) (Inv := fun (a : Nat) (H : Heap) (locs : List Loc) (ls : Array Slot) => ∃ (x9 : Int32), x9 = mf_qlen st u v q a ∧ lv_has ls 7 [(0, .ref (ad 0 0)), (1, .int u), (2, .int v), (3, .int q), (4, .int x9), (5, .int (nI a))] ∧ va_P D fb_cl (fb_wl (fb_cM cA) ad st fb_LM) H ∧ va_D (fb_A ad fb_LM s.heap.size) (fb_wl (fb_cM cA) ad st fb_LM) ∧ va_S (fb_A ad fb_LM s.heap.size) s.heap H locs) ?_ ?_ ?_
  · skip
    intro a hia H locs ls hI iha
    obtain ⟨x9, hx9, hl, hP, hD, hS⟩ := hI
    subst hx9
    refine lv_iload hx hb zd_M_queueLength_6 (lv_at hl 5 rfl) ?_
    refine lv_aload_n hx hb zd_M_queueLength_8 rfl (lv_at hl 0 rfl) ?_
    refine pw_get (C := "PausedFabricModel") (T := zT_M) (N := 28) hx hb hT zin_M hown hK hP (fb_memM (k := 0) rfl) rfl rfl 15 (by decide) (hT _ zi_451) (fun _ h9 => h9) rfl zd_M_queueLength_9 ?_
    refine lv_icmp_ge (tgt := 88) hx hb zd_M_queueLength_12 (by decide) (fun h9 => absurd h9 (fb_lge (hok 15 0 rfl) hia (by omega))) (fun _ => ?_)
    refine pw_cut (ls := ls) (X := fb_b (mf_here st u v q a)) (rest := []) 58 (fun H locs => va_P D fb_cl (fb_wl (fb_cM cA) ad st fb_LM) H ∧ va_D (fb_A ad fb_LM s.heap.size) (fb_wl (fb_cM cA) ad st fb_LM) ∧ va_S (fb_A ad fb_LM s.heap.size) s.heap H locs) ?_ (fun kj58 => ?_)
    · skip
      rintro x9 H locs h9 ⟨hP, hD, hS⟩
      subst h9
      refine lv_istore (lv' := [(6, .int (fb_b (mf_here st u v q a))), (0, .ref (ad 0 0)), (1, .int u), (2, .int v), (3, .int q), (4, .int (mf_qlen st u v q a)), (5, .int (nI a))]) hx hb zd_M_queueLength_58 hl (by decide) rfl (fun ls hl => ?_)
      refine lv_iload hx hb zd_M_queueLength_60 (lv_at hl 0 rfl) ?_
      refine lv_if_eq (tgt := 78) hx hb zd_M_queueLength_62 (by decide) (fun h1 => ?_) (fun h1 => ?_)
      · skip
        have h1b := fb_b0 h1
        refine lv_iload hx hb zd_M_queueLength_78 (lv_at hl 5 rfl) ?_
        refine lv_istore (lv' := [(4, .int (mf_qlen st u v q a)), (6, .int (fb_b (mf_here st u v q a))), (0, .ref (ad 0 0)), (1, .int u), (2, .int v), (3, .int q), (5, .int (nI a))]) hx hb zd_M_queueLength_80 hl (by decide) rfl (fun ls hl => ?_)
        refine lv_iinc (k := 6) (v := nI (a + 1)) (lv' := [(5, .int (nI (a + 1))), (4, .int (mf_qlen st u v q a)), (6, .int (fb_b (mf_here st u v q a))), (0, .ref (ad 0 0)), (1, .int u), (2, .int v), (3, .int q)]) hx hb zd_M_queueLength_82 hl rfl (nI_succ _).symm (by decide) rfl (fun ls hl => ?_)
        refine lv_goto (tgt := 6) hx hb zd_M_queueLength_85 (by decide) ?_
        exact iha _ _ _ ⟨mf_qlen st u v q a, (show mf_qlen st u v q a = mf_qlen st u v q (a + 1) from (by simp only [mf_qlen, if_neg h1b, fb_b_t, fb_b_f])), (lv_sub hl [3, 4, 5, 6, 1, 0] rfl), hP, hD, hS⟩
      · skip
        have h1b := fb_b1 h1
        refine lv_iload hx hb zd_M_queueLength_65 (lv_at hl 5 rfl) ?_
        refine lv_aload_n hx hb zd_M_queueLength_67 rfl (lv_at hl 1 rfl) ?_
        refine pw_get (C := "PausedFabricModel") (T := zT_M) (N := 28) hx hb hT zin_M hown hK hP (fb_memM (k := 0) rfl) rfl rfl 17 (by decide) (hT _ zi_453) (fun _ h9 => h9) rfl zd_M_queueLength_68 ?_
        refine lv_iload hx hb zd_M_queueLength_71 (lv_at hl 6 rfl) ?_
        refine pw_iald (v := st 17 a) hx hb hK hP (fb_memM (k := 17) rfl) 0 rfl rfl (vp_in_nI (by omega) (by decide)) (congrArg (st 17) (nI_clamp (by omega))) zd_M_queueLength_73 ?_
        refine lv_iadd hx hb zd_M_queueLength_74 ?_
        refine lv_goto (tgt := 80) hx hb zd_M_queueLength_75 (by decide) ?_
        refine lv_istore (lv' := [(4, .int ((mf_qlen st u v q a) + (st 17 a))), (6, .int (fb_b (mf_here st u v q a))), (0, .ref (ad 0 0)), (1, .int u), (2, .int v), (3, .int q), (5, .int (nI a))]) hx hb zd_M_queueLength_80 hl (by decide) rfl (fun ls hl => ?_)
        refine lv_iinc (k := 6) (v := nI (a + 1)) (lv' := [(5, .int (nI (a + 1))), (4, .int ((mf_qlen st u v q a) + (st 17 a))), (6, .int (fb_b (mf_here st u v q a))), (0, .ref (ad 0 0)), (1, .int u), (2, .int v), (3, .int q)]) hx hb zd_M_queueLength_82 hl rfl (nI_succ _).symm (by decide) rfl (fun ls hl => ?_)
        refine lv_goto (tgt := 6) hx hb zd_M_queueLength_85 (by decide) ?_
        exact iha _ _ _ ⟨(mf_qlen st u v q a) + (st 17 a), (show (mf_qlen st u v q a) + (st 17 a) = mf_qlen st u v q (a + 1) from (by simp only [mf_qlen, if_pos h1b, fb_b_t, fb_b_f])), (lv_sub hl [3, 4, 5, 6, 1, 0] rfl), hP, hD, hS⟩
    · skip
      refine lv_aload_n hx hb zd_M_queueLength_15 rfl (lv_at hl 0 rfl) ?_
      refine pw_get (C := "PausedFabricModel") (T := zT_M) (N := 28) hx hb hT zin_M hown hK hP (fb_memM (k := 0) rfl) rfl rfl 18 (by decide) (hT _ zi_454) (fun _ h9 => h9) rfl zd_M_queueLength_16 ?_
      refine lv_iload hx hb zd_M_queueLength_19 (lv_at hl 5 rfl) ?_
      refine pw_iald (v := st 18 a) hx hb hK hP (fb_memM (k := 18) rfl) 0 rfl rfl (vp_in_nI (by omega) (by decide)) (congrArg (st 18) (nI_clamp (by omega))) zd_M_queueLength_21 ?_
      refine lv_iconst (v := 1) hx hb zd_M_queueLength_22 (by decide) ?_
      refine lv_icmp_ne (tgt := 57) hx hb zd_M_queueLength_23 (by decide) (fun h2 => ?_) (fun h2 => ?_)
      · skip
        refine lv_iconst (v := 0) hx hb zd_M_queueLength_57 (by decide) ?_
        exact kj58 _ _ _ (show 0 = fb_b (mf_here st u v q a) from (by simp only [mf_here, if_neg h2, fb_b_t, fb_b_f])) ⟨hP, hD, hS⟩
      · skip
        refine lv_aload_n hx hb zd_M_queueLength_26 rfl (lv_at hl 0 rfl) ?_
        refine pw_get (C := "PausedFabricModel") (T := zT_M) (N := 28) hx hb hT zin_M hown hK hP (fb_memM (k := 0) rfl) rfl rfl 9 (by decide) (hT _ zi_445) (fun _ h9 => h9) rfl zd_M_queueLength_27 ?_
        refine lv_aload_n hx hb zd_M_queueLength_30 rfl (lv_at hl 0 rfl) ?_
        refine pw_get (C := "PausedFabricModel") (T := zT_M) (N := 28) hx hb hT zin_M hown hK hP (fb_memM (k := 0) rfl) rfl rfl 16 (by decide) (hT _ zi_452) (fun _ h9 => h9) rfl zd_M_queueLength_31 ?_
        refine lv_iload hx hb zd_M_queueLength_34 (lv_at hl 5 rfl) ?_
        refine pw_iald (v := st 16 a) hx hb hK hP (fb_memM (k := 16) rfl) 0 rfl rfl (vp_in_nI (by omega) (by decide)) (congrArg (st 16) (nI_clamp (by omega))) zd_M_queueLength_36 ?_
        refine pw_iald (v := st 9 (fb_n (st 16 a))) hx hb hK hP (fb_memM (k := 9) rfl) 0 rfl rfl (hok 16 _).1 rfl zd_M_queueLength_37 ?_
        refine lv_iload_n hx hb zd_M_queueLength_38 rfl (lv_at hl 3 rfl) ?_
        refine lv_icmp_ne (tgt := 57) hx hb zd_M_queueLength_39 (by decide) (fun h3 => ?_) (fun h3 => ?_)
        · skip
          refine lv_iconst (v := 0) hx hb zd_M_queueLength_57 (by decide) ?_
          exact kj58 _ _ _ (show 0 = fb_b (mf_here st u v q a) from (by simp only [mf_here, if_pos h2, if_neg h3, fb_b_t, fb_b_f])) ⟨hP, hD, hS⟩
        · skip
          refine lv_aload_n hx hb zd_M_queueLength_42 rfl (lv_at hl 0 rfl) ?_
          refine lv_iload hx hb zd_M_queueLength_43 (lv_at hl 5 rfl) ?_
          refine lv_iload_n hx hb zd_M_queueLength_45 rfl (lv_at hl 1 rfl) ?_
          refine lv_iload_n hx hb zd_M_queueLength_46 rfl (lv_at hl 2 rfl) ?_
          refine pw_Vi (bytes := zb_M_between) (maxL := 6) (ret := (some .boolean)) (As := [.int (nI a), .int u, .int v]) (rest := []) ⟨hx, hb, hml, hown, hT⟩ (c_M_between l D cA ad fl fr T st hflr hok a u v (by omega)) (cwV 3 hT (fb_gV zi_581 zi_583 zs_M_between zi_5 zc_M_between) rfl rfl rfl (by decide +kernel) ⟨Nat.le_of_ble_eq_true rfl, Nat.le_of_ble_eq_true rfl⟩) hK hP hD hS (fb_recv hK hP (fb_memM (k := 0) rfl) rfl rfl) rfl hl.1 rfl (lv_room (Nat.le_of_ble_eq_true rfl)) zd_M_queueLength_47 ⟨Nat.zero_le _, Nat.zero_le _⟩ (fun rx sx H locs hp hP hD hS => ?_)
          obtain ⟨hr9, hs, hok9⟩ := hp
          rw [hr9]
          rw [hs] at hP hD
          refine lv_if_eq (tgt := 57) hx hb zd_M_queueLength_50 (by decide) (fun h4 => ?_) (fun h4 => ?_)
          · skip
            have h4b := fb_b0 h4
            refine lv_iconst (v := 0) hx hb zd_M_queueLength_57 (by decide) ?_
            exact kj58 _ _ _ (show 0 = fb_b (mf_here st u v q a) from (by simp only [mf_here, if_pos h2, if_pos h3, if_neg h4b, fb_b_t, fb_b_f])) ⟨hP, hD, hS⟩
          · skip
            have h4b := fb_b1 h4
            refine lv_iconst (v := 1) hx hb zd_M_queueLength_53 (by decide) ?_
            refine lv_goto (tgt := 58) hx hb zd_M_queueLength_54 (by decide) ?_
            exact kj58 _ _ _ (show 1 = fb_b (mf_here st u v q a) from (by simp only [mf_here, if_pos h2, if_pos h3, if_pos h4b, fb_b_t, fb_b_f])) ⟨hP, hD, hS⟩
  · skip
    intro H locs ls hI
    obtain ⟨x9, hx9, hl, hP, hD, hS⟩ := hI
    subst hx9
    refine lv_iload hx hb zd_M_queueLength_6 (lv_at hl 5 rfl) ?_
    refine lv_aload_n hx hb zd_M_queueLength_8 rfl (lv_at hl 0 rfl) ?_
    refine pw_get (C := "PausedFabricModel") (T := zT_M) (N := 28) hx hb hT zin_M hown hK hP (fb_memM (k := 0) rfl) rfl rfl 15 (by decide) (hT _ zi_451) (fun _ h9 => h9) rfl zd_M_queueLength_9 ?_
    refine lv_icmp_ge (tgt := 88) hx hb zd_M_queueLength_12 (by decide) (fun _ => ?_) (fun h9 => absurd (fb_lle (hok 15 0 rfl) (by omega)) h9)
    refine lv_iload hx hb zd_M_queueLength_88 (lv_at hl 4 rfl) ?_
    exact W.iret (v := mf_qlen st u v q fr) hx hb hr (fun t ht hW => ⟨⟨mf_qlen st u v q fr, st, rfl, ⟨(by simp only [mf_qlen, fb_b_t, fb_b_f]), rfl, hok⟩, by rw [ht]; exact hP, va_K.moved hW.alike hK, hD⟩, hS.F ht⟩) hS.2.2 zd_M_queueLength_90
  · skip
    exact ⟨0, rfl, (lv_sub hl [2, 3, 4, 5, 1, 0] rfl), hP, hD, hS⟩

set_option maxHeartbeats 4000000 in
set_option maxRecDepth 100000 in
theorem c_M_sends (l : Launch) (D : va_G) (cA : Nat → ClassId) (ad : Nat → Nat → Nat) (fl fr T : Nat) (st : fb_S) (hflr : fl ≤ 12 ∧ fr ≤ 100 ∧ T ≤ 30000) (hok : fb_okM fl fr T st) (u : Int32) (v : Int32) : fb_Mi l zy_M_sends (zw_M_sends :: lw_gd) { frames := 3, cells := 0, slots := 0, locals := 69 } (fb_cM cA) D fb_cl (fb_tys cA) ad fb_LM st [.ref (ad 0 0), .int u, .int v] (fun rr st1 => rr = fb_b (mf_sends st u v fr) ∧ st1 = st ∧ fb_okM fl fr T st1) := by
  have hfl : fl ≤ 12 := hflr.1
  have hfr : fr ≤ 100 := hflr.2.1
  have hTb : T ≤ 30000 := hflr.2.2
  intro sz
  refine Met.ofW (cc := zb_M_sends) (maxL := 5) (ret := (some .boolean)) (by decide) rfl ?_
  intro p e s m args below meth c s₁ B hml hv
  obtain ⟨rfl, hsz, hP, hK, hD0⟩ := hv
  have hx := B.exec
  have hb := B.bytes
  have hr := B.returns
  have hts := atoms_spec (ws := zw_M_sends :: lw_gd) B.pre
  have hT : ∀ w ∈ lw_gd, w.before _ s = true := fun w h => hts w (List.mem_cons_of_mem _ h)
  have hown : s.vm.findClass "PausedFabricModel" = some m.cls := findClass_of_methodNamed B.named
  have hlocks := B.notSynchronized
  subst hsz
  have hD := fb_D_self (sz := s.heap.size) hD0
  have hS : va_S (fb_A ad fb_LM s.heap.size) s.heap s.heap [] := va_S.rf
  have hl := lv_entry ([.ref (ad 0 0), .int u, .int v]) (n := 5) (Nat.le_of_ble_eq_true rfl)
  rw [lg_entry_eq]
  generalize (lg_sl ([.ref (ad 0 0), .int u, .int v]) ++ List.replicate (5 - (lg_sl ([.ref (ad 0 0), .int u, .int v])).length) Slot.unset).toArray = ls at hl ⊢
  have hl : lv_has ls 5 [(0, .ref (ad 0 0)), (1, .int u), (2, .int v)] := hl
  refine lv_iconst (v := 0) hx hb zd_M_sends_0 (by decide) ?_
  refine lv_istore_n (lv' := [(3, .int 0), (0, .ref (ad 0 0)), (1, .int u), (2, .int v)]) hx hb zd_M_sends_1 rfl hl (by decide) rfl (fun ls hl => ?_)
  refine lv_iconst (v := 0) hx hb zd_M_sends_2 (by decide) ?_
  refine lv_istore (lv' := [(4, .int 0), (3, .int 0), (0, .ref (ad 0 0)), (1, .int u), (2, .int v)]) hx hb zd_M_sends_3 hl (by decide) rfl (fun ls hl => ?_)
  refine pw_loop (n := fr) (Inv := fun (a : Nat) (H : Heap) (locs : List Loc) (ls : Array Slot) => ∃ (x9 : Int32), x9 = fb_b (mf_sends st u v a) ∧ lv_has ls 5 [(0, .ref (ad 0 0)), (1, .int u), (2, .int v), (3, .int x9), (4, .int (nI a))] ∧ va_P D fb_cl (fb_wl (fb_cM cA) ad st fb_LM) H ∧ va_D (fb_A ad fb_LM s.heap.size) (fb_wl (fb_cM cA) ad st fb_LM) ∧ va_S (fb_A ad fb_LM s.heap.size) s.heap H locs) ?_ ?_ ?_
  · skip
    intro a hia H locs ls hI iha
    obtain ⟨x9, hx9, hl, hP, hD, hS⟩ := hI
    subst hx9
    refine lv_iload hx hb zd_M_sends_5 (lv_at hl 4 rfl) ?_
    refine lv_aload_n hx hb zd_M_sends_7 rfl (lv_at hl 0 rfl) ?_
    refine pw_get (C := "PausedFabricModel") (T := zT_M) (N := 28) hx hb hT zin_M hown hK hP (fb_memM (k := 0) rfl) rfl rfl 15 (by decide) (hT _ zi_451) (fun _ h9 => h9) rfl zd_M_sends_8 ?_
    refine lv_icmp_ge (tgt := 52) hx hb zd_M_sends_11 (by decide) (fun h9 => absurd h9 (fb_lge (hok 15 0 rfl) hia (by omega))) (fun _ => ?_)
    refine lv_iload_n hx hb zd_M_sends_14 rfl (lv_at hl 3 rfl) ?_
    refine lv_if_ne (tgt := 40) hx hb zd_M_sends_15 (by decide) (fun h1 => ?_) (fun h1 => ?_)
    · skip
      have h1b := fb_b1 h1
      refine lv_iconst (v := 1) hx hb zd_M_sends_40 (by decide) ?_
      refine lv_goto (tgt := 45) hx hb zd_M_sends_41 (by decide) ?_
      refine lv_istore_n (lv' := [(3, .int 1), (0, .ref (ad 0 0)), (1, .int u), (2, .int v), (4, .int (nI a))]) hx hb zd_M_sends_45 rfl hl (by decide) rfl (fun ls hl => ?_)
      refine lv_iinc (k := 4) (v := nI (a + 1)) (lv' := [(4, .int (nI (a + 1))), (3, .int 1), (0, .ref (ad 0 0)), (1, .int u), (2, .int v)]) hx hb zd_M_sends_46 hl rfl (nI_succ _).symm (by decide) rfl (fun ls hl => ?_)
      refine lv_goto (tgt := 5) hx hb zd_M_sends_49 (by decide) ?_
      exact iha _ _ _ ⟨1, (show 1 = fb_b (mf_sends st u v (a + 1)) from (by simp only [mf_sends, if_pos h1b, fb_b_t, fb_b_f])), (lv_sub hl [2, 3, 4, 1, 0] rfl), hP, hD, hS⟩
    · skip
      have h1b := fb_b0 h1
      refine lv_aload_n hx hb zd_M_sends_18 rfl (lv_at hl 0 rfl) ?_
      refine pw_get (C := "PausedFabricModel") (T := zT_M) (N := 28) hx hb hT zin_M hown hK hP (fb_memM (k := 0) rfl) rfl rfl 18 (by decide) (hT _ zi_454) (fun _ h9 => h9) rfl zd_M_sends_19 ?_
      refine lv_iload hx hb zd_M_sends_22 (lv_at hl 4 rfl) ?_
      refine pw_iald (v := st 18 a) hx hb hK hP (fb_memM (k := 18) rfl) 0 rfl rfl (vp_in_nI (by omega) (by decide)) (congrArg (st 18) (nI_clamp (by omega))) zd_M_sends_24 ?_
      refine lv_iconst (v := 2) hx hb zd_M_sends_25 (by decide) ?_
      refine lv_icmp_ne (tgt := 44) hx hb zd_M_sends_26 (by decide) (fun h2 => ?_) (fun h2 => ?_)
      · skip
        refine lv_iconst (v := 0) hx hb zd_M_sends_44 (by decide) ?_
        refine lv_istore_n (lv' := [(3, .int 0), (0, .ref (ad 0 0)), (1, .int u), (2, .int v), (4, .int (nI a))]) hx hb zd_M_sends_45 rfl hl (by decide) rfl (fun ls hl => ?_)
        refine lv_iinc (k := 4) (v := nI (a + 1)) (lv' := [(4, .int (nI (a + 1))), (3, .int 0), (0, .ref (ad 0 0)), (1, .int u), (2, .int v)]) hx hb zd_M_sends_46 hl rfl (nI_succ _).symm (by decide) rfl (fun ls hl => ?_)
        refine lv_goto (tgt := 5) hx hb zd_M_sends_49 (by decide) ?_
        exact iha _ _ _ ⟨0, (show 0 = fb_b (mf_sends st u v (a + 1)) from (by simp only [mf_sends, if_neg h1b, if_neg h2, fb_b_t, fb_b_f])), (lv_sub hl [2, 3, 4, 1, 0] rfl), hP, hD, hS⟩
      · skip
        refine lv_aload_n hx hb zd_M_sends_29 rfl (lv_at hl 0 rfl) ?_
        refine lv_iload hx hb zd_M_sends_30 (lv_at hl 4 rfl) ?_
        refine lv_iload_n hx hb zd_M_sends_32 rfl (lv_at hl 1 rfl) ?_
        refine lv_iload_n hx hb zd_M_sends_33 rfl (lv_at hl 2 rfl) ?_
        refine pw_Vi (bytes := zb_M_between) (maxL := 6) (ret := (some .boolean)) (As := [.int (nI a), .int u, .int v]) (rest := []) ⟨hx, hb, hml, hown, hT⟩ (c_M_between l D cA ad fl fr T st hflr hok a u v (by omega)) (cwV 3 hT (fb_gV zi_581 zi_583 zs_M_between zi_5 zc_M_between) rfl rfl rfl (by decide +kernel) ⟨Nat.le_of_ble_eq_true rfl, Nat.le_of_ble_eq_true rfl⟩) hK hP hD hS (fb_recv hK hP (fb_memM (k := 0) rfl) rfl rfl) rfl hl.1 rfl (lv_room (Nat.le_of_ble_eq_true rfl)) zd_M_sends_34 ⟨Nat.zero_le _, Nat.zero_le _⟩ (fun rx sx H locs hp hP hD hS => ?_)
        obtain ⟨hr9, hs, hok9⟩ := hp
        rw [hr9]
        rw [hs] at hP hD
        refine lv_if_eq (tgt := 44) hx hb zd_M_sends_37 (by decide) (fun h3 => ?_) (fun h3 => ?_)
        · skip
          have h3b := fb_b0 h3
          refine lv_iconst (v := 0) hx hb zd_M_sends_44 (by decide) ?_
          refine lv_istore_n (lv' := [(3, .int 0), (0, .ref (ad 0 0)), (1, .int u), (2, .int v), (4, .int (nI a))]) hx hb zd_M_sends_45 rfl hl (by decide) rfl (fun ls hl => ?_)
          refine lv_iinc (k := 4) (v := nI (a + 1)) (lv' := [(4, .int (nI (a + 1))), (3, .int 0), (0, .ref (ad 0 0)), (1, .int u), (2, .int v)]) hx hb zd_M_sends_46 hl rfl (nI_succ _).symm (by decide) rfl (fun ls hl => ?_)
          refine lv_goto (tgt := 5) hx hb zd_M_sends_49 (by decide) ?_
          exact iha _ _ _ ⟨0, (show 0 = fb_b (mf_sends st u v (a + 1)) from (by simp only [mf_sends, if_neg h1b, if_pos h2, if_neg h3b, fb_b_t, fb_b_f])), (lv_sub hl [2, 3, 4, 1, 0] rfl), hP, hD, hS⟩
        · skip
          have h3b := fb_b1 h3
          refine lv_iconst (v := 1) hx hb zd_M_sends_40 (by decide) ?_
          refine lv_goto (tgt := 45) hx hb zd_M_sends_41 (by decide) ?_
          refine lv_istore_n (lv' := [(3, .int 1), (0, .ref (ad 0 0)), (1, .int u), (2, .int v), (4, .int (nI a))]) hx hb zd_M_sends_45 rfl hl (by decide) rfl (fun ls hl => ?_)
          refine lv_iinc (k := 4) (v := nI (a + 1)) (lv' := [(4, .int (nI (a + 1))), (3, .int 1), (0, .ref (ad 0 0)), (1, .int u), (2, .int v)]) hx hb zd_M_sends_46 hl rfl (nI_succ _).symm (by decide) rfl (fun ls hl => ?_)
          refine lv_goto (tgt := 5) hx hb zd_M_sends_49 (by decide) ?_
          exact iha _ _ _ ⟨1, (show 1 = fb_b (mf_sends st u v (a + 1)) from (by simp only [mf_sends, if_neg h1b, if_pos h2, if_pos h3b, fb_b_t, fb_b_f])), (lv_sub hl [2, 3, 4, 1, 0] rfl), hP, hD, hS⟩
  · skip
    intro H locs ls hI
    obtain ⟨x9, hx9, hl, hP, hD, hS⟩ := hI
    subst hx9
    refine lv_iload hx hb zd_M_sends_5 (lv_at hl 4 rfl) ?_
    refine lv_aload_n hx hb zd_M_sends_7 rfl (lv_at hl 0 rfl) ?_
    refine pw_get (C := "PausedFabricModel") (T := zT_M) (N := 28) hx hb hT zin_M hown hK hP (fb_memM (k := 0) rfl) rfl rfl 15 (by decide) (hT _ zi_451) (fun _ h9 => h9) rfl zd_M_sends_8 ?_
    refine lv_icmp_ge (tgt := 52) hx hb zd_M_sends_11 (by decide) (fun _ => ?_) (fun h9 => absurd (fb_lle (hok 15 0 rfl) (by omega)) h9)
    refine lv_iload_n hx hb zd_M_sends_52 rfl (lv_at hl 3 rfl) ?_
    exact W.zret (v := fb_b (mf_sends st u v fr)) hx hb hr (fb_nz (fb_b01 _)) (fun t ht hW => ⟨⟨fb_b (mf_sends st u v fr), st, rfl, ⟨(by simp only [mf_sends, fb_b_t, fb_b_f]), rfl, hok⟩, by rw [ht]; exact hP, va_K.moved hW.alike hK, hD⟩, hS.F ht⟩) hS.2.2 zd_M_sends_53
  · skip
    exact ⟨0, rfl, (lv_sub hl [2, 3, 4, 1, 0] rfl), hP, hD, hS⟩

set_option maxHeartbeats 4000000 in
set_option maxRecDepth 100000 in
theorem c_M_holds (l : Launch) (D : va_G) (cA : Nat → ClassId) (ad : Nat → Nat → Nat) (fl fr T : Nat) (st : fb_S) (hflr : fl ≤ 12 ∧ fr ≤ 100 ∧ T ≤ 30000) (hok : fb_okM fl fr T st) (u : Int32) (v : Int32) (q : Int32) : fb_Mi l zy_M_holds (zw_M_holds :: lw_gd) { frames := 2, cells := 0, slots := 0, locals := 44 } (fb_cM cA) D fb_cl (fb_tys cA) ad fb_LM st [.ref (ad 0 0), .int u, .int v, .int q] (fun rr st1 => rr = mf_holds st u v q fr ∧ st1 = st ∧ fb_okM fl fr T st1) := by
  have hfl : fl ≤ 12 := hflr.1
  have hfr : fr ≤ 100 := hflr.2.1
  have hTb : T ≤ 30000 := hflr.2.2
  intro sz
  refine Met.ofW (cc := zb_M_holds) (maxL := 9) (ret := (some .int)) (by decide) rfl ?_
  intro p e s m args below meth c s₁ B hml hv
  obtain ⟨rfl, hsz, hP, hK, hD0⟩ := hv
  have hx := B.exec
  have hb := B.bytes
  have hr := B.returns
  have hts := atoms_spec (ws := zw_M_holds :: lw_gd) B.pre
  have hT : ∀ w ∈ lw_gd, w.before _ s = true := fun w h => hts w (List.mem_cons_of_mem _ h)
  have hown : s.vm.findClass "PausedFabricModel" = some m.cls := findClass_of_methodNamed B.named
  have hlocks := B.notSynchronized
  subst hsz
  have hD := fb_D_self (sz := s.heap.size) hD0
  have hS : va_S (fb_A ad fb_LM s.heap.size) s.heap s.heap [] := va_S.rf
  have hl := lv_entry ([.ref (ad 0 0), .int u, .int v, .int q]) (n := 9) (Nat.le_of_ble_eq_true rfl)
  rw [lg_entry_eq]
  generalize (lg_sl ([.ref (ad 0 0), .int u, .int v, .int q]) ++ List.replicate (9 - (lg_sl ([.ref (ad 0 0), .int u, .int v, .int q])).length) Slot.unset).toArray = ls at hl ⊢
  have hl : lv_has ls 9 [(0, .ref (ad 0 0)), (1, .int u), (2, .int v), (3, .int q)] := hl
  refine lv_iconst (v := 0) hx hb zd_M_holds_0 (by decide) ?_
  refine lv_istore (lv' := [(4, .int 0), (0, .ref (ad 0 0)), (1, .int u), (2, .int v), (3, .int q)]) hx hb zd_M_holds_1 hl (by decide) rfl (fun ls hl => ?_)
  refine lv_iconst (v := 0) hx hb zd_M_holds_3 (by decide) ?_
  refine lv_istore (lv' := [(5, .int 0), (4, .int 0), (0, .ref (ad 0 0)), (1, .int u), (2, .int v), (3, .int q)]) hx hb zd_M_holds_4 hl (by decide) rfl (fun ls hl => ?_)
  refine pw_loop (n := fr) (Inv := fun (a : Nat) (H : Heap) (locs : List Loc) (ls : Array Slot) => ∃ (x9 : Int32), x9 = mf_holds st u v q a ∧ lv_has ls 9 [(0, .ref (ad 0 0)), (1, .int u), (2, .int v), (3, .int q), (4, .int x9), (5, .int (nI a))] ∧ va_P D fb_cl (fb_wl (fb_cM cA) ad st fb_LM) H ∧ va_D (fb_A ad fb_LM s.heap.size) (fb_wl (fb_cM cA) ad st fb_LM) ∧ va_S (fb_A ad fb_LM s.heap.size) s.heap H locs) ?_ ?_ ?_
  · skip
    intro a hia H locs ls hI iha
    obtain ⟨x9, hx9, hl, hP, hD, hS⟩ := hI
    subst hx9
    refine lv_iload hx hb zd_M_holds_6 (lv_at hl 5 rfl) ?_
    refine lv_aload_n hx hb zd_M_holds_8 rfl (lv_at hl 0 rfl) ?_
    refine pw_get (C := "PausedFabricModel") (T := zT_M) (N := 28) hx hb hT zin_M hown hK hP (fb_memM (k := 0) rfl) rfl rfl 15 (by decide) (hT _ zi_451) (fun _ h9 => h9) rfl zd_M_holds_9 ?_
    refine lv_icmp_ge (tgt := 132) hx hb zd_M_holds_12 (by decide) (fun h9 => absurd h9 (fb_lge (hok 15 0 rfl) hia (by omega))) (fun _ => ?_)
    refine lv_aload_n hx hb zd_M_holds_15 rfl (lv_at hl 0 rfl) ?_
    refine pw_get (C := "PausedFabricModel") (T := zT_M) (N := 28) hx hb hT zin_M hown hK hP (fb_memM (k := 0) rfl) rfl rfl 16 (by decide) (hT _ zi_452) (fun _ h9 => h9) rfl zd_M_holds_16 ?_
    refine lv_iload hx hb zd_M_holds_19 (lv_at hl 5 rfl) ?_
    refine pw_iald (v := st 16 a) hx hb hK hP (fb_memM (k := 16) rfl) 0 rfl rfl (vp_in_nI (by omega) (by decide)) (congrArg (st 16) (nI_clamp (by omega))) zd_M_holds_21 ?_
    refine lv_istore (lv' := [(6, .int (st 16 a)), (0, .ref (ad 0 0)), (1, .int u), (2, .int v), (3, .int q), (4, .int (mf_holds st u v q a)), (5, .int (nI a))]) hx hb zd_M_holds_22 hl (by decide) rfl (fun ls hl => ?_)
    refine lv_aload_n hx hb zd_M_holds_24 rfl (lv_at hl 1 rfl) ?_
    refine pw_get (C := "PausedFabricModel") (T := zT_M) (N := 28) hx hb hT zin_M hown hK hP (fb_memM (k := 0) rfl) rfl rfl 19 (by decide) (hT _ zi_455) (fun _ h9 => h9) rfl zd_M_holds_25 ?_
    refine lv_iload hx hb zd_M_holds_28 (lv_at hl 6 rfl) ?_
    refine pw_iald (v := st 19 a) hx hb hK hP (fb_memM (k := 19) rfl) 0 rfl rfl (vp_in_nI (by omega) (by decide)) (congrArg (st 19) (nI_clamp (by omega))) zd_M_holds_30 ?_
    refine lv_istore (lv' := [(7, .int (st 19 a)), (6, .int (st 16 a)), (0, .ref (ad 0 0)), (1, .int u), (2, .int v), (3, .int q), (4, .int (mf_holds st u v q a)), (5, .int (nI a))]) hx hb zd_M_holds_31 hl (by decide) rfl (fun ls hl => ?_)
    refine pw_cut (ls := ls) (X := fb_b (mf_isin st q a)) (rest := []) 76 (fun H locs => va_P D fb_cl (fb_wl (fb_cM cA) ad st fb_LM) H ∧ va_D (fb_A ad fb_LM s.heap.size) (fb_wl (fb_cM cA) ad st fb_LM) ∧ va_S (fb_A ad fb_LM s.heap.size) s.heap H locs) ?_ (fun kj76 => ?_)
    · skip
      rintro x9 H locs h9 ⟨hP, hD, hS⟩
      subst h9
      refine lv_istore (lv' := [(8, .int (fb_b (mf_isin st q a))), (7, .int (st 19 a)), (6, .int (st 16 a)), (0, .ref (ad 0 0)), (1, .int u), (2, .int v), (3, .int q), (4, .int (mf_holds st u v q a)), (5, .int (nI a))]) hx hb zd_M_holds_76 hl (by decide) rfl (fun ls hl => ?_)
      refine lv_iload hx hb zd_M_holds_78 (lv_at hl 0 rfl) ?_
      refine lv_if_eq (tgt := 122) hx hb zd_M_holds_80 (by decide) (fun h1 => ?_) (fun h1 => ?_)
      · skip
        have h1b := fb_b0 h1
        refine lv_iload hx hb zd_M_holds_122 (lv_at hl 7 rfl) ?_
        refine lv_istore (lv' := [(4, .int (mf_holds st u v q a)), (8, .int (fb_b (mf_isin st q a))), (7, .int (st 19 a)), (6, .int (st 16 a)), (0, .ref (ad 0 0)), (1, .int u), (2, .int v), (3, .int q), (5, .int (nI a))]) hx hb zd_M_holds_124 hl (by decide) rfl (fun ls hl => ?_)
        refine lv_iinc (k := 8) (v := nI (a + 1)) (lv' := [(5, .int (nI (a + 1))), (4, .int (mf_holds st u v q a)), (8, .int (fb_b (mf_isin st q a))), (7, .int (st 19 a)), (6, .int (st 16 a)), (0, .ref (ad 0 0)), (1, .int u), (2, .int v), (3, .int q)]) hx hb zd_M_holds_126 hl rfl (nI_succ _).symm (by decide) rfl (fun ls hl => ?_)
        refine lv_goto (tgt := 6) hx hb zd_M_holds_129 (by decide) ?_
        exact iha _ _ _ ⟨mf_holds st u v q a, (show mf_holds st u v q a = mf_holds st u v q (a + 1) from (by simp only [mf_holds, if_neg h1b, fb_b_t, fb_b_f])), (lv_sub hl [5, 6, 7, 8, 1, 0] rfl), hP, hD, hS⟩
      · skip
        have h1b := fb_b1 h1
        refine lv_aload_n hx hb zd_M_holds_83 rfl (lv_at hl 3 rfl) ?_
        refine lv_iload hx hb zd_M_holds_84 (lv_at hl 2 rfl) ?_
        refine lv_iload hx hb zd_M_holds_86 (lv_at hl 1 rfl) ?_
        refine pw_Vi (bytes := zb_M_nodeAt) (maxL := 4) (ret := (some .int)) (As := [.int (st 16 a), .int (st 19 a)]) (rest := []) ⟨hx, hb, hml, hown, hT⟩ (c_M_nodeAt l D cA ad fl fr T st hflr hok (st 16 a) (st 19 a) (hok 16 _).1) (cwV 2 hT (fb_gV zi_554 zi_556 zs_M_nodeAt zi_5 zc_M_nodeAt) rfl rfl rfl (by decide +kernel) ⟨Nat.le_of_ble_eq_true rfl, Nat.le_of_ble_eq_true rfl⟩) hK hP hD hS (fb_recv hK hP (fb_memM (k := 0) rfl) rfl rfl) rfl hl.1 rfl (lv_room (Nat.le_of_ble_eq_true rfl)) zd_M_holds_88 ⟨Nat.zero_le _, Nat.zero_le _⟩ (fun rx sx H locs hp hP hD hS => ?_)
        obtain ⟨hr9, hs, hok9⟩ := hp
        rw [hr9]
        rw [hs] at hP hD
        refine lv_iload_n hx hb zd_M_holds_91 rfl (lv_at hl 5 rfl) ?_
        refine lv_icmp_ne (tgt := 122) hx hb zd_M_holds_92 (by decide) (fun h2 => ?_) (fun h2 => ?_)
        · skip
          refine lv_iload hx hb zd_M_holds_122 (lv_at hl 7 rfl) ?_
          refine lv_istore (lv' := [(4, .int (mf_holds st u v q a)), (8, .int (fb_b (mf_isin st q a))), (7, .int (st 19 a)), (6, .int (st 16 a)), (0, .ref (ad 0 0)), (1, .int u), (2, .int v), (3, .int q), (5, .int (nI a))]) hx hb zd_M_holds_124 hl (by decide) rfl (fun ls hl => ?_)
          refine lv_iinc (k := 8) (v := nI (a + 1)) (lv' := [(5, .int (nI (a + 1))), (4, .int (mf_holds st u v q a)), (8, .int (fb_b (mf_isin st q a))), (7, .int (st 19 a)), (6, .int (st 16 a)), (0, .ref (ad 0 0)), (1, .int u), (2, .int v), (3, .int q)]) hx hb zd_M_holds_126 hl rfl (nI_succ _).symm (by decide) rfl (fun ls hl => ?_)
          refine lv_goto (tgt := 6) hx hb zd_M_holds_129 (by decide) ?_
          exact iha _ _ _ ⟨mf_holds st u v q a, (show mf_holds st u v q a = mf_holds st u v q (a + 1) from (by simp only [mf_holds, if_pos h1b, if_neg h2, fb_b_t, fb_b_f])), (lv_sub hl [5, 6, 7, 8, 1, 0] rfl), hP, hD, hS⟩
        · skip
          refine lv_aload_n hx hb zd_M_holds_95 rfl (lv_at hl 3 rfl) ?_
          refine lv_iload hx hb zd_M_holds_96 (lv_at hl 2 rfl) ?_
          refine lv_iload hx hb zd_M_holds_98 (lv_at hl 1 rfl) ?_
          refine lv_iconst (v := 1) hx hb zd_M_holds_100 (by decide) ?_
          refine lv_isub hx hb zd_M_holds_101 ?_
          refine pw_Vi (bytes := zb_M_nodeAt) (maxL := 4) (ret := (some .int)) (As := [.int (st 16 a), .int ((st 19 a) - 1)]) (rest := []) ⟨hx, hb, hml, hown, hT⟩ (c_M_nodeAt l D cA ad fl fr T st hflr hok (st 16 a) ((st 19 a) - 1) (hok 16 _).1) (cwV 2 hT (fb_gV zi_554 zi_556 zs_M_nodeAt zi_5 zc_M_nodeAt) rfl rfl rfl (by decide +kernel) ⟨Nat.le_of_ble_eq_true rfl, Nat.le_of_ble_eq_true rfl⟩) hK hP hD hS (fb_recv hK hP (fb_memM (k := 0) rfl) rfl rfl) rfl hl.1 rfl (lv_room (Nat.le_of_ble_eq_true rfl)) zd_M_holds_102 ⟨Nat.zero_le _, Nat.zero_le _⟩ (fun rx sx H locs hp hP hD hS => ?_)
          obtain ⟨hr9, hs, hok9⟩ := hp
          rw [hr9]
          rw [hs] at hP hD
          refine lv_iload_n hx hb zd_M_holds_105 rfl (lv_at hl 4 rfl) ?_
          refine lv_icmp_ne (tgt := 122) hx hb zd_M_holds_106 (by decide) (fun h3 => ?_) (fun h3 => ?_)
          · skip
            refine lv_iload hx hb zd_M_holds_122 (lv_at hl 7 rfl) ?_
            refine lv_istore (lv' := [(4, .int (mf_holds st u v q a)), (8, .int (fb_b (mf_isin st q a))), (7, .int (st 19 a)), (6, .int (st 16 a)), (0, .ref (ad 0 0)), (1, .int u), (2, .int v), (3, .int q), (5, .int (nI a))]) hx hb zd_M_holds_124 hl (by decide) rfl (fun ls hl => ?_)
            refine lv_iinc (k := 8) (v := nI (a + 1)) (lv' := [(5, .int (nI (a + 1))), (4, .int (mf_holds st u v q a)), (8, .int (fb_b (mf_isin st q a))), (7, .int (st 19 a)), (6, .int (st 16 a)), (0, .ref (ad 0 0)), (1, .int u), (2, .int v), (3, .int q)]) hx hb zd_M_holds_126 hl rfl (nI_succ _).symm (by decide) rfl (fun ls hl => ?_)
            refine lv_goto (tgt := 6) hx hb zd_M_holds_129 (by decide) ?_
            exact iha _ _ _ ⟨mf_holds st u v q a, (show mf_holds st u v q a = mf_holds st u v q (a + 1) from (by simp only [mf_holds, if_pos h1b, if_pos h2, if_neg h3, fb_b_t, fb_b_f])), (lv_sub hl [5, 6, 7, 8, 1, 0] rfl), hP, hD, hS⟩
          · skip
            refine lv_iload hx hb zd_M_holds_109 (lv_at hl 7 rfl) ?_
            refine lv_aload_n hx hb zd_M_holds_111 rfl (lv_at hl 3 rfl) ?_
            refine pw_get (C := "PausedFabricModel") (T := zT_M) (N := 28) hx hb hT zin_M hown hK hP (fb_memM (k := 0) rfl) rfl rfl 17 (by decide) (hT _ zi_453) (fun _ h9 => h9) rfl zd_M_holds_112 ?_
            refine lv_iload hx hb zd_M_holds_115 (lv_at hl 8 rfl) ?_
            refine pw_iald (v := st 17 a) hx hb hK hP (fb_memM (k := 17) rfl) 0 rfl rfl (vp_in_nI (by omega) (by decide)) (congrArg (st 17) (nI_clamp (by omega))) zd_M_holds_117 ?_
            refine lv_iadd hx hb zd_M_holds_118 ?_
            refine lv_goto (tgt := 124) hx hb zd_M_holds_119 (by decide) ?_
            refine lv_istore (lv' := [(4, .int ((mf_holds st u v q a) + (st 17 a))), (8, .int (fb_b (mf_isin st q a))), (7, .int (st 19 a)), (6, .int (st 16 a)), (0, .ref (ad 0 0)), (1, .int u), (2, .int v), (3, .int q), (5, .int (nI a))]) hx hb zd_M_holds_124 hl (by decide) rfl (fun ls hl => ?_)
            refine lv_iinc (k := 8) (v := nI (a + 1)) (lv' := [(5, .int (nI (a + 1))), (4, .int ((mf_holds st u v q a) + (st 17 a))), (8, .int (fb_b (mf_isin st q a))), (7, .int (st 19 a)), (6, .int (st 16 a)), (0, .ref (ad 0 0)), (1, .int u), (2, .int v), (3, .int q)]) hx hb zd_M_holds_126 hl rfl (nI_succ _).symm (by decide) rfl (fun ls hl => ?_)
            refine lv_goto (tgt := 6) hx hb zd_M_holds_129 (by decide) ?_
            exact iha _ _ _ ⟨(mf_holds st u v q a) + (st 17 a), (show (mf_holds st u v q a) + (st 17 a) = mf_holds st u v q (a + 1) from (by simp only [mf_holds, if_pos h1b, if_pos h2, if_pos h3, fb_b_t, fb_b_f])), (lv_sub hl [5, 6, 7, 8, 1, 0] rfl), hP, hD, hS⟩
    · skip
      refine lv_aload_n hx hb zd_M_holds_33 rfl (lv_at hl 2 rfl) ?_
      refine pw_get (C := "PausedFabricModel") (T := zT_M) (N := 28) hx hb hT zin_M hown hK hP (fb_memM (k := 0) rfl) rfl rfl 18 (by decide) (hT _ zi_454) (fun _ h9 => h9) rfl zd_M_holds_34 ?_
      refine lv_iload hx hb zd_M_holds_37 (lv_at hl 7 rfl) ?_
      refine pw_iald (v := st 18 a) hx hb hK hP (fb_memM (k := 18) rfl) 0 rfl rfl (vp_in_nI (by omega) (by decide)) (congrArg (st 18) (nI_clamp (by omega))) zd_M_holds_39 ?_
      refine lv_iconst (v := 1) hx hb zd_M_holds_40 (by decide) ?_
      refine lv_icmp_eq (tgt := 55) hx hb zd_M_holds_41 (by decide) (fun h4 => ?_) (fun h4 => ?_)
      · skip
        refine lv_iload hx hb zd_M_holds_55 (lv_at hl 0 rfl) ?_
        refine lv_if_le (tgt := 75) hx hb zd_M_holds_57 (by decide) (fun h5 => ?_) (fun h5 => ?_)
        · skip
          refine lv_iconst (v := 0) hx hb zd_M_holds_75 (by decide) ?_
          exact kj76 _ _ _ (show 0 = fb_b (mf_isin st q a) from (by simp only [mf_isin, if_pos h4, if_pos h5, fb_b_t, fb_b_f])) ⟨hP, hD, hS⟩
        · skip
          refine lv_aload_n hx hb zd_M_holds_60 rfl (lv_at hl 2 rfl) ?_
          refine pw_get (C := "PausedFabricModel") (T := zT_M) (N := 28) hx hb hT zin_M hown hK hP (fb_memM (k := 0) rfl) rfl rfl 9 (by decide) (hT _ zi_445) (fun _ h9 => h9) rfl zd_M_holds_61 ?_
          refine lv_iload hx hb zd_M_holds_64 (lv_at hl 1 rfl) ?_
          refine pw_iald (v := st 9 (fb_n (st 16 a))) hx hb hK hP (fb_memM (k := 9) rfl) 0 rfl rfl (hok 16 _).1 rfl zd_M_holds_66 ?_
          refine lv_iload_n hx hb zd_M_holds_67 rfl (lv_at hl 5 rfl) ?_
          refine lv_icmp_ne (tgt := 75) hx hb zd_M_holds_68 (by decide) (fun h6 => ?_) (fun h6 => ?_)
          · skip
            refine lv_iconst (v := 0) hx hb zd_M_holds_75 (by decide) ?_
            exact kj76 _ _ _ (show 0 = fb_b (mf_isin st q a) from (by simp only [mf_isin, if_pos h4, if_neg h5, if_neg h6, fb_b_t, fb_b_f])) ⟨hP, hD, hS⟩
          · skip
            refine lv_iconst (v := 1) hx hb zd_M_holds_71 (by decide) ?_
            refine lv_goto (tgt := 76) hx hb zd_M_holds_72 (by decide) ?_
            exact kj76 _ _ _ (show 1 = fb_b (mf_isin st q a) from (by simp only [mf_isin, if_pos h4, if_neg h5, if_pos h6, fb_b_t, fb_b_f])) ⟨hP, hD, hS⟩
      · skip
        refine lv_aload_n hx hb zd_M_holds_44 rfl (lv_at hl 2 rfl) ?_
        refine pw_get (C := "PausedFabricModel") (T := zT_M) (N := 28) hx hb hT zin_M hown hK hP (fb_memM (k := 0) rfl) rfl rfl 18 (by decide) (hT _ zi_454) (fun _ h9 => h9) rfl zd_M_holds_45 ?_
        refine lv_iload hx hb zd_M_holds_48 (lv_at hl 7 rfl) ?_
        refine pw_iald (v := st 18 a) hx hb hK hP (fb_memM (k := 18) rfl) 0 rfl rfl (vp_in_nI (by omega) (by decide)) (congrArg (st 18) (nI_clamp (by omega))) zd_M_holds_50 ?_
        refine lv_iconst (v := 2) hx hb zd_M_holds_51 (by decide) ?_
        refine lv_icmp_ne (tgt := 75) hx hb zd_M_holds_52 (by decide) (fun h7 => ?_) (fun h7 => ?_)
        · skip
          refine lv_iconst (v := 0) hx hb zd_M_holds_75 (by decide) ?_
          exact kj76 _ _ _ (show 0 = fb_b (mf_isin st q a) from (by simp only [mf_isin, if_neg h4, if_neg h7, fb_b_t, fb_b_f])) ⟨hP, hD, hS⟩
        · skip
          refine lv_iload hx hb zd_M_holds_55 (lv_at hl 0 rfl) ?_
          refine lv_if_le (tgt := 75) hx hb zd_M_holds_57 (by decide) (fun h8 => ?_) (fun h8 => ?_)
          · skip
            refine lv_iconst (v := 0) hx hb zd_M_holds_75 (by decide) ?_
            exact kj76 _ _ _ (show 0 = fb_b (mf_isin st q a) from (by simp only [mf_isin, if_neg h4, if_pos h7, if_pos h8, fb_b_t, fb_b_f])) ⟨hP, hD, hS⟩
          · skip
            refine lv_aload_n hx hb zd_M_holds_60 rfl (lv_at hl 2 rfl) ?_
            refine pw_get (C := "PausedFabricModel") (T := zT_M) (N := 28) hx hb hT zin_M hown hK hP (fb_memM (k := 0) rfl) rfl rfl 9 (by decide) (hT _ zi_445) (fun _ h9 => h9) rfl zd_M_holds_61 ?_
            refine lv_iload hx hb zd_M_holds_64 (lv_at hl 1 rfl) ?_
            refine pw_iald (v := st 9 (fb_n (st 16 a))) hx hb hK hP (fb_memM (k := 9) rfl) 0 rfl rfl (hok 16 _).1 rfl zd_M_holds_66 ?_
            refine lv_iload_n hx hb zd_M_holds_67 rfl (lv_at hl 5 rfl) ?_
            refine lv_icmp_ne (tgt := 75) hx hb zd_M_holds_68 (by decide) (fun h9 => ?_) (fun h9 => ?_)
            · skip
              refine lv_iconst (v := 0) hx hb zd_M_holds_75 (by decide) ?_
              exact kj76 _ _ _ (show 0 = fb_b (mf_isin st q a) from (by simp only [mf_isin, if_neg h4, if_pos h7, if_neg h8, if_neg h9, fb_b_t, fb_b_f])) ⟨hP, hD, hS⟩
            · skip
              refine lv_iconst (v := 1) hx hb zd_M_holds_71 (by decide) ?_
              refine lv_goto (tgt := 76) hx hb zd_M_holds_72 (by decide) ?_
              exact kj76 _ _ _ (show 1 = fb_b (mf_isin st q a) from (by simp only [mf_isin, if_neg h4, if_pos h7, if_neg h8, if_pos h9, fb_b_t, fb_b_f])) ⟨hP, hD, hS⟩
  · skip
    intro H locs ls hI
    obtain ⟨x9, hx9, hl, hP, hD, hS⟩ := hI
    subst hx9
    refine lv_iload hx hb zd_M_holds_6 (lv_at hl 5 rfl) ?_
    refine lv_aload_n hx hb zd_M_holds_8 rfl (lv_at hl 0 rfl) ?_
    refine pw_get (C := "PausedFabricModel") (T := zT_M) (N := 28) hx hb hT zin_M hown hK hP (fb_memM (k := 0) rfl) rfl rfl 15 (by decide) (hT _ zi_451) (fun _ h9 => h9) rfl zd_M_holds_9 ?_
    refine lv_icmp_ge (tgt := 132) hx hb zd_M_holds_12 (by decide) (fun _ => ?_) (fun h9 => absurd (fb_lle (hok 15 0 rfl) (by omega)) h9)
    refine lv_iload hx hb zd_M_holds_132 (lv_at hl 4 rfl) ?_
    exact W.iret (v := mf_holds st u v q fr) hx hb hr (fun t ht hW => ⟨⟨mf_holds st u v q fr, st, rfl, ⟨(by simp only [mf_holds, fb_b_t, fb_b_f]), rfl, hok⟩, by rw [ht]; exact hP, va_K.moved hW.alike hK, hD⟩, hS.F ht⟩) hS.2.2 zd_M_holds_134
  · skip
    exact ⟨0, rfl, (lv_sub hl [2, 3, 4, 5, 1, 0] rfl), hP, hD, hS⟩

set_option maxHeartbeats 4000000 in
set_option maxRecDepth 100000 in
theorem c_M_told (l : Launch) (D : va_G) (cA : Nat → ClassId) (ad : Nat → Nat → Nat) (fl fr T : Nat) (st : fb_S) (hflr : fl ≤ 12 ∧ fr ≤ 100 ∧ T ≤ 30000) (hok : fb_okM fl fr T st) (f : Int32) : fb_Mi l zy_M_told (zw_M_told :: lw_gd) { frames := 0, cells := 0, slots := 0, locals := 0 } (fb_cM cA) D fb_cl (fb_tys cA) ad fb_LM st [.ref (ad 0 0), .int f] (fun rr st1 => rr = fb_b (mf_told st f fr) ∧ st1 = st ∧ fb_okM fl fr T st1) := by
  have hfl : fl ≤ 12 := hflr.1
  have hfr : fr ≤ 100 := hflr.2.1
  have hTb : T ≤ 30000 := hflr.2.2
  intro sz
  refine Met.ofW (cc := zb_M_told) (maxL := 4) (ret := (some .boolean)) (by decide) rfl ?_
  intro p e s m args below meth c s₁ B hml hv
  obtain ⟨rfl, hsz, hP, hK, hD0⟩ := hv
  have hx := B.exec
  have hb := B.bytes
  have hr := B.returns
  have hts := atoms_spec (ws := zw_M_told :: lw_gd) B.pre
  have hT : ∀ w ∈ lw_gd, w.before _ s = true := fun w h => hts w (List.mem_cons_of_mem _ h)
  have hown : s.vm.findClass "PausedFabricModel" = some m.cls := findClass_of_methodNamed B.named
  have hlocks := B.notSynchronized
  subst hsz
  have hD := fb_D_self (sz := s.heap.size) hD0
  have hS : va_S (fb_A ad fb_LM s.heap.size) s.heap s.heap [] := va_S.rf
  have hl := lv_entry ([.ref (ad 0 0), .int f]) (n := 4) (Nat.le_of_ble_eq_true rfl)
  rw [lg_entry_eq]
  generalize (lg_sl ([.ref (ad 0 0), .int f]) ++ List.replicate (4 - (lg_sl ([.ref (ad 0 0), .int f])).length) Slot.unset).toArray = ls at hl ⊢
  have hl : lv_has ls 4 [(0, .ref (ad 0 0)), (1, .int f)] := hl
  refine lv_iconst (v := 0) hx hb zd_M_told_0 (by decide) ?_
  refine lv_istore_n (lv' := [(2, .int 0), (0, .ref (ad 0 0)), (1, .int f)]) hx hb zd_M_told_1 rfl hl (by decide) rfl (fun ls hl => ?_)
  refine lv_iconst (v := 0) hx hb zd_M_told_2 (by decide) ?_
  refine lv_istore_n (lv' := [(3, .int 0), (2, .int 0), (0, .ref (ad 0 0)), (1, .int f)]) hx hb zd_M_told_3 rfl hl (by decide) rfl (fun ls hl => ?_)
  refine pw_loop (n := fr) (Inv := fun (a : Nat) (H : Heap) (locs : List Loc) (ls : Array Slot) => ∃ (x9 : Int32), x9 = fb_b (mf_told st f a) ∧ lv_has ls 4 [(0, .ref (ad 0 0)), (1, .int f), (2, .int x9), (3, .int (nI a))] ∧ va_P D fb_cl (fb_wl (fb_cM cA) ad st fb_LM) H ∧ va_D (fb_A ad fb_LM s.heap.size) (fb_wl (fb_cM cA) ad st fb_LM) ∧ va_S (fb_A ad fb_LM s.heap.size) s.heap H locs) ?_ ?_ ?_
  · skip
    intro a hia H locs ls hI iha
    obtain ⟨x9, hx9, hl, hP, hD, hS⟩ := hI
    subst hx9
    refine lv_iload_n hx hb zd_M_told_4 rfl (lv_at hl 3 rfl) ?_
    refine lv_aload_n hx hb zd_M_told_5 rfl (lv_at hl 0 rfl) ?_
    refine pw_get (C := "PausedFabricModel") (T := zT_M) (N := 28) hx hb hT zin_M hown hK hP (fb_memM (k := 0) rfl) rfl rfl 15 (by decide) (hT _ zi_451) (fun _ h9 => h9) rfl zd_M_told_6 ?_
    refine lv_icmp_ge (tgt := 75) hx hb zd_M_told_9 (by decide) (fun h9 => absurd h9 (fb_lge (hok 15 0 rfl) hia (by omega))) (fun _ => ?_)
    refine lv_iload_n hx hb zd_M_told_12 rfl (lv_at hl 2 rfl) ?_
    refine lv_if_ne (tgt := 63) hx hb zd_M_told_13 (by decide) (fun h1 => ?_) (fun h1 => ?_)
    · skip
      have h1b := fb_b1 h1
      refine lv_iconst (v := 1) hx hb zd_M_told_63 (by decide) ?_
      refine lv_goto (tgt := 68) hx hb zd_M_told_64 (by decide) ?_
      refine lv_istore_n (lv' := [(2, .int 1), (0, .ref (ad 0 0)), (1, .int f), (3, .int (nI a))]) hx hb zd_M_told_68 rfl hl (by decide) rfl (fun ls hl => ?_)
      refine lv_iinc (k := 3) (v := nI (a + 1)) (lv' := [(3, .int (nI (a + 1))), (2, .int 1), (0, .ref (ad 0 0)), (1, .int f)]) hx hb zd_M_told_69 hl rfl (nI_succ _).symm (by decide) rfl (fun ls hl => ?_)
      refine lv_goto (tgt := 4) hx hb zd_M_told_72 (by decide) ?_
      exact iha _ _ _ ⟨1, (show 1 = fb_b (mf_told st f (a + 1)) from (by simp only [mf_told, if_pos h1b, fb_b_t, fb_b_f])), (lv_sub hl [2, 3, 1, 0] rfl), hP, hD, hS⟩
    · skip
      have h1b := fb_b0 h1
      refine lv_aload_n hx hb zd_M_told_16 rfl (lv_at hl 0 rfl) ?_
      refine pw_get (C := "PausedFabricModel") (T := zT_M) (N := 28) hx hb hT zin_M hown hK hP (fb_memM (k := 0) rfl) rfl rfl 16 (by decide) (hT _ zi_452) (fun _ h9 => h9) rfl zd_M_told_17 ?_
      refine lv_iload_n hx hb zd_M_told_20 rfl (lv_at hl 3 rfl) ?_
      refine pw_iald (v := st 16 a) hx hb hK hP (fb_memM (k := 16) rfl) 0 rfl rfl (vp_in_nI (by omega) (by decide)) (congrArg (st 16) (nI_clamp (by omega))) zd_M_told_21 ?_
      refine lv_iload_n hx hb zd_M_told_22 rfl (lv_at hl 1 rfl) ?_
      refine lv_icmp_ne (tgt := 67) hx hb zd_M_told_23 (by decide) (fun h2 => ?_) (fun h2 => ?_)
      · skip
        refine lv_iconst (v := 0) hx hb zd_M_told_67 (by decide) ?_
        refine lv_istore_n (lv' := [(2, .int 0), (0, .ref (ad 0 0)), (1, .int f), (3, .int (nI a))]) hx hb zd_M_told_68 rfl hl (by decide) rfl (fun ls hl => ?_)
        refine lv_iinc (k := 3) (v := nI (a + 1)) (lv' := [(3, .int (nI (a + 1))), (2, .int 0), (0, .ref (ad 0 0)), (1, .int f)]) hx hb zd_M_told_69 hl rfl (nI_succ _).symm (by decide) rfl (fun ls hl => ?_)
        refine lv_goto (tgt := 4) hx hb zd_M_told_72 (by decide) ?_
        exact iha _ _ _ ⟨0, (show 0 = fb_b (mf_told st f (a + 1)) from (by simp only [mf_told, if_neg h1b, if_neg h2, fb_b_t, fb_b_f])), (lv_sub hl [2, 3, 1, 0] rfl), hP, hD, hS⟩
      · skip
        refine lv_aload_n hx hb zd_M_told_26 rfl (lv_at hl 0 rfl) ?_
        refine pw_get (C := "PausedFabricModel") (T := zT_M) (N := 28) hx hb hT zin_M hown hK hP (fb_memM (k := 0) rfl) rfl rfl 18 (by decide) (hT _ zi_454) (fun _ h9 => h9) rfl zd_M_told_27 ?_
        refine lv_iload_n hx hb zd_M_told_30 rfl (lv_at hl 3 rfl) ?_
        refine pw_iald (v := st 18 a) hx hb hK hP (fb_memM (k := 18) rfl) 0 rfl rfl (vp_in_nI (by omega) (by decide)) (congrArg (st 18) (nI_clamp (by omega))) zd_M_told_31 ?_
        refine lv_iconst (v := 4) hx hb zd_M_told_32 (by decide) ?_
        refine lv_icmp_ne (tgt := 67) hx hb zd_M_told_33 (by decide) (fun h3 => ?_) (fun h3 => ?_)
        · skip
          refine lv_iconst (v := 0) hx hb zd_M_told_67 (by decide) ?_
          refine lv_istore_n (lv' := [(2, .int 0), (0, .ref (ad 0 0)), (1, .int f), (3, .int (nI a))]) hx hb zd_M_told_68 rfl hl (by decide) rfl (fun ls hl => ?_)
          refine lv_iinc (k := 3) (v := nI (a + 1)) (lv' := [(3, .int (nI (a + 1))), (2, .int 0), (0, .ref (ad 0 0)), (1, .int f)]) hx hb zd_M_told_69 hl rfl (nI_succ _).symm (by decide) rfl (fun ls hl => ?_)
          refine lv_goto (tgt := 4) hx hb zd_M_told_72 (by decide) ?_
          exact iha _ _ _ ⟨0, (show 0 = fb_b (mf_told st f (a + 1)) from (by simp only [mf_told, if_neg h1b, if_pos h2, if_neg h3, fb_b_t, fb_b_f])), (lv_sub hl [2, 3, 1, 0] rfl), hP, hD, hS⟩
        · skip
          refine lv_aload_n hx hb zd_M_told_36 rfl (lv_at hl 0 rfl) ?_
          refine pw_get (C := "PausedFabricModel") (T := zT_M) (N := 28) hx hb hT zin_M hown hK hP (fb_memM (k := 0) rfl) rfl rfl 22 (by decide) (hT _ zi_458) (fun _ h9 => h9) rfl zd_M_told_37 ?_
          refine lv_iload_n hx hb zd_M_told_40 rfl (lv_at hl 3 rfl) ?_
          refine pw_zald (v := st 22 a) hx hb hK hP (fb_memM (k := 22) rfl) 5 rfl rfl (vp_in_nI (by omega) (by decide)) (congrArg (st 22) (nI_clamp (by omega))) zd_M_told_41 ?_
          refine lv_if_eq (tgt := 67) hx hb zd_M_told_42 (by decide) (fun h4 => ?_) (fun h4 => ?_)
          · skip
            refine lv_iconst (v := 0) hx hb zd_M_told_67 (by decide) ?_
            refine lv_istore_n (lv' := [(2, .int 0), (0, .ref (ad 0 0)), (1, .int f), (3, .int (nI a))]) hx hb zd_M_told_68 rfl hl (by decide) rfl (fun ls hl => ?_)
            refine lv_iinc (k := 3) (v := nI (a + 1)) (lv' := [(3, .int (nI (a + 1))), (2, .int 0), (0, .ref (ad 0 0)), (1, .int f)]) hx hb zd_M_told_69 hl rfl (nI_succ _).symm (by decide) rfl (fun ls hl => ?_)
            refine lv_goto (tgt := 4) hx hb zd_M_told_72 (by decide) ?_
            exact iha _ _ _ ⟨0, (show 0 = fb_b (mf_told st f (a + 1)) from (by simp only [mf_told, if_neg h1b, if_pos h2, if_pos h3, if_pos h4, fb_b_t, fb_b_f])), (lv_sub hl [2, 3, 1, 0] rfl), hP, hD, hS⟩
          · skip
            refine lv_aload_n hx hb zd_M_told_45 rfl (lv_at hl 0 rfl) ?_
            refine pw_get (C := "PausedFabricModel") (T := zT_M) (N := 28) hx hb hT zin_M hown hK hP (fb_memM (k := 0) rfl) rfl rfl 21 (by decide) (hT _ zi_457) (fun _ h9 => h9) rfl zd_M_told_46 ?_
            refine lv_iload_n hx hb zd_M_told_49 rfl (lv_at hl 3 rfl) ?_
            refine pw_iald (v := st 21 a) hx hb hK hP (fb_memM (k := 21) rfl) 0 rfl rfl (vp_in_nI (by omega) (by decide)) (congrArg (st 21) (nI_clamp (by omega))) zd_M_told_50 ?_
            refine lv_aload_n hx hb zd_M_told_51 rfl (lv_at hl 0 rfl) ?_
            refine pw_get (C := "PausedFabricModel") (T := zT_M) (N := 28) hx hb hT zin_M hown hK hP (fb_memM (k := 0) rfl) rfl rfl 4 (by decide) (hT _ zi_440) (fun _ h9 => h9) rfl zd_M_told_52 ?_
            refine lv_aload_n hx hb zd_M_told_55 rfl (lv_at hl 0 rfl) ?_
            refine pw_get (C := "PausedFabricModel") (T := zT_M) (N := 28) hx hb hT zin_M hown hK hP (fb_memM (k := 0) rfl) rfl rfl 0 (by decide) (hT _ zi_436) (fun _ h9 => h9) rfl zd_M_told_56 ?_
            refine lv_isub hx hb zd_M_told_59 ?_
            refine lv_icmp_ne (tgt := 67) hx hb zd_M_told_60 (by decide) (fun h5 => ?_) (fun h5 => ?_)
            · skip
              refine lv_iconst (v := 0) hx hb zd_M_told_67 (by decide) ?_
              refine lv_istore_n (lv' := [(2, .int 0), (0, .ref (ad 0 0)), (1, .int f), (3, .int (nI a))]) hx hb zd_M_told_68 rfl hl (by decide) rfl (fun ls hl => ?_)
              refine lv_iinc (k := 3) (v := nI (a + 1)) (lv' := [(3, .int (nI (a + 1))), (2, .int 0), (0, .ref (ad 0 0)), (1, .int f)]) hx hb zd_M_told_69 hl rfl (nI_succ _).symm (by decide) rfl (fun ls hl => ?_)
              refine lv_goto (tgt := 4) hx hb zd_M_told_72 (by decide) ?_
              exact iha _ _ _ ⟨0, (show 0 = fb_b (mf_told st f (a + 1)) from (by simp only [mf_told, if_neg h1b, if_pos h2, if_pos h3, if_neg h4, if_neg h5, fb_b_t, fb_b_f])), (lv_sub hl [2, 3, 1, 0] rfl), hP, hD, hS⟩
            · skip
              refine lv_iconst (v := 1) hx hb zd_M_told_63 (by decide) ?_
              refine lv_goto (tgt := 68) hx hb zd_M_told_64 (by decide) ?_
              refine lv_istore_n (lv' := [(2, .int 1), (0, .ref (ad 0 0)), (1, .int f), (3, .int (nI a))]) hx hb zd_M_told_68 rfl hl (by decide) rfl (fun ls hl => ?_)
              refine lv_iinc (k := 3) (v := nI (a + 1)) (lv' := [(3, .int (nI (a + 1))), (2, .int 1), (0, .ref (ad 0 0)), (1, .int f)]) hx hb zd_M_told_69 hl rfl (nI_succ _).symm (by decide) rfl (fun ls hl => ?_)
              refine lv_goto (tgt := 4) hx hb zd_M_told_72 (by decide) ?_
              exact iha _ _ _ ⟨1, (show 1 = fb_b (mf_told st f (a + 1)) from (by simp only [mf_told, if_neg h1b, if_pos h2, if_pos h3, if_neg h4, if_pos h5, fb_b_t, fb_b_f])), (lv_sub hl [2, 3, 1, 0] rfl), hP, hD, hS⟩
  · skip
    intro H locs ls hI
    obtain ⟨x9, hx9, hl, hP, hD, hS⟩ := hI
    subst hx9
    refine lv_iload_n hx hb zd_M_told_4 rfl (lv_at hl 3 rfl) ?_
    refine lv_aload_n hx hb zd_M_told_5 rfl (lv_at hl 0 rfl) ?_
    refine pw_get (C := "PausedFabricModel") (T := zT_M) (N := 28) hx hb hT zin_M hown hK hP (fb_memM (k := 0) rfl) rfl rfl 15 (by decide) (hT _ zi_451) (fun _ h9 => h9) rfl zd_M_told_6 ?_
    refine lv_icmp_ge (tgt := 75) hx hb zd_M_told_9 (by decide) (fun _ => ?_) (fun h9 => absurd (fb_lle (hok 15 0 rfl) (by omega)) h9)
    refine lv_iload_n hx hb zd_M_told_75 rfl (lv_at hl 2 rfl) ?_
    exact W.zret (v := fb_b (mf_told st f fr)) hx hb hr (fb_nz (fb_b01 _)) (fun t ht hW => ⟨⟨fb_b (mf_told st f fr), st, rfl, ⟨(by simp only [mf_told, fb_b_t, fb_b_f]), rfl, hok⟩, by rw [ht]; exact hP, va_K.moved hW.alike hK, hD⟩, hS.F ht⟩) hS.2.2 zd_M_told_76
  · skip
    exact ⟨0, rfl, (lv_sub hl [2, 3, 1, 0] rfl), hP, hD, hS⟩

set_option maxHeartbeats 4000000 in
set_option maxRecDepth 100000 in
theorem c_M_arrived (l : Launch) (D : va_G) (cA : Nat → ClassId) (ad : Nat → Nat → Nat) (fl fr T : Nat) (st : fb_S) (hflr : fl ≤ 12 ∧ fr ≤ 100 ∧ T ≤ 30000) (hok : fb_okM fl fr T st) : fb_Mi l zy_M_arrived (zw_M_arrived :: lw_gd) { frames := 0, cells := 0, slots := 0, locals := 0 } (fb_cM cA) D fb_cl (fb_tys cA) ad fb_LM st [.ref (ad 0 0)] (fun rr st1 => rr = mf_arrived st fr ∧ st1 = st ∧ fb_okM fl fr T st1) := by
  have hfl : fl ≤ 12 := hflr.1
  have hfr : fr ≤ 100 := hflr.2.1
  have hTb : T ≤ 30000 := hflr.2.2
  intro sz
  refine Met.ofW (cc := zb_M_arrived) (maxL := 3) (ret := (some .int)) (by decide) rfl ?_
  intro p e s m args below meth c s₁ B hml hv
  obtain ⟨rfl, hsz, hP, hK, hD0⟩ := hv
  have hx := B.exec
  have hb := B.bytes
  have hr := B.returns
  have hts := atoms_spec (ws := zw_M_arrived :: lw_gd) B.pre
  have hT : ∀ w ∈ lw_gd, w.before _ s = true := fun w h => hts w (List.mem_cons_of_mem _ h)
  have hown : s.vm.findClass "PausedFabricModel" = some m.cls := findClass_of_methodNamed B.named
  have hlocks := B.notSynchronized
  subst hsz
  have hD := fb_D_self (sz := s.heap.size) hD0
  have hS : va_S (fb_A ad fb_LM s.heap.size) s.heap s.heap [] := va_S.rf
  have hl := lv_entry ([.ref (ad 0 0)]) (n := 3) (Nat.le_of_ble_eq_true rfl)
  rw [lg_entry_eq]
  generalize (lg_sl ([.ref (ad 0 0)]) ++ List.replicate (3 - (lg_sl ([.ref (ad 0 0)])).length) Slot.unset).toArray = ls at hl ⊢
  have hl : lv_has ls 3 [(0, .ref (ad 0 0))] := hl
  refine lv_iconst (v := 0) hx hb zd_M_arrived_0 (by decide) ?_
  refine lv_istore_n (lv' := [(1, .int 0), (0, .ref (ad 0 0))]) hx hb zd_M_arrived_1 rfl hl (by decide) rfl (fun ls hl => ?_)
  refine lv_iconst (v := 0) hx hb zd_M_arrived_2 (by decide) ?_
  refine lv_istore_n (lv' := [(2, .int 0), (1, .int 0), (0, .ref (ad 0 0))]) hx hb zd_M_arrived_3 rfl hl (by decide) rfl (fun ls hl => ?_)
  refine pw_loop (n := fr) (Inv := fun (a : Nat) (H : Heap) (locs : List Loc) (ls : Array Slot) => ∃ (x9 : Int32), x9 = mf_arrived st a ∧ lv_has ls 3 [(0, .ref (ad 0 0)), (1, .int x9), (2, .int (nI a))] ∧ va_P D fb_cl (fb_wl (fb_cM cA) ad st fb_LM) H ∧ va_D (fb_A ad fb_LM s.heap.size) (fb_wl (fb_cM cA) ad st fb_LM) ∧ va_S (fb_A ad fb_LM s.heap.size) s.heap H locs) ?_ ?_ ?_
  · skip
    intro a hia H locs ls hI iha
    obtain ⟨x9, hx9, hl, hP, hD, hS⟩ := hI
    subst hx9
    refine lv_iload_n hx hb zd_M_arrived_4 rfl (lv_at hl 2 rfl) ?_
    refine lv_aload_n hx hb zd_M_arrived_5 rfl (lv_at hl 0 rfl) ?_
    refine pw_get (C := "PausedFabricModel") (T := zT_M) (N := 28) hx hb hT zin_M hown hK hP (fb_memM (k := 0) rfl) rfl rfl 15 (by decide) (hT _ zi_451) (fun _ h9 => h9) rfl zd_M_arrived_6 ?_
    refine lv_icmp_ge (tgt := 36) hx hb zd_M_arrived_9 (by decide) (fun h9 => absurd h9 (fb_lge (hok 15 0 rfl) hia (by omega))) (fun _ => ?_)
    refine lv_aload_n hx hb zd_M_arrived_12 rfl (lv_at hl 0 rfl) ?_
    refine pw_get (C := "PausedFabricModel") (T := zT_M) (N := 28) hx hb hT zin_M hown hK hP (fb_memM (k := 0) rfl) rfl rfl 18 (by decide) (hT _ zi_454) (fun _ h9 => h9) rfl zd_M_arrived_13 ?_
    refine lv_iload_n hx hb zd_M_arrived_16 rfl (lv_at hl 2 rfl) ?_
    refine pw_iald (v := st 18 a) hx hb hK hP (fb_memM (k := 18) rfl) 0 rfl rfl (vp_in_nI (by omega) (by decide)) (congrArg (st 18) (nI_clamp (by omega))) zd_M_arrived_17 ?_
    refine lv_iconst (v := 4) hx hb zd_M_arrived_18 (by decide) ?_
    refine lv_icmp_ne (tgt := 28) hx hb zd_M_arrived_19 (by decide) (fun h1 => ?_) (fun h1 => ?_)
    · skip
      refine lv_iload_n hx hb zd_M_arrived_28 rfl (lv_at hl 1 rfl) ?_
      refine lv_istore_n (lv' := [(1, .int (mf_arrived st a)), (0, .ref (ad 0 0)), (2, .int (nI a))]) hx hb zd_M_arrived_29 rfl hl (by decide) rfl (fun ls hl => ?_)
      refine lv_iinc (k := 2) (v := nI (a + 1)) (lv' := [(2, .int (nI (a + 1))), (1, .int (mf_arrived st a)), (0, .ref (ad 0 0))]) hx hb zd_M_arrived_30 hl rfl (nI_succ _).symm (by decide) rfl (fun ls hl => ?_)
      refine lv_goto (tgt := 4) hx hb zd_M_arrived_33 (by decide) ?_
      exact iha _ _ _ ⟨mf_arrived st a, (show mf_arrived st a = mf_arrived st (a + 1) from (by simp only [mf_arrived, if_neg h1, fb_b_t, fb_b_f])), (lv_sub hl [2, 1, 0] rfl), hP, hD, hS⟩
    · skip
      refine lv_iload_n hx hb zd_M_arrived_22 rfl (lv_at hl 1 rfl) ?_
      refine lv_iconst (v := 1) hx hb zd_M_arrived_23 (by decide) ?_
      refine lv_iadd hx hb zd_M_arrived_24 ?_
      refine lv_goto (tgt := 29) hx hb zd_M_arrived_25 (by decide) ?_
      refine lv_istore_n (lv' := [(1, .int ((mf_arrived st a) + 1)), (0, .ref (ad 0 0)), (2, .int (nI a))]) hx hb zd_M_arrived_29 rfl hl (by decide) rfl (fun ls hl => ?_)
      refine lv_iinc (k := 2) (v := nI (a + 1)) (lv' := [(2, .int (nI (a + 1))), (1, .int ((mf_arrived st a) + 1)), (0, .ref (ad 0 0))]) hx hb zd_M_arrived_30 hl rfl (nI_succ _).symm (by decide) rfl (fun ls hl => ?_)
      refine lv_goto (tgt := 4) hx hb zd_M_arrived_33 (by decide) ?_
      exact iha _ _ _ ⟨(mf_arrived st a) + 1, (show (mf_arrived st a) + 1 = mf_arrived st (a + 1) from (by simp only [mf_arrived, if_pos h1, fb_b_t, fb_b_f])), (lv_sub hl [2, 1, 0] rfl), hP, hD, hS⟩
  · skip
    intro H locs ls hI
    obtain ⟨x9, hx9, hl, hP, hD, hS⟩ := hI
    subst hx9
    refine lv_iload_n hx hb zd_M_arrived_4 rfl (lv_at hl 2 rfl) ?_
    refine lv_aload_n hx hb zd_M_arrived_5 rfl (lv_at hl 0 rfl) ?_
    refine pw_get (C := "PausedFabricModel") (T := zT_M) (N := 28) hx hb hT zin_M hown hK hP (fb_memM (k := 0) rfl) rfl rfl 15 (by decide) (hT _ zi_451) (fun _ h9 => h9) rfl zd_M_arrived_6 ?_
    refine lv_icmp_ge (tgt := 36) hx hb zd_M_arrived_9 (by decide) (fun _ => ?_) (fun h9 => absurd (fb_lle (hok 15 0 rfl) (by omega)) h9)
    refine lv_iload_n hx hb zd_M_arrived_36 rfl (lv_at hl 1 rfl) ?_
    exact W.iret (v := mf_arrived st fr) hx hb hr (fun t ht hW => ⟨⟨mf_arrived st fr, st, rfl, ⟨(by simp only [mf_arrived, fb_b_t, fb_b_f]), rfl, hok⟩, by rw [ht]; exact hP, va_K.moved hW.alike hK, hD⟩, hS.F ht⟩) hS.2.2 zd_M_arrived_37
  · skip
    exact ⟨0, rfl, (lv_sub hl [2, 1, 0] rfl), hP, hD, hS⟩

set_option maxHeartbeats 4000000 in
set_option maxRecDepth 100000 in
theorem c_M_countOf (l : Launch) (D : va_G) (cA : Nat → ClassId) (ad : Nat → Nat → Nat) (fl fr T : Nat) (st : fb_S) (hflr : fl ≤ 12 ∧ fr ≤ 100 ∧ T ≤ 30000) (hok : fb_okM fl fr T st) (f : Int32) (x : Int32) : fb_Mi l zy_M_countOf (zw_M_countOf :: lw_gd) { frames := 0, cells := 0, slots := 0, locals := 0 } (fb_cM cA) D fb_cl (fb_tys cA) ad fb_LM st [.ref (ad 0 0), .int f, .int x] (fun rr st1 => rr = mf_count st f x fr ∧ st1 = st ∧ fb_okM fl fr T st1) := by
  have hfl : fl ≤ 12 := hflr.1
  have hfr : fr ≤ 100 := hflr.2.1
  have hTb : T ≤ 30000 := hflr.2.2
  intro sz
  refine Met.ofW (cc := zb_M_countOf) (maxL := 5) (ret := (some .int)) (by decide) rfl ?_
  intro p e s m args below meth c s₁ B hml hv
  obtain ⟨rfl, hsz, hP, hK, hD0⟩ := hv
  have hx := B.exec
  have hb := B.bytes
  have hr := B.returns
  have hts := atoms_spec (ws := zw_M_countOf :: lw_gd) B.pre
  have hT : ∀ w ∈ lw_gd, w.before _ s = true := fun w h => hts w (List.mem_cons_of_mem _ h)
  have hown : s.vm.findClass "PausedFabricModel" = some m.cls := findClass_of_methodNamed B.named
  have hlocks := B.notSynchronized
  subst hsz
  have hD := fb_D_self (sz := s.heap.size) hD0
  have hS : va_S (fb_A ad fb_LM s.heap.size) s.heap s.heap [] := va_S.rf
  have hl := lv_entry ([.ref (ad 0 0), .int f, .int x]) (n := 5) (Nat.le_of_ble_eq_true rfl)
  rw [lg_entry_eq]
  generalize (lg_sl ([.ref (ad 0 0), .int f, .int x]) ++ List.replicate (5 - (lg_sl ([.ref (ad 0 0), .int f, .int x])).length) Slot.unset).toArray = ls at hl ⊢
  have hl : lv_has ls 5 [(0, .ref (ad 0 0)), (1, .int f), (2, .int x)] := hl
  refine lv_iconst (v := 0) hx hb zd_M_countOf_0 (by decide) ?_
  refine lv_istore_n (lv' := [(3, .int 0), (0, .ref (ad 0 0)), (1, .int f), (2, .int x)]) hx hb zd_M_countOf_1 rfl hl (by decide) rfl (fun ls hl => ?_)
  refine lv_iconst (v := 0) hx hb zd_M_countOf_2 (by decide) ?_
  refine lv_istore (lv' := [(4, .int 0), (3, .int 0), (0, .ref (ad 0 0)), (1, .int f), (2, .int x)]) hx hb zd_M_countOf_3 hl (by decide) rfl (fun ls hl => ?_)
  refine pw_loop (n := fr) (Inv := fun (a : Nat) (H : Heap) (locs : List Loc) (ls : Array Slot) => ∃ (x9 : Int32), x9 = mf_count st f x a ∧ lv_has ls 5 [(0, .ref (ad 0 0)), (1, .int f), (2, .int x), (3, .int x9), (4, .int (nI a))] ∧ va_P D fb_cl (fb_wl (fb_cM cA) ad st fb_LM) H ∧ va_D (fb_A ad fb_LM s.heap.size) (fb_wl (fb_cM cA) ad st fb_LM) ∧ va_S (fb_A ad fb_LM s.heap.size) s.heap H locs) ?_ ?_ ?_
  · skip
    intro a hia H locs ls hI iha
    obtain ⟨x9, hx9, hl, hP, hD, hS⟩ := hI
    subst hx9
    refine lv_iload hx hb zd_M_countOf_5 (lv_at hl 4 rfl) ?_
    refine lv_aload_n hx hb zd_M_countOf_7 rfl (lv_at hl 0 rfl) ?_
    refine pw_get (C := "PausedFabricModel") (T := zT_M) (N := 28) hx hb hT zin_M hown hK hP (fb_memM (k := 0) rfl) rfl rfl 15 (by decide) (hT _ zi_451) (fun _ h9 => h9) rfl zd_M_countOf_8 ?_
    refine lv_icmp_ge (tgt := 50) hx hb zd_M_countOf_11 (by decide) (fun h9 => absurd h9 (fb_lge (hok 15 0 rfl) hia (by omega))) (fun _ => ?_)
    refine lv_aload_n hx hb zd_M_countOf_14 rfl (lv_at hl 0 rfl) ?_
    refine pw_get (C := "PausedFabricModel") (T := zT_M) (N := 28) hx hb hT zin_M hown hK hP (fb_memM (k := 0) rfl) rfl rfl 16 (by decide) (hT _ zi_452) (fun _ h9 => h9) rfl zd_M_countOf_15 ?_
    refine lv_iload hx hb zd_M_countOf_18 (lv_at hl 4 rfl) ?_
    refine pw_iald (v := st 16 a) hx hb hK hP (fb_memM (k := 16) rfl) 0 rfl rfl (vp_in_nI (by omega) (by decide)) (congrArg (st 16) (nI_clamp (by omega))) zd_M_countOf_20 ?_
    refine lv_iload_n hx hb zd_M_countOf_21 rfl (lv_at hl 1 rfl) ?_
    refine lv_icmp_ne (tgt := 42) hx hb zd_M_countOf_22 (by decide) (fun h1 => ?_) (fun h1 => ?_)
    · skip
      refine lv_iload_n hx hb zd_M_countOf_42 rfl (lv_at hl 3 rfl) ?_
      refine lv_istore_n (lv' := [(3, .int (mf_count st f x a)), (0, .ref (ad 0 0)), (1, .int f), (2, .int x), (4, .int (nI a))]) hx hb zd_M_countOf_43 rfl hl (by decide) rfl (fun ls hl => ?_)
      refine lv_iinc (k := 4) (v := nI (a + 1)) (lv' := [(4, .int (nI (a + 1))), (3, .int (mf_count st f x a)), (0, .ref (ad 0 0)), (1, .int f), (2, .int x)]) hx hb zd_M_countOf_44 hl rfl (nI_succ _).symm (by decide) rfl (fun ls hl => ?_)
      refine lv_goto (tgt := 5) hx hb zd_M_countOf_47 (by decide) ?_
      exact iha _ _ _ ⟨mf_count st f x a, (show mf_count st f x a = mf_count st f x (a + 1) from (by simp only [mf_count, if_neg h1, fb_b_t, fb_b_f])), (lv_sub hl [2, 3, 4, 1, 0] rfl), hP, hD, hS⟩
    · skip
      refine lv_aload_n hx hb zd_M_countOf_25 rfl (lv_at hl 0 rfl) ?_
      refine pw_get (C := "PausedFabricModel") (T := zT_M) (N := 28) hx hb hT zin_M hown hK hP (fb_memM (k := 0) rfl) rfl rfl 18 (by decide) (hT _ zi_454) (fun _ h9 => h9) rfl zd_M_countOf_26 ?_
      refine lv_iload hx hb zd_M_countOf_29 (lv_at hl 4 rfl) ?_
      refine pw_iald (v := st 18 a) hx hb hK hP (fb_memM (k := 18) rfl) 0 rfl rfl (vp_in_nI (by omega) (by decide)) (congrArg (st 18) (nI_clamp (by omega))) zd_M_countOf_31 ?_
      refine lv_iload_n hx hb zd_M_countOf_32 rfl (lv_at hl 2 rfl) ?_
      refine lv_icmp_ne (tgt := 42) hx hb zd_M_countOf_33 (by decide) (fun h2 => ?_) (fun h2 => ?_)
      · skip
        refine lv_iload_n hx hb zd_M_countOf_42 rfl (lv_at hl 3 rfl) ?_
        refine lv_istore_n (lv' := [(3, .int (mf_count st f x a)), (0, .ref (ad 0 0)), (1, .int f), (2, .int x), (4, .int (nI a))]) hx hb zd_M_countOf_43 rfl hl (by decide) rfl (fun ls hl => ?_)
        refine lv_iinc (k := 4) (v := nI (a + 1)) (lv' := [(4, .int (nI (a + 1))), (3, .int (mf_count st f x a)), (0, .ref (ad 0 0)), (1, .int f), (2, .int x)]) hx hb zd_M_countOf_44 hl rfl (nI_succ _).symm (by decide) rfl (fun ls hl => ?_)
        refine lv_goto (tgt := 5) hx hb zd_M_countOf_47 (by decide) ?_
        exact iha _ _ _ ⟨mf_count st f x a, (show mf_count st f x a = mf_count st f x (a + 1) from (by simp only [mf_count, if_pos h1, if_neg h2, fb_b_t, fb_b_f])), (lv_sub hl [2, 3, 4, 1, 0] rfl), hP, hD, hS⟩
      · skip
        refine lv_iload_n hx hb zd_M_countOf_36 rfl (lv_at hl 3 rfl) ?_
        refine lv_iconst (v := 1) hx hb zd_M_countOf_37 (by decide) ?_
        refine lv_iadd hx hb zd_M_countOf_38 ?_
        refine lv_goto (tgt := 43) hx hb zd_M_countOf_39 (by decide) ?_
        refine lv_istore_n (lv' := [(3, .int ((mf_count st f x a) + 1)), (0, .ref (ad 0 0)), (1, .int f), (2, .int x), (4, .int (nI a))]) hx hb zd_M_countOf_43 rfl hl (by decide) rfl (fun ls hl => ?_)
        refine lv_iinc (k := 4) (v := nI (a + 1)) (lv' := [(4, .int (nI (a + 1))), (3, .int ((mf_count st f x a) + 1)), (0, .ref (ad 0 0)), (1, .int f), (2, .int x)]) hx hb zd_M_countOf_44 hl rfl (nI_succ _).symm (by decide) rfl (fun ls hl => ?_)
        refine lv_goto (tgt := 5) hx hb zd_M_countOf_47 (by decide) ?_
        exact iha _ _ _ ⟨(mf_count st f x a) + 1, (show (mf_count st f x a) + 1 = mf_count st f x (a + 1) from (by simp only [mf_count, if_pos h1, if_pos h2, fb_b_t, fb_b_f])), (lv_sub hl [2, 3, 4, 1, 0] rfl), hP, hD, hS⟩
  · skip
    intro H locs ls hI
    obtain ⟨x9, hx9, hl, hP, hD, hS⟩ := hI
    subst hx9
    refine lv_iload hx hb zd_M_countOf_5 (lv_at hl 4 rfl) ?_
    refine lv_aload_n hx hb zd_M_countOf_7 rfl (lv_at hl 0 rfl) ?_
    refine pw_get (C := "PausedFabricModel") (T := zT_M) (N := 28) hx hb hT zin_M hown hK hP (fb_memM (k := 0) rfl) rfl rfl 15 (by decide) (hT _ zi_451) (fun _ h9 => h9) rfl zd_M_countOf_8 ?_
    refine lv_icmp_ge (tgt := 50) hx hb zd_M_countOf_11 (by decide) (fun _ => ?_) (fun h9 => absurd (fb_lle (hok 15 0 rfl) (by omega)) h9)
    refine lv_iload_n hx hb zd_M_countOf_50 rfl (lv_at hl 3 rfl) ?_
    exact W.iret (v := mf_count st f x fr) hx hb hr (fun t ht hW => ⟨⟨mf_count st f x fr, st, rfl, ⟨(by simp only [mf_count, fb_b_t, fb_b_f]), rfl, hok⟩, by rw [ht]; exact hP, va_K.moved hW.alike hK, hD⟩, hS.F ht⟩) hS.2.2 zd_M_countOf_51
  · skip
    exact ⟨0, rfl, (lv_sub hl [2, 3, 4, 1, 0] rfl), hP, hD, hS⟩

set_option maxHeartbeats 4000000 in
set_option maxRecDepth 100000 in
theorem c_M_last (l : Launch) (D : va_G) (cA : Nat → ClassId) (ad : Nat → Nat → Nat) (fl fr T : Nat) (st : fb_S) (hflr : fl ≤ 12 ∧ fr ≤ 100 ∧ T ≤ 30000) (hok : fb_okM fl fr T st) (f : Int32) : fb_Mi l zy_M_last (zw_M_last :: lw_gd) { frames := 1, cells := 0, slots := 0, locals := 21 } (fb_cM cA) D fb_cl (fb_tys cA) ad fb_LM st [.ref (ad 0 0), .int f] (fun rr st1 => rr = mf_last st f fr ∧ st1 = st ∧ fb_okM fl fr T st1) := by
  have hfl : fl ≤ 12 := hflr.1
  have hfr : fr ≤ 100 := hflr.2.1
  have hTb : T ≤ 30000 := hflr.2.2
  intro sz
  refine Met.ofW (cc := zb_M_last) (maxL := 5) (ret := (some .int)) (by decide) rfl ?_
  intro p e s m args below meth c s₁ B hml hv
  obtain ⟨rfl, hsz, hP, hK, hD0⟩ := hv
  have hx := B.exec
  have hb := B.bytes
  have hr := B.returns
  have hts := atoms_spec (ws := zw_M_last :: lw_gd) B.pre
  have hT : ∀ w ∈ lw_gd, w.before _ s = true := fun w h => hts w (List.mem_cons_of_mem _ h)
  have hown : s.vm.findClass "PausedFabricModel" = some m.cls := findClass_of_methodNamed B.named
  have hlocks := B.notSynchronized
  subst hsz
  have hD := fb_D_self (sz := s.heap.size) hD0
  have hS : va_S (fb_A ad fb_LM s.heap.size) s.heap s.heap [] := va_S.rf
  have hl := lv_entry ([.ref (ad 0 0), .int f]) (n := 5) (Nat.le_of_ble_eq_true rfl)
  rw [lg_entry_eq]
  generalize (lg_sl ([.ref (ad 0 0), .int f]) ++ List.replicate (5 - (lg_sl ([.ref (ad 0 0), .int f])).length) Slot.unset).toArray = ls at hl ⊢
  have hl : lv_has ls 5 [(0, .ref (ad 0 0)), (1, .int f)] := hl
  refine lv_iconst (v := (-1)) hx hb zd_M_last_0 (by decide) ?_
  refine lv_istore_n (lv' := [(2, .int (-1)), (0, .ref (ad 0 0)), (1, .int f)]) hx hb zd_M_last_1 rfl hl (by decide) rfl (fun ls hl => ?_)
  refine lv_iconst (v := 0) hx hb zd_M_last_2 (by decide) ?_
  refine lv_istore_n (lv' := [(3, .int 0), (2, .int (-1)), (0, .ref (ad 0 0)), (1, .int f)]) hx hb zd_M_last_3 rfl hl (by decide) rfl (fun ls hl => ?_)
  refine pw_loop (n := fr) (Inv := fun (a : Nat) (H : Heap) (locs : List Loc) (ls : Array Slot) => ∃ (x9 : Int32), x9 = mf_last st f a ∧ lv_has ls 5 [(0, .ref (ad 0 0)), (1, .int f), (2, .int x9), (3, .int (nI a))] ∧ va_P D fb_cl (fb_wl (fb_cM cA) ad st fb_LM) H ∧ va_D (fb_A ad fb_LM s.heap.size) (fb_wl (fb_cM cA) ad st fb_LM) ∧ va_S (fb_A ad fb_LM s.heap.size) s.heap H locs) ?_ ?_ ?_
  · skip
    intro a hia H locs ls hI iha
    obtain ⟨x9, hx9, hl, hP, hD, hS⟩ := hI
    subst hx9
    refine lv_iload_n hx hb zd_M_last_4 rfl (lv_at hl 3 rfl) ?_
    refine lv_aload_n hx hb zd_M_last_5 rfl (lv_at hl 0 rfl) ?_
    refine pw_get (C := "PausedFabricModel") (T := zT_M) (N := 28) hx hb hT zin_M hown hK hP (fb_memM (k := 0) rfl) rfl rfl 15 (by decide) (hT _ zi_451) (fun _ h9 => h9) rfl zd_M_last_6 ?_
    refine lv_icmp_ge (tgt := 83) hx hb zd_M_last_9 (by decide) (fun h9 => absurd h9 (fb_lge (hok 15 0 rfl) hia (by omega))) (fun _ => ?_)
    refine lv_aload_n hx hb zd_M_last_12 rfl (lv_at hl 0 rfl) ?_
    refine lv_iload_n hx hb zd_M_last_13 rfl (lv_at hl 1 rfl) ?_
    refine pw_Vi (bytes := zb_M_isFlow) (maxL := 2) (ret := (some .boolean)) (As := [.int f]) (rest := []) ⟨hx, hb, hml, hown, hT⟩ (c_M_isFlow l D cA ad fl fr T st hflr hok f) (cwV 1 hT (fb_gV zi_534 zi_536 zs_M_isFlow zi_5 zc_M_isFlow) rfl rfl rfl (by decide +kernel) ⟨Nat.le_of_ble_eq_true rfl, Nat.le_of_ble_eq_true rfl⟩) hK hP hD hS (fb_recv hK hP (fb_memM (k := 0) rfl) rfl rfl) rfl hl.1 rfl (lv_room (Nat.le_of_ble_eq_true rfl)) zd_M_last_14 ⟨Nat.zero_le _, Nat.zero_le _⟩ (fun rx sx H locs hp hP hD hS => ?_)
    obtain ⟨hr9, hs, hok9⟩ := hp
    rw [hr9]
    rw [hs] at hP hD
    refine lv_if_eq (tgt := 83) hx hb zd_M_last_17 (by decide) (fun h1 => ?_) (fun h1 => ?_)
    · skip
      have h1b := fb_b0 h1
      refine lv_iload_n hx hb zd_M_last_83 rfl (lv_at hl 2 rfl) ?_
      exact W.iret (v := mf_last st f a) hx hb hr (fun t ht hW => ⟨⟨mf_last st f a, st, rfl, ⟨((fb_last0 h1b a).trans (fb_last0 h1b fr).symm), rfl, hok⟩, by rw [ht]; exact hP, va_K.moved hW.alike hK, hD⟩, hS.F ht⟩) hS.2.2 zd_M_last_84
    · skip
      have h1b := fb_b1 h1
      refine pw_cut (ls := ls) (X := fb_b (mf_rcv st f a)) (rest := []) 45 (fun H locs => va_P D fb_cl (fb_wl (fb_cM cA) ad st fb_LM) H ∧ va_D (fb_A ad fb_LM s.heap.size) (fb_wl (fb_cM cA) ad st fb_LM) ∧ va_S (fb_A ad fb_LM s.heap.size) s.heap H locs) ?_ (fun kj45 => ?_)
      · skip
        rintro x9 H locs h9 ⟨hP, hD, hS⟩
        subst h9
        refine lv_istore (lv' := [(4, .int (fb_b (mf_rcv st f a))), (0, .ref (ad 0 0)), (1, .int f), (2, .int (mf_last st f a)), (3, .int (nI a))]) hx hb zd_M_last_45 hl (by decide) rfl (fun ls hl => ?_)
        refine lv_iload hx hb zd_M_last_47 (lv_at hl 0 rfl) ?_
        refine lv_if_eq (tgt := 75) hx hb zd_M_last_49 (by decide) (fun h2 => ?_) (fun h2 => ?_)
        · skip
          have h2b := fb_b0 h2
          refine lv_iload_n hx hb zd_M_last_75 rfl (lv_at hl 3 rfl) ?_
          refine lv_istore_n (lv' := [(2, .int (mf_last st f a)), (4, .int (fb_b (mf_rcv st f a))), (0, .ref (ad 0 0)), (1, .int f), (3, .int (nI a))]) hx hb zd_M_last_76 rfl hl (by decide) rfl (fun ls hl => ?_)
          refine lv_iinc (k := 4) (v := nI (a + 1)) (lv' := [(3, .int (nI (a + 1))), (2, .int (mf_last st f a)), (4, .int (fb_b (mf_rcv st f a))), (0, .ref (ad 0 0)), (1, .int f)]) hx hb zd_M_last_77 hl rfl (nI_succ _).symm (by decide) rfl (fun ls hl => ?_)
          refine lv_goto (tgt := 4) hx hb zd_M_last_80 (by decide) ?_
          exact iha _ _ _ ⟨mf_last st f a, (show mf_last st f a = mf_last st f (a + 1) from (by simp only [mf_last, if_pos h1b, if_neg h2b, fb_b_t, fb_b_f])), (lv_sub hl [3, 4, 1, 0] rfl), hP, hD, hS⟩
        · skip
          have h2b := fb_b1 h2
          refine lv_iload_n hx hb zd_M_last_52 rfl (lv_at hl 3 rfl) ?_
          refine lv_if_lt (tgt := 71) hx hb zd_M_last_53 (by decide) (fun h3 => ?_) (fun h3 => ?_)
          · skip
            refine lv_iload_n hx hb zd_M_last_71 rfl (lv_at hl 4 rfl) ?_
            refine lv_goto (tgt := 76) hx hb zd_M_last_72 (by decide) ?_
            refine lv_istore_n (lv' := [(2, .int (nI a)), (4, .int (fb_b (mf_rcv st f a))), (0, .ref (ad 0 0)), (1, .int f), (3, .int (nI a))]) hx hb zd_M_last_76 rfl hl (by decide) rfl (fun ls hl => ?_)
            refine lv_iinc (k := 4) (v := nI (a + 1)) (lv' := [(3, .int (nI (a + 1))), (2, .int (nI a)), (4, .int (fb_b (mf_rcv st f a))), (0, .ref (ad 0 0)), (1, .int f)]) hx hb zd_M_last_77 hl rfl (nI_succ _).symm (by decide) rfl (fun ls hl => ?_)
            refine lv_goto (tgt := 4) hx hb zd_M_last_80 (by decide) ?_
            exact iha _ _ _ ⟨nI a, (show nI a = mf_last st f (a + 1) from (by simp only [mf_last, if_pos h1b, if_pos h2b, if_pos h3, fb_b_t, fb_b_f])), (lv_sub hl [3, 4, 1, 0] rfl), hP, hD, hS⟩
          · skip
            refine lv_aload_n hx hb zd_M_last_56 rfl (lv_at hl 1 rfl) ?_
            refine pw_get (C := "PausedFabricModel") (T := zT_M) (N := 28) hx hb hT zin_M hown hK hP (fb_memM (k := 0) rfl) rfl rfl 21 (by decide) (hT _ zi_457) (fun _ h9 => h9) rfl zd_M_last_57 ?_
            refine lv_iload_n hx hb zd_M_last_60 rfl (lv_at hl 4 rfl) ?_
            refine pw_iald (v := st 21 a) hx hb hK hP (fb_memM (k := 21) rfl) 0 rfl rfl (vp_in_nI (by omega) (by decide)) (congrArg (st 21) (nI_clamp (by omega))) zd_M_last_61 ?_
            refine lv_aload_n hx hb zd_M_last_62 rfl (lv_at hl 1 rfl) ?_
            refine pw_get (C := "PausedFabricModel") (T := zT_M) (N := 28) hx hb hT zin_M hown hK hP (fb_memM (k := 0) rfl) rfl rfl 21 (by decide) (hT _ zi_457) (fun _ h9 => h9) rfl zd_M_last_63 ?_
            refine lv_iload_n hx hb zd_M_last_66 rfl (lv_at hl 3 rfl) ?_
            refine pw_iald (v := st 21 (fb_n (mf_last st f a))) hx hb hK hP (fb_memM (k := 21) rfl) 0 rfl rfl (fb_inr (rg_last st f a (by omega)) h3 (by omega)) rfl zd_M_last_67 ?_
            refine lv_icmp_le (tgt := 75) hx hb zd_M_last_68 (by decide) (fun h4 => ?_) (fun h4 => ?_)
            · skip
              refine lv_iload_n hx hb zd_M_last_75 rfl (lv_at hl 3 rfl) ?_
              refine lv_istore_n (lv' := [(2, .int (mf_last st f a)), (4, .int (fb_b (mf_rcv st f a))), (0, .ref (ad 0 0)), (1, .int f), (3, .int (nI a))]) hx hb zd_M_last_76 rfl hl (by decide) rfl (fun ls hl => ?_)
              refine lv_iinc (k := 4) (v := nI (a + 1)) (lv' := [(3, .int (nI (a + 1))), (2, .int (mf_last st f a)), (4, .int (fb_b (mf_rcv st f a))), (0, .ref (ad 0 0)), (1, .int f)]) hx hb zd_M_last_77 hl rfl (nI_succ _).symm (by decide) rfl (fun ls hl => ?_)
              refine lv_goto (tgt := 4) hx hb zd_M_last_80 (by decide) ?_
              exact iha _ _ _ ⟨mf_last st f a, (show mf_last st f a = mf_last st f (a + 1) from (by simp only [mf_last, if_pos h1b, if_pos h2b, if_neg h3, if_pos h4, fb_b_t, fb_b_f])), (lv_sub hl [3, 4, 1, 0] rfl), hP, hD, hS⟩
            · skip
              refine lv_iload_n hx hb zd_M_last_71 rfl (lv_at hl 4 rfl) ?_
              refine lv_goto (tgt := 76) hx hb zd_M_last_72 (by decide) ?_
              refine lv_istore_n (lv' := [(2, .int (nI a)), (4, .int (fb_b (mf_rcv st f a))), (0, .ref (ad 0 0)), (1, .int f), (3, .int (nI a))]) hx hb zd_M_last_76 rfl hl (by decide) rfl (fun ls hl => ?_)
              refine lv_iinc (k := 4) (v := nI (a + 1)) (lv' := [(3, .int (nI (a + 1))), (2, .int (nI a)), (4, .int (fb_b (mf_rcv st f a))), (0, .ref (ad 0 0)), (1, .int f)]) hx hb zd_M_last_77 hl rfl (nI_succ _).symm (by decide) rfl (fun ls hl => ?_)
              refine lv_goto (tgt := 4) hx hb zd_M_last_80 (by decide) ?_
              exact iha _ _ _ ⟨nI a, (show nI a = mf_last st f (a + 1) from (by simp only [mf_last, if_pos h1b, if_pos h2b, if_neg h3, if_neg h4, fb_b_t, fb_b_f])), (lv_sub hl [3, 4, 1, 0] rfl), hP, hD, hS⟩
      · skip
        refine lv_aload_n hx hb zd_M_last_20 rfl (lv_at hl 0 rfl) ?_
        refine pw_get (C := "PausedFabricModel") (T := zT_M) (N := 28) hx hb hT zin_M hown hK hP (fb_memM (k := 0) rfl) rfl rfl 16 (by decide) (hT _ zi_452) (fun _ h9 => h9) rfl zd_M_last_21 ?_
        refine lv_iload_n hx hb zd_M_last_24 rfl (lv_at hl 3 rfl) ?_
        refine pw_iald (v := st 16 a) hx hb hK hP (fb_memM (k := 16) rfl) 0 rfl rfl (vp_in_nI (by omega) (by decide)) (congrArg (st 16) (nI_clamp (by omega))) zd_M_last_25 ?_
        refine lv_iload_n hx hb zd_M_last_26 rfl (lv_at hl 1 rfl) ?_
        refine lv_icmp_ne (tgt := 44) hx hb zd_M_last_27 (by decide) (fun h5 => ?_) (fun h5 => ?_)
        · skip
          refine lv_iconst (v := 0) hx hb zd_M_last_44 (by decide) ?_
          exact kj45 _ _ _ (show 0 = fb_b (mf_rcv st f a) from (by simp only [mf_rcv, if_pos h1b, if_neg h5, fb_b_t, fb_b_f])) ⟨hP, hD, hS⟩
        · skip
          refine lv_aload_n hx hb zd_M_last_30 rfl (lv_at hl 0 rfl) ?_
          refine pw_get (C := "PausedFabricModel") (T := zT_M) (N := 28) hx hb hT zin_M hown hK hP (fb_memM (k := 0) rfl) rfl rfl 18 (by decide) (hT _ zi_454) (fun _ h9 => h9) rfl zd_M_last_31 ?_
          refine lv_iload_n hx hb zd_M_last_34 rfl (lv_at hl 3 rfl) ?_
          refine pw_iald (v := st 18 a) hx hb hK hP (fb_memM (k := 18) rfl) 0 rfl rfl (vp_in_nI (by omega) (by decide)) (congrArg (st 18) (nI_clamp (by omega))) zd_M_last_35 ?_
          refine lv_iconst (v := 4) hx hb zd_M_last_36 (by decide) ?_
          refine lv_icmp_ne (tgt := 44) hx hb zd_M_last_37 (by decide) (fun h6 => ?_) (fun h6 => ?_)
          · skip
            refine lv_iconst (v := 0) hx hb zd_M_last_44 (by decide) ?_
            exact kj45 _ _ _ (show 0 = fb_b (mf_rcv st f a) from (by simp only [mf_rcv, if_pos h1b, if_pos h5, if_neg h6, fb_b_t, fb_b_f])) ⟨hP, hD, hS⟩
          · skip
            refine lv_iconst (v := 1) hx hb zd_M_last_40 (by decide) ?_
            refine lv_goto (tgt := 45) hx hb zd_M_last_41 (by decide) ?_
            exact kj45 _ _ _ (show 1 = fb_b (mf_rcv st f a) from (by simp only [mf_rcv, if_pos h1b, if_pos h5, if_pos h6, fb_b_t, fb_b_f])) ⟨hP, hD, hS⟩
  · skip
    intro H locs ls hI
    obtain ⟨x9, hx9, hl, hP, hD, hS⟩ := hI
    subst hx9
    refine lv_iload_n hx hb zd_M_last_4 rfl (lv_at hl 3 rfl) ?_
    refine lv_aload_n hx hb zd_M_last_5 rfl (lv_at hl 0 rfl) ?_
    refine pw_get (C := "PausedFabricModel") (T := zT_M) (N := 28) hx hb hT zin_M hown hK hP (fb_memM (k := 0) rfl) rfl rfl 15 (by decide) (hT _ zi_451) (fun _ h9 => h9) rfl zd_M_last_6 ?_
    refine lv_icmp_ge (tgt := 83) hx hb zd_M_last_9 (by decide) (fun _ => ?_) (fun h9 => absurd (fb_lle (hok 15 0 rfl) (by omega)) h9)
    refine lv_iload_n hx hb zd_M_last_83 rfl (lv_at hl 2 rfl) ?_
    exact W.iret (v := mf_last st f fr) hx hb hr (fun t ht hW => ⟨⟨mf_last st f fr, st, rfl, ⟨(by simp only [mf_last, fb_b_t, fb_b_f]), rfl, hok⟩, by rw [ht]; exact hP, va_K.moved hW.alike hK, hD⟩, hS.F ht⟩) hS.2.2 zd_M_last_84
  · skip
    exact ⟨(-1), rfl, (lv_sub hl [2, 3, 1, 0] rfl), hP, hD, hS⟩
