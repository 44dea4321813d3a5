/-! contracts (by program) -/
set_option maxHeartbeats 4000000 in
set_option maxRecDepth 100000 in
theorem c_M_endSending (l : Launch) (D : va_G) (cA : Nat → ClassId) (ad : Nat → Nat → Nat) (fl fr T : Nat) (st : fb_S) (hflr : fl ≤ 12 ∧ fr ≤ 100 ∧ T ≤ 30000) (hok : fb_okM fl fr T st) : fb_Mv l zy_M_endSending (zw_M_endSending :: lw_gd) { frames := 3, cells := 0, slots := 0, locals := 72 } (fb_cM cA) D fb_cl (fb_tys cA) ad fb_LM st [.ref (ad 0 0)] (fun st1 => st1 = fb_it (mf_endOne fr) fr st ∧ fb_okM fl fr T st1) := by
  have hfl : fl ≤ 12 := hflr.1
  have hfr : fr ≤ 100 := hflr.2.1
  have hTb : T ≤ 30000 := hflr.2.2
  intro sz
  refine Met.ofW (cc := zb_M_endSending) (maxL := 5) (ret := none) (by decide) rfl ?_
  intro p e s m args below meth c s₁ B hml hv
  obtain ⟨rfl, hsz, hP, hK, hD0⟩ := hv
  have hx := B.exec
  have hb := B.bytes
  have hr := B.returns
  have hts := atoms_spec (ws := zw_M_endSending :: lw_gd) B.pre
  have hT : ∀ w ∈ lw_gd, w.before _ s = true := fun w h => hts w (List.mem_cons_of_mem _ h)
  have hown : s.vm.findClass "PausedFabricModel" = some m.cls := findClass_of_methodNamed B.named
  have hlocks := B.notSynchronized
  subst hsz
  have hD := fb_D_self (sz := s.heap.size) hD0
  have hS : va_S (fb_A ad fb_LM s.heap.size) s.heap s.heap [] := va_S.rf
  have hl := lv_entry ([.ref (ad 0 0)]) (n := 5) (Nat.le_of_ble_eq_true rfl)
  rw [lg_entry_eq]
  generalize (lg_sl ([.ref (ad 0 0)]) ++ List.replicate (5 - (lg_sl ([.ref (ad 0 0)])).length) Slot.unset).toArray = ls at hl ⊢
  have hl : lv_has ls 5 [(0, .ref (ad 0 0))] := hl
  refine lv_iconst (v := 0) hx hb zd_M_endSending_0 (by decide) ?_
  refine lv_istore_n (lv' := [(1, .int 0), (0, .ref (ad 0 0))]) hx hb zd_M_endSending_1 rfl hl (by decide) rfl (fun ls hl => ?_)
  refine pw_loop (n := fr) (Inv := fun (a : Nat) (H : Heap) (locs : List Loc) (ls : Array Slot) => ∃ (S1 : fb_S), (S1 = fb_it (mf_endOne fr) a st) ∧ fb_okM fl fr T S1 ∧ lv_has ls 5 [(0, .ref (ad 0 0)), (1, .int (nI a))] ∧ va_P D fb_cl (fb_wl (fb_cM cA) ad S1 fb_LM) H ∧ va_D (fb_A ad fb_LM s.heap.size) (fb_wl (fb_cM cA) ad S1 fb_LM) ∧ va_S (fb_A ad fb_LM s.heap.size) s.heap H locs) ?_ ?_ ?_
  · skip
    intro a hia H locs ls hI iha
    obtain ⟨S1, hIa, okS1, hl, hP, hD, hS⟩ := hI
    refine lv_iload_n hx hb zd_M_endSending_2 rfl (lv_at hl 1 rfl) ?_
    refine lv_aload_n hx hb zd_M_endSending_3 rfl (lv_at hl 0 rfl) ?_
    refine pw_get (C := "PausedFabricModel") (T := zT_M) (N := 28) hx hb hT zin_M hown hK hP (fb_memM (k := 0) rfl) rfl rfl 15 (by decide) (hT _ zi_451) (fun _ h9 => h9) rfl zd_M_endSending_4 ?_
    refine lv_icmp_ge (tgt := 147) hx hb zd_M_endSending_7 (by decide) (fun h9 => absurd h9 (fb_lge (okS1 15 0 rfl) hia (by omega))) (fun _ => ?_)
    refine lv_aload_n hx hb zd_M_endSending_10 rfl (lv_at hl 0 rfl) ?_
    refine pw_get (C := "PausedFabricModel") (T := zT_M) (N := 28) hx hb hT zin_M hown hK hP (fb_memM (k := 0) rfl) rfl rfl 18 (by decide) (hT _ zi_454) (fun _ h9 => h9) rfl zd_M_endSending_11 ?_
    refine lv_iload_n hx hb zd_M_endSending_14 rfl (lv_at hl 1 rfl) ?_
    refine pw_iald (v := S1 18 a) hx hb hK hP (fb_memM (k := 18) rfl) 0 rfl rfl (vp_in_nI (by omega) (by decide)) (congrArg (S1 18) (nI_clamp (by omega))) zd_M_endSending_15 ?_
    refine lv_iconst (v := 2) hx hb zd_M_endSending_16 (by decide) ?_
    refine lv_icmp_ne (tgt := 141) hx hb zd_M_endSending_17 (by decide) (fun h1 => ?_) (fun h1 => ?_)
    · skip
      refine lv_iinc (k := 1) (v := nI (a + 1)) (lv' := [(1, .int (nI (a + 1))), (0, .ref (ad 0 0))]) hx hb zd_M_endSending_141 hl rfl (nI_succ _).symm (by decide) rfl (fun ls hl => ?_)
      refine lv_goto (tgt := 2) hx hb zd_M_endSending_144 (by decide) ?_
      exact iha _ _ _ ⟨S1, ((show S1 = mf_endOne fr a S1 from by first | (simp only [mf_endOne, if_neg h1]; done) | rfl).trans (congrArg (mf_endOne fr a) hIa)), okS1, (lv_sub hl [1, 0] rfl), hP, hD, hS⟩
    · skip
      refine lv_aload_n hx hb zd_M_endSending_20 rfl (lv_at hl 0 rfl) ?_
      refine pw_get (C := "PausedFabricModel") (T := zT_M) (N := 28) hx hb hT zin_M hown hK hP (fb_memM (k := 0) rfl) rfl rfl 21 (by decide) (hT _ zi_457) (fun _ h9 => h9) rfl zd_M_endSending_21 ?_
      refine lv_iload_n hx hb zd_M_endSending_24 rfl (lv_at hl 1 rfl) ?_
      refine pw_iald (v := S1 21 a) hx hb hK hP (fb_memM (k := 21) rfl) 0 rfl rfl (vp_in_nI (by omega) (by decide)) (congrArg (S1 21) (nI_clamp (by omega))) zd_M_endSending_25 ?_
      refine lv_aload_n hx hb zd_M_endSending_26 rfl (lv_at hl 0 rfl) ?_
      refine pw_get (C := "PausedFabricModel") (T := zT_M) (N := 28) hx hb hT zin_M hown hK hP (fb_memM (k := 0) rfl) rfl rfl 4 (by decide) (hT _ zi_440) (fun _ h9 => h9) rfl zd_M_endSending_27 ?_
      refine lv_icmp_ne (tgt := 141) hx hb zd_M_endSending_30 (by decide) (fun h2 => ?_) (fun h2 => ?_)
      · skip
        refine lv_iinc (k := 1) (v := nI (a + 1)) (lv' := [(1, .int (nI (a + 1))), (0, .ref (ad 0 0))]) hx hb zd_M_endSending_141 hl rfl (nI_succ _).symm (by decide) rfl (fun ls hl => ?_)
        refine lv_goto (tgt := 2) hx hb zd_M_endSending_144 (by decide) ?_
        exact iha _ _ _ ⟨S1, ((show S1 = mf_endOne fr a S1 from by first | (simp only [mf_endOne, if_pos h1, if_neg h2]; done) | rfl).trans (congrArg (mf_endOne fr a) hIa)), okS1, (lv_sub hl [1, 0] rfl), hP, hD, hS⟩
      · skip
        refine lv_aload_n hx hb zd_M_endSending_33 rfl (lv_at hl 0 rfl) ?_
        refine pw_get (C := "PausedFabricModel") (T := zT_M) (N := 28) hx hb hT zin_M hown hK hP (fb_memM (k := 0) rfl) rfl rfl 18 (by decide) (hT _ zi_454) (fun _ h9 => h9) rfl zd_M_endSending_34 ?_
        refine lv_iload_n hx hb zd_M_endSending_37 rfl (lv_at hl 1 rfl) ?_
        refine lv_iconst (v := 3) hx hb zd_M_endSending_38 (by decide) ?_
        refine pw_iast hx hb hK hP hD hS (fb_memM (k := 18) rfl) 0 rfl rfl (vp_in_nI (by omega) (by decide)) (fb_up S1 18 a 3) (by rw [nI_clamp (by omega)]; exact (pa_M18 _ _ _)) (fb_hoM _ 18 _ _ owM_18) zd_M_endSending_39 (fun H locs hP hD hS => ?_)
        obtain ⟨s3, es3⟩ : ∃ z, z = fb_up S1 18 a 3 := ⟨_, rfl⟩
        have oks3 : fb_okM fl fr T s3 := es3 ▸ (fb_okM_up okS1 trivial)
        rw [← es3] at hP hD
        refine lv_aload_n hx hb zd_M_endSending_40 rfl (lv_at hl 0 rfl) ?_
        refine pw_get (C := "PausedFabricModel") (T := zT_M) (N := 28) hx hb hT zin_M hown hK hP (fb_memM (k := 0) rfl) rfl rfl 16 (by decide) (hT _ zi_452) (fun _ h9 => h9) rfl zd_M_endSending_41 ?_
        refine lv_iload_n hx hb zd_M_endSending_44 rfl (lv_at hl 1 rfl) ?_
        refine pw_iald (v := s3 16 a) hx hb hK hP (fb_memM (k := 16) rfl) 0 rfl rfl (vp_in_nI (by omega) (by decide)) (congrArg (s3 16) (nI_clamp (by omega))) zd_M_endSending_45 ?_
        refine lv_istore_n (lv' := [(2, .int (s3 16 a)), (0, .ref (ad 0 0)), (1, .int (nI a))]) hx hb zd_M_endSending_46 rfl hl (by decide) rfl (fun ls hl => ?_)
        refine lv_aload_n hx hb zd_M_endSending_47 rfl (lv_at hl 1 rfl) ?_
        refine pw_get (C := "PausedFabricModel") (T := zT_M) (N := 28) hx hb hT zin_M hown hK hP (fb_memM (k := 0) rfl) rfl rfl 19 (by decide) (hT _ zi_455) (fun _ h9 => h9) rfl zd_M_endSending_48 ?_
        refine lv_iload_n hx hb zd_M_endSending_51 rfl (lv_at hl 2 rfl) ?_
        refine pw_iald (v := s3 19 a) hx hb hK hP (fb_memM (k := 19) rfl) 0 rfl rfl (vp_in_nI (by omega) (by decide)) (congrArg (s3 19) (nI_clamp (by omega))) zd_M_endSending_52 ?_
        refine lv_if_le (tgt := 141) hx hb zd_M_endSending_53 (by decide) (fun h4 => ?_) (fun h4 => ?_)
        · skip
          refine lv_iinc (k := 2) (v := nI (a + 1)) (lv' := [(1, .int (nI (a + 1))), (2, .int (s3 16 a)), (0, .ref (ad 0 0))]) hx hb zd_M_endSending_141 hl rfl (nI_succ _).symm (by decide) rfl (fun ls hl => ?_)
          refine lv_goto (tgt := 2) hx hb zd_M_endSending_144 (by decide) ?_
          exact iha _ _ _ ⟨s3, ((show s3 = mf_endOne fr a S1 from by subst es3; first | (simp only [mf_endOne, if_pos h1, if_pos h2, if_pos h4]; done) | rfl).trans (congrArg (mf_endOne fr a) hIa)), oks3, (lv_sub hl [2, 0] rfl), hP, hD, hS⟩
        · skip
          refine lv_aload_n hx hb zd_M_endSending_56 rfl (lv_at hl 1 rfl) ?_
          refine pw_get (C := "PausedFabricModel") (T := zT_M) (N := 28) hx hb hT zin_M hown hK hP (fb_memM (k := 0) rfl) rfl rfl 9 (by decide) (hT _ zi_445) (fun _ h9 => h9) rfl zd_M_endSending_57 ?_
          refine lv_iload_n hx hb zd_M_endSending_60 rfl (lv_at hl 0 rfl) ?_
          refine pw_iald (v := s3 9 (fb_n (s3 16 a))) hx hb hK hP (fb_memM (k := 9) rfl) 0 rfl rfl (oks3 16 _).1 rfl zd_M_endSending_61 ?_
          refine lv_if_ne (tgt := 141) hx hb zd_M_endSending_62 (by decide) (fun h5 => ?_) (fun h5 => ?_)
          · skip
            refine lv_iinc (k := 2) (v := nI (a + 1)) (lv' := [(1, .int (nI (a + 1))), (2, .int (s3 16 a)), (0, .ref (ad 0 0))]) hx hb zd_M_endSending_141 hl rfl (nI_succ _).symm (by decide) rfl (fun ls hl => ?_)
            refine lv_goto (tgt := 2) hx hb zd_M_endSending_144 (by decide) ?_
            exact iha _ _ _ ⟨s3, ((show s3 = mf_endOne fr a S1 from by subst es3; first | (simp only [mf_endOne, if_pos h1, if_pos h2, if_neg h4, if_neg h5]; done) | rfl).trans (congrArg (mf_endOne fr a) hIa)), oks3, (lv_sub hl [2, 0] rfl), hP, hD, hS⟩
          · skip
            refine lv_aload_n hx hb zd_M_endSending_65 rfl (lv_at hl 1 rfl) ?_
            refine lv_iload_n hx hb zd_M_endSending_66 rfl (lv_at hl 0 rfl) ?_
            refine lv_aload_n hx hb zd_M_endSending_67 rfl (lv_at hl 1 rfl) ?_
            refine pw_get (C := "PausedFabricModel") (T := zT_M) (N := 28) hx hb hT zin_M hown hK hP (fb_memM (k := 0) rfl) rfl rfl 19 (by decide) (hT _ zi_455) (fun _ h9 => h9) rfl zd_M_endSending_68 ?_
            refine lv_iload_n hx hb zd_M_endSending_71 rfl (lv_at hl 2 rfl) ?_
            refine pw_iald (v := s3 19 a) hx hb hK hP (fb_memM (k := 19) rfl) 0 rfl rfl (vp_in_nI (by omega) (by decide)) (congrArg (s3 19) (nI_clamp (by omega))) zd_M_endSending_72 ?_
            refine lv_iconst (v := 1) hx hb zd_M_endSending_73 (by decide) ?_
            refine lv_isub hx hb zd_M_endSending_74 ?_
            refine pw_Vi (bytes := zb_M_nodeAt) (maxL := 4) (ret := (some .int)) (As := [.int (s3 16 a), .int ((s3 19 a) - 1)]) (rest := []) ⟨hx, hb, hml, hown, hT⟩ (c_M_nodeAt l D cA ad fl fr T s3 hflr oks3 (s3 16 a) ((s3 19 a) - 1) (oks3 16 _).1) (cwV 2 hT (fb_gV zi_554 zi_556 zs_M_nodeAt zi_5 zc_M_nodeAt) rfl rfl rfl (by decide +kernel) ⟨Nat.le_of_ble_eq_true rfl, Nat.le_of_ble_eq_true rfl⟩) hK hP hD hS (fb_recv hK hP (fb_memM (k := 0) rfl) rfl rfl) rfl hl.1 rfl (lv_room (Nat.le_of_ble_eq_true rfl)) zd_M_endSending_75 ⟨Nat.zero_le _, Nat.zero_le _⟩ (fun rx sx H locs hp hP hD hS => ?_)
            obtain ⟨hr9, hs, hok9⟩ := hp
            rw [hr9]
            rw [hs] at hP hD
            refine lv_istore_n (lv' := [(3, .int (mf_node s3 (s3 16 a) ((s3 19 a) - 1))), (2, .int (s3 16 a)), (0, .ref (ad 0 0)), (1, .int (nI a))]) hx hb zd_M_endSending_78 rfl hl (by decide) rfl (fun ls hl => ?_)
            refine lv_aload_n hx hb zd_M_endSending_79 rfl (lv_at hl 2 rfl) ?_
            refine lv_iload_n hx hb zd_M_endSending_80 rfl (lv_at hl 1 rfl) ?_
            refine lv_aload_n hx hb zd_M_endSending_81 rfl (lv_at hl 2 rfl) ?_
            refine pw_get (C := "PausedFabricModel") (T := zT_M) (N := 28) hx hb hT zin_M hown hK hP (fb_memM (k := 0) rfl) rfl rfl 19 (by decide) (hT _ zi_455) (fun _ h9 => h9) rfl zd_M_endSending_82 ?_
            refine lv_iload_n hx hb zd_M_endSending_85 rfl (lv_at hl 3 rfl) ?_
            refine pw_iald (v := s3 19 a) hx hb hK hP (fb_memM (k := 19) rfl) 0 rfl rfl (vp_in_nI (by omega) (by decide)) (congrArg (s3 19) (nI_clamp (by omega))) zd_M_endSending_86 ?_
            refine pw_Vi (bytes := zb_M_nodeAt) (maxL := 4) (ret := (some .int)) (As := [.int (s3 16 a), .int (s3 19 a)]) (rest := []) ⟨hx, hb, hml, hown, hT⟩ (c_M_nodeAt l D cA ad fl fr T s3 hflr oks3 (s3 16 a) (s3 19 a) (oks3 16 _).1) (cwV 2 hT (fb_gV zi_554 zi_556 zs_M_nodeAt zi_5 zc_M_nodeAt) rfl rfl rfl (by decide +kernel) ⟨Nat.le_of_ble_eq_true rfl, Nat.le_of_ble_eq_true rfl⟩) hK hP hD hS (fb_recv hK hP (fb_memM (k := 0) rfl) rfl rfl) rfl hl.1 rfl (lv_room (Nat.le_of_ble_eq_true rfl)) zd_M_endSending_87 ⟨Nat.zero_le _, Nat.zero_le _⟩ (fun rx sx H locs hp hP hD hS => ?_)
            obtain ⟨hr9, hs, hok9⟩ := hp
            rw [hr9]
            rw [hs] at hP hD
            refine lv_istore (lv' := [(4, .int (mf_node s3 (s3 16 a) (s3 19 a))), (3, .int (mf_node s3 (s3 16 a) ((s3 19 a) - 1))), (2, .int (s3 16 a)), (0, .ref (ad 0 0)), (1, .int (nI a))]) hx hb zd_M_endSending_90 hl (by decide) rfl (fun ls hl => ?_)
            refine lv_aload_n hx hb zd_M_endSending_92 rfl (lv_at hl 3 rfl) ?_
            refine pw_get (C := "PausedFabricModel") (T := zT_M) (N := 28) hx hb hT zin_M hown hK hP (fb_memM (k := 0) rfl) rfl rfl 26 (by decide) (hT _ zi_462) (fun _ h9 => h9) rfl zd_M_endSending_93 ?_
            refine lv_bipush (v := 14) hx hb zd_M_endSending_96 (by decide) ?_
            refine lv_iload_n hx hb zd_M_endSending_98 rfl (lv_at hl 1 rfl) ?_
            refine lv_imul hx hb zd_M_endSending_99 ?_
            refine lv_iload hx hb zd_M_endSending_100 (lv_at hl 0 rfl) ?_
            refine lv_iadd hx hb zd_M_endSending_102 ?_
            refine lv_aload_n hx hb zd_M_endSending_103 rfl (lv_at hl 3 rfl) ?_
            refine pw_get (C := "PausedFabricModel") (T := zT_M) (N := 28) hx hb hT zin_M hown hK hP (fb_memM (k := 0) rfl) rfl rfl 26 (by decide) (hT _ zi_462) (fun _ h9 => h9) rfl zd_M_endSending_104 ?_
            refine lv_bipush (v := 14) hx hb zd_M_endSending_107 (by decide) ?_
            refine lv_iload_n hx hb zd_M_endSending_109 rfl (lv_at hl 1 rfl) ?_
            refine lv_imul hx hb zd_M_endSending_110 ?_
            refine lv_iload hx hb zd_M_endSending_111 (lv_at hl 0 rfl) ?_
            refine lv_iadd hx hb zd_M_endSending_113 ?_
            refine pw_zald (v := s3 26 (fb_n ((14 * (mf_node s3 (s3 16 a) ((s3 19 a) - 1))) + (mf_node s3 (s3 16 a) (s3 19 a))))) hx hb hK hP (fb_memM (k := 26) rfl) 5 rfl rfl (fb_in14 (rg_node oks3 (oks3 16 _).1 _) (rg_node oks3 (oks3 16 _).1 _)) rfl zd_M_endSending_114 ?_
            refine lv_if_eq (tgt := 139) hx hb zd_M_endSending_115 (by decide) (fun h6 => ?_) (fun h6 => ?_)
            · skip
              refine lv_iconst (v := 0) hx hb zd_M_endSending_139 (by decide) ?_
              refine pw_zast hx hb hK hP hD hS (fb_memM (k := 26) rfl) 5 rfl rfl (fb_in14 (rg_node oks3 (oks3 16 _).1 _) (rg_node oks3 (oks3 16 _).1 _)) (fb_up s3 26 (fb_n ((14 * (mf_node s3 (s3 16 a) ((s3 19 a) - 1))) + (mf_node s3 (s3 16 a) (s3 19 a)))) 0) (pz_M26 _ _ (Or.inl rfl)) (fb_hoM _ 26 _ _ owM_26) zd_M_endSending_140 (fun H locs hP hD hS => ?_)
              obtain ⟨s7, es7⟩ : ∃ z, z = fb_up s3 26 (fb_n ((14 * (mf_node s3 (s3 16 a) ((s3 19 a) - 1))) + (mf_node s3 (s3 16 a) (s3 19 a)))) 0 := ⟨_, rfl⟩
              have oks7 : fb_okM fl fr T s7 := es7 ▸ (fb_okM_up oks3 (Or.inl rfl))
              rw [← es7] at hP hD
              refine lv_iinc (k := 4) (v := nI (a + 1)) (lv' := [(1, .int (nI (a + 1))), (4, .int (mf_node s3 (s3 16 a) (s3 19 a))), (3, .int (mf_node s3 (s3 16 a) ((s3 19 a) - 1))), (2, .int (s3 16 a)), (0, .ref (ad 0 0))]) hx hb zd_M_endSending_141 hl rfl (nI_succ _).symm (by decide) rfl (fun ls hl => ?_)
              refine lv_goto (tgt := 2) hx hb zd_M_endSending_144 (by decide) ?_
              exact iha _ _ _ ⟨s7, ((show s7 = mf_endOne fr a S1 from by subst es7 es3; first | (simp only [mf_endOne, if_pos h1, if_pos h2, if_neg h4, if_pos h5, if_pos h6]; done) | rfl).trans (congrArg (mf_endOne fr a) hIa)), oks7, (lv_sub hl [4, 0] rfl), hP, hD, hS⟩
            · skip
              refine lv_aload_n hx hb zd_M_endSending_118 rfl (lv_at hl 3 rfl) ?_
              refine lv_iload_n hx hb zd_M_endSending_119 rfl (lv_at hl 1 rfl) ?_
              refine lv_iload hx hb zd_M_endSending_120 (lv_at hl 0 rfl) ?_
              refine lv_iconst (v := 0) hx hb zd_M_endSending_122 (by decide) ?_
              refine pw_Vi (bytes := zb_M_holds) (maxL := 9) (ret := (some .int)) (As := [.int (mf_node s3 (s3 16 a) ((s3 19 a) - 1)), .int (mf_node s3 (s3 16 a) (s3 19 a)), .int 0]) (rest := [.int ((14 * (mf_node s3 (s3 16 a) ((s3 19 a) - 1))) + (mf_node s3 (s3 16 a) (s3 19 a))), .ref (ad 26 0)]) ⟨hx, hb, hml, hown, hT⟩ (c_M_holds l D cA ad fl fr T s3 hflr oks3 (mf_node s3 (s3 16 a) ((s3 19 a) - 1)) (mf_node s3 (s3 16 a) (s3 19 a)) 0) (cwV 3 hT (fb_gV zi_562 zi_564 zs_M_holds zi_5 zc_M_holds) rfl rfl rfl (by decide +kernel) ⟨Nat.le_of_ble_eq_true rfl, Nat.le_of_ble_eq_true rfl⟩) hK hP hD hS (fb_recv hK hP (fb_memM (k := 0) rfl) rfl rfl) rfl hl.1 rfl (lv_room (Nat.le_of_ble_eq_true rfl)) zd_M_endSending_123 ⟨Nat.zero_le _, Nat.zero_le _⟩ (fun rx sx H locs hp hP hD hS => ?_)
              obtain ⟨hr9, hs, hok9⟩ := hp
              rw [hr9]
              rw [hs] at hP hD
              refine lv_aload_n hx hb zd_M_endSending_126 rfl (lv_at hl 3 rfl) ?_
              refine pw_get (C := "PausedFabricModel") (T := zT_M) (N := 28) hx hb hT zin_M hown hK hP (fb_memM (k := 0) rfl) rfl rfl 1 (by decide) (hT _ zi_437) (fun _ h9 => h9) rfl zd_M_endSending_127 ?_
              refine lv_iconst (v := 2) hx hb zd_M_endSending_130 (by decide) ?_
              refine lv_idiv hx hb zd_M_endSending_131 (by decide) ?_
              refine lv_icmp_le (tgt := 139) hx hb zd_M_endSending_132 (by decide) (fun h8 => ?_) (fun h8 => ?_)
              · skip
                refine lv_iconst (v := 0) hx hb zd_M_endSending_139 (by decide) ?_
                refine pw_zast hx hb hK hP hD hS (fb_memM (k := 26) rfl) 5 rfl rfl (fb_in14 (rg_node oks3 (oks3 16 _).1 _) (rg_node oks3 (oks3 16 _).1 _)) (fb_up s3 26 (fb_n ((14 * (mf_node s3 (s3 16 a) ((s3 19 a) - 1))) + (mf_node s3 (s3 16 a) (s3 19 a)))) 0) (pz_M26 _ _ (Or.inl rfl)) (fb_hoM _ 26 _ _ owM_26) zd_M_endSending_140 (fun H locs hP hD hS => ?_)
                obtain ⟨s9, es9⟩ : ∃ z, z = fb_up s3 26 (fb_n ((14 * (mf_node s3 (s3 16 a) ((s3 19 a) - 1))) + (mf_node s3 (s3 16 a) (s3 19 a)))) 0 := ⟨_, rfl⟩
                have oks9 : fb_okM fl fr T s9 := es9 ▸ (fb_okM_up oks3 (Or.inl rfl))
                rw [← es9] at hP hD
                refine lv_iinc (k := 4) (v := nI (a + 1)) (lv' := [(1, .int (nI (a + 1))), (4, .int (mf_node s3 (s3 16 a) (s3 19 a))), (3, .int (mf_node s3 (s3 16 a) ((s3 19 a) - 1))), (2, .int (s3 16 a)), (0, .ref (ad 0 0))]) hx hb zd_M_endSending_141 hl rfl (nI_succ _).symm (by decide) rfl (fun ls hl => ?_)
                refine lv_goto (tgt := 2) hx hb zd_M_endSending_144 (by decide) ?_
                exact iha _ _ _ ⟨s9, ((show s9 = mf_endOne fr a S1 from by subst es9 es3; first | (simp only [mf_endOne, if_pos h1, if_pos h2, if_neg h4, if_pos h5, if_neg h6, if_pos h8]; done) | rfl).trans (congrArg (mf_endOne fr a) hIa)), oks9, (lv_sub hl [4, 0] rfl), hP, hD, hS⟩
              · skip
                refine lv_iconst (v := 1) hx hb zd_M_endSending_135 (by decide) ?_
                refine lv_goto (tgt := 140) hx hb zd_M_endSending_136 (by decide) ?_
                refine pw_zast hx hb hK hP hD hS (fb_memM (k := 26) rfl) 5 rfl rfl (fb_in14 (rg_node oks3 (oks3 16 _).1 _) (rg_node oks3 (oks3 16 _).1 _)) (fb_up s3 26 (fb_n ((14 * (mf_node s3 (s3 16 a) ((s3 19 a) - 1))) + (mf_node s3 (s3 16 a) (s3 19 a)))) 1) (pz_M26 _ _ (Or.inr rfl)) (fb_hoM _ 26 _ _ owM_26) zd_M_endSending_140 (fun H locs hP hD hS => ?_)
                obtain ⟨s10, es10⟩ : ∃ z, z = fb_up s3 26 (fb_n ((14 * (mf_node s3 (s3 16 a) ((s3 19 a) - 1))) + (mf_node s3 (s3 16 a) (s3 19 a)))) 1 := ⟨_, rfl⟩
                have oks10 : fb_okM fl fr T s10 := es10 ▸ (fb_okM_up oks3 (Or.inr rfl))
                rw [← es10] at hP hD
                refine lv_iinc (k := 4) (v := nI (a + 1)) (lv' := [(1, .int (nI (a + 1))), (4, .int (mf_node s3 (s3 16 a) (s3 19 a))), (3, .int (mf_node s3 (s3 16 a) ((s3 19 a) - 1))), (2, .int (s3 16 a)), (0, .ref (ad 0 0))]) hx hb zd_M_endSending_141 hl rfl (nI_succ _).symm (by decide) rfl (fun ls hl => ?_)
                refine lv_goto (tgt := 2) hx hb zd_M_endSending_144 (by decide) ?_
                exact iha _ _ _ ⟨s10, ((show s10 = mf_endOne fr a S1 from by subst es10 es3; first | (simp only [mf_endOne, if_pos h1, if_pos h2, if_neg h4, if_pos h5, if_neg h6, if_neg h8]; done) | rfl).trans (congrArg (mf_endOne fr a) hIa)), oks10, (lv_sub hl [4, 0] rfl), hP, hD, hS⟩
  · skip
    intro H locs ls hI
    obtain ⟨S1, hIa, okS1, hl, hP, hD, hS⟩ := hI
    refine lv_iload_n hx hb zd_M_endSending_2 rfl (lv_at hl 1 rfl) ?_
    refine lv_aload_n hx hb zd_M_endSending_3 rfl (lv_at hl 0 rfl) ?_
    refine pw_get (C := "PausedFabricModel") (T := zT_M) (N := 28) hx hb hT zin_M hown hK hP (fb_memM (k := 0) rfl) rfl rfl 15 (by decide) (hT _ zi_451) (fun _ h9 => h9) rfl zd_M_endSending_4 ?_
    refine lv_icmp_ge (tgt := 147) hx hb zd_M_endSending_7 (by decide) (fun _ => ?_) (fun h9 => absurd (fb_lle (okS1 15 0 rfl) (by omega)) h9)
    exact W.vret hx hb hr (fun t ht hW => ⟨⟨S1, rfl, ⟨(by subst hIa; simp only [fb_b_t, fb_b_f]), okS1⟩, by rw [ht]; exact hP, va_K.moved hW.alike hK, hD⟩, hS.F ht⟩) hS.2.2 zd_M_endSending_147
  · skip
    exact ⟨st, rfl, hok, (lv_sub hl [1, 0] rfl), hP, hD, hS⟩

set_option maxHeartbeats 4000000 in
set_option maxRecDepth 100000 in
theorem c_M_slow (l : Launch) (D : va_G) (cA : Nat → ClassId) (ad : Nat → Nat → Nat) (fl fr T : Nat) (st : fb_S) (hflr : fl ≤ 12 ∧ fr ≤ 100 ∧ T ≤ 30000) (hok : fb_okM fl fr T st) (f : Nat) (hf : f < fl) : fb_Mv l zy_M_slow (zw_M_slow :: lw_gd) { frames := 1, cells := 0, slots := 0, locals := 23 } (fb_cM cA) D fb_cl (fb_tys cA) ad fb_LM st [.ref (ad 0 0), .int (nI f)] (fun st1 => st1 = mf_slow fr f st ∧ fb_okM fl fr T st1) := by
  have hfl : fl ≤ 12 := hflr.1
  have hfr : fr ≤ 100 := hflr.2.1
  have hTb : T ≤ 30000 := hflr.2.2
  intro sz
  refine Met.ofW (cc := zb_M_slow) (maxL := 3) (ret := none) (by decide) rfl ?_
  intro p e s m args below meth c s₁ B hml hv
  obtain ⟨rfl, hsz, hP, hK, hD0⟩ := hv
  have hx := B.exec
  have hb := B.bytes
  have hr := B.returns
  have hts := atoms_spec (ws := zw_M_slow :: lw_gd) B.pre
  have hT : ∀ w ∈ lw_gd, w.before _ s = true := fun w h => hts w (List.mem_cons_of_mem _ h)
  have hown : s.vm.findClass "PausedFabricModel" = some m.cls := findClass_of_methodNamed B.named
  have hlocks := B.notSynchronized
  subst hsz
  have hD := fb_D_self (sz := s.heap.size) hD0
  have hS : va_S (fb_A ad fb_LM s.heap.size) s.heap s.heap [] := va_S.rf
  have hl := lv_entry ([.ref (ad 0 0), .int (nI f)]) (n := 3) (Nat.le_of_ble_eq_true rfl)
  rw [lg_entry_eq]
  generalize (lg_sl ([.ref (ad 0 0), .int (nI f)]) ++ List.replicate (3 - (lg_sl ([.ref (ad 0 0), .int (nI f)])).length) Slot.unset).toArray = ls at hl ⊢
  have hl : lv_has ls 3 [(0, .ref (ad 0 0)), (1, .int (nI f))] := hl
  refine lv_aload_n hx hb zd_M_slow_0 rfl (lv_at hl 0 rfl) ?_
  refine lv_iload_n hx hb zd_M_slow_1 rfl (lv_at hl 1 rfl) ?_
  refine pw_Vi (bytes := zb_M_told) (maxL := 4) (ret := (some .boolean)) (As := [.int (nI f)]) (rest := []) ⟨hx, hb, hml, hown, hT⟩ (c_M_told l D cA ad fl fr T st hflr hok (nI f)) (cwV 1 hT (fb_gV zi_570 zi_572 zs_M_told zi_5 zc_M_told) rfl rfl rfl (by decide +kernel) ⟨Nat.le_of_ble_eq_true rfl, Nat.le_of_ble_eq_true rfl⟩) hK hP hD hS (fb_recv hK hP (fb_memM (k := 0) rfl) rfl rfl) rfl hl.1 rfl (lv_room (Nat.le_of_ble_eq_true rfl)) zd_M_slow_2 ⟨Nat.zero_le _, Nat.zero_le _⟩ (fun rx sx H locs hp hP hD hS => ?_)
  obtain ⟨hr9, hs, hok9⟩ := hp
  rw [hr9]
  rw [hs] at hP hD
  refine lv_if_eq (tgt := 90) hx hb zd_M_slow_5 (by decide) (fun h1 => ?_) (fun h1 => ?_)
  · skip
    have h1b := fb_b0 h1
    refine lv_aload_n hx hb zd_M_slow_90 rfl (lv_at hl 0 rfl) ?_
    refine pw_get (C := "PausedFabricModel") (T := zT_M) (N := 28) hx hb hT zin_M hown hK hP (fb_memM (k := 0) rfl) rfl rfl 13 (by decide) (hT _ zi_449) (fun _ h9 => h9) rfl zd_M_slow_91 ?_
    refine lv_iload_n hx hb zd_M_slow_94 rfl (lv_at hl 1 rfl) ?_
    refine lv_aload_n hx hb zd_M_slow_95 rfl (lv_at hl 0 rfl) ?_
    refine pw_get (C := "PausedFabricModel") (T := zT_M) (N := 28) hx hb hT zin_M hown hK hP (fb_memM (k := 0) rfl) rfl rfl 13 (by decide) (hT _ zi_449) (fun _ h9 => h9) rfl zd_M_slow_96 ?_
    refine lv_iload_n hx hb zd_M_slow_99 rfl (lv_at hl 1 rfl) ?_
    refine pw_iald (v := st 13 f) hx hb hK hP (fb_memM (k := 13) rfl) 0 rfl rfl (vp_in_nI (by omega) (by decide)) (congrArg (st 13) (nI_clamp (by omega))) zd_M_slow_100 ?_
    refine lv_iconst (v := 1) hx hb zd_M_slow_101 (by decide) ?_
    refine lv_iadd hx hb zd_M_slow_102 ?_
    refine pw_iast hx hb hK hP hD hS (fb_memM (k := 13) rfl) 0 rfl rfl (vp_in_nI (by omega) (by decide)) (fb_up st 13 f ((st 13 f) + 1)) (by rw [nI_clamp (by omega)]; exact (pa_M13 _ _ _)) (fb_hoM _ 13 _ _ owM_13) zd_M_slow_103 (fun H locs hP hD hS => ?_)
    obtain ⟨s2, es2⟩ : ∃ z, z = fb_up st 13 f ((st 13 f) + 1) := ⟨_, rfl⟩
    have oks2 : fb_okM fl fr T s2 := es2 ▸ (fb_okM_up hok trivial)
    rw [← es2] at hP hD
    refine lv_aload_n hx hb zd_M_slow_104 rfl (lv_at hl 0 rfl) ?_
    refine pw_get (C := "PausedFabricModel") (T := zT_M) (N := 28) hx hb hT zin_M hown hK hP (fb_memM (k := 0) rfl) rfl rfl 13 (by decide) (hT _ zi_449) (fun _ h9 => h9) rfl zd_M_slow_105 ?_
    refine lv_iload_n hx hb zd_M_slow_108 rfl (lv_at hl 1 rfl) ?_
    refine pw_iald (v := s2 13 f) hx hb hK hP (fb_memM (k := 13) rfl) 0 rfl rfl (vp_in_nI (by omega) (by decide)) (congrArg (s2 13) (nI_clamp (by omega))) zd_M_slow_109 ?_
    refine lv_bipush (v := 16) hx hb zd_M_slow_110 (by decide) ?_
    refine lv_icmp_ne (tgt := 163) hx hb zd_M_slow_112 (by decide) (fun h3 => ?_) (fun h3 => ?_)
    · skip
      exact W.vret hx hb hr (fun t ht hW => ⟨⟨s2, rfl, ⟨(by subst es2; simp only [mf_slow, if_neg h1b, if_neg h3, fb_b_t, fb_b_f]), oks2⟩, by rw [ht]; exact hP, va_K.moved hW.alike hK, hD⟩, hS.F ht⟩) hS.2.2 zd_M_slow_163
    · skip
      refine lv_aload_n hx hb zd_M_slow_115 rfl (lv_at hl 0 rfl) ?_
      refine pw_get (C := "PausedFabricModel") (T := zT_M) (N := 28) hx hb hT zin_M hown hK hP (fb_memM (k := 0) rfl) rfl rfl 13 (by decide) (hT _ zi_449) (fun _ h9 => h9) rfl zd_M_slow_116 ?_
      refine lv_iload_n hx hb zd_M_slow_119 rfl (lv_at hl 1 rfl) ?_
      refine lv_iconst (v := 0) hx hb zd_M_slow_120 (by decide) ?_
      refine pw_iast hx hb hK hP hD hS (fb_memM (k := 13) rfl) 0 rfl rfl (vp_in_nI (by omega) (by decide)) (fb_up s2 13 f 0) (by rw [nI_clamp (by omega)]; exact (pa_M13 _ _ _)) (fb_hoM _ 13 _ _ owM_13) zd_M_slow_121 (fun H locs hP hD hS => ?_)
      obtain ⟨s4, es4⟩ : ∃ z, z = fb_up s2 13 f 0 := ⟨_, rfl⟩
      have oks4 : fb_okM fl fr T s4 := es4 ▸ (fb_okM_up oks2 trivial)
      rw [← es4] at hP hD
      refine lv_aload_n hx hb zd_M_slow_122 rfl (lv_at hl 0 rfl) ?_
      refine pw_get (C := "PausedFabricModel") (T := zT_M) (N := 28) hx hb hT zin_M hown hK hP (fb_memM (k := 0) rfl) rfl rfl 12 (by decide) (hT _ zi_448) (fun _ h9 => h9) rfl zd_M_slow_123 ?_
      refine lv_iload_n hx hb zd_M_slow_126 rfl (lv_at hl 1 rfl) ?_
      refine lv_bipush (v := 15) hx hb zd_M_slow_127 (by decide) ?_
      refine lv_aload_n hx hb zd_M_slow_129 rfl (lv_at hl 0 rfl) ?_
      refine pw_get (C := "PausedFabricModel") (T := zT_M) (N := 28) hx hb hT zin_M hown hK hP (fb_memM (k := 0) rfl) rfl rfl 12 (by decide) (hT _ zi_448) (fun _ h9 => h9) rfl zd_M_slow_130 ?_
      refine lv_iload_n hx hb zd_M_slow_133 rfl (lv_at hl 1 rfl) ?_
      refine pw_iald (v := s4 12 f) hx hb hK hP (fb_memM (k := 12) rfl) 0 rfl rfl (vp_in_nI (by omega) (by decide)) (congrArg (s4 12) (nI_clamp (by omega))) zd_M_slow_134 ?_
      refine lv_imul hx hb zd_M_slow_135 ?_
      refine lv_bipush (v := 16) hx hb zd_M_slow_136 (by decide) ?_
      refine lv_idiv hx hb zd_M_slow_138 (by decide) ?_
      refine pw_iast hx hb hK hP hD hS (fb_memM (k := 12) rfl) 0 rfl rfl (vp_in_nI (by omega) (by decide)) (fb_up s4 12 f ((15 * (s4 12 f)) / 16)) (by rw [nI_clamp (by omega)]; exact (pa_M12 _ _ _)) (fb_hoM _ 12 _ _ owM_12) zd_M_slow_139 (fun H locs hP hD hS => ?_)
      obtain ⟨s5, es5⟩ : ∃ z, z = fb_up s4 12 f ((15 * (s4 12 f)) / 16) := ⟨_, rfl⟩
      have oks5 : fb_okM fl fr T s5 := es5 ▸ (fb_okM_up oks4 (fun _ => fb_rec1 (oks4 12 _ hf)))
      rw [← es5] at hP hD
      refine lv_aload_n hx hb zd_M_slow_140 rfl (lv_at hl 0 rfl) ?_
      refine pw_get (C := "PausedFabricModel") (T := zT_M) (N := 28) hx hb hT zin_M hown hK hP (fb_memM (k := 0) rfl) rfl rfl 10 (by decide) (hT _ zi_446) (fun _ h9 => h9) rfl zd_M_slow_141 ?_
      refine lv_iload_n hx hb zd_M_slow_144 rfl (lv_at hl 1 rfl) ?_
      refine lv_aload_n hx hb zd_M_slow_145 rfl (lv_at hl 0 rfl) ?_
      refine pw_get (C := "PausedFabricModel") (T := zT_M) (N := 28) hx hb hT zin_M hown hK hP (fb_memM (k := 0) rfl) rfl rfl 10 (by decide) (hT _ zi_446) (fun _ h9 => h9) rfl zd_M_slow_146 ?_
      refine lv_iload_n hx hb zd_M_slow_149 rfl (lv_at hl 1 rfl) ?_
      refine pw_iald (v := s5 10 f) hx hb hK hP (fb_memM (k := 10) rfl) 0 rfl rfl (vp_in_nI (by omega) (by decide)) (congrArg (s5 10) (nI_clamp (by omega))) zd_M_slow_150 ?_
      refine lv_aload_n hx hb zd_M_slow_151 rfl (lv_at hl 0 rfl) ?_
      refine pw_get (C := "PausedFabricModel") (T := zT_M) (N := 28) hx hb hT zin_M hown hK hP (fb_memM (k := 0) rfl) rfl rfl 11 (by decide) (hT _ zi_447) (fun _ h9 => h9) rfl zd_M_slow_152 ?_
      refine lv_iload_n hx hb zd_M_slow_155 rfl (lv_at hl 1 rfl) ?_
      refine pw_iald (v := s5 11 f) hx hb hK hP (fb_memM (k := 11) rfl) 0 rfl rfl (vp_in_nI (by omega) (by decide)) (congrArg (s5 11) (nI_clamp (by omega))) zd_M_slow_156 ?_
      refine lv_iadd hx hb zd_M_slow_157 ?_
      refine lv_iconst (v := 1) hx hb zd_M_slow_158 (by decide) ?_
      refine lv_iadd hx hb zd_M_slow_159 ?_
      refine lv_iconst (v := 2) hx hb zd_M_slow_160 (by decide) ?_
      refine lv_idiv hx hb zd_M_slow_161 (by decide) ?_
      refine pw_iast hx hb hK hP hD hS (fb_memM (k := 10) rfl) 0 rfl rfl (vp_in_nI (by omega) (by decide)) (fb_up s5 10 f ((((s5 10 f) + (s5 11 f)) + 1) / 2)) (by rw [nI_clamp (by omega)]; exact (pa_M10 _ _ _)) (fb_hoM _ 10 _ _ owM_10) zd_M_slow_162 (fun H locs hP hD hS => ?_)
      obtain ⟨s6, es6⟩ : ∃ z, z = fb_up s5 10 f ((((s5 10 f) + (s5 11 f)) + 1) / 2) := ⟨_, rfl⟩
      have oks6 : fb_okM fl fr T s6 := es6 ▸ (fb_okM_up oks5 (fun _ => fb_rec2 (oks5 10 _ hf) (oks5 11 _ hf)))
      rw [← es6] at hP hD
      exact W.vret hx hb hr (fun t ht hW => ⟨⟨s6, rfl, ⟨(by subst es6 es5 es4 es2; simp only [mf_slow, if_neg h1b, if_pos h3, fb_b_t, fb_b_f]), oks6⟩, by rw [ht]; exact hP, va_K.moved hW.alike hK, hD⟩, hS.F ht⟩) hS.2.2 zd_M_slow_163
  · skip
    have h1b := fb_b1 h1
    refine lv_aload_n hx hb zd_M_slow_8 rfl (lv_at hl 0 rfl) ?_
    refine pw_get (C := "PausedFabricModel") (T := zT_M) (N := 28) hx hb hT zin_M hown hK hP (fb_memM (k := 0) rfl) rfl rfl 11 (by decide) (hT _ zi_447) (fun _ h9 => h9) rfl zd_M_slow_9 ?_
    refine lv_iload_n hx hb zd_M_slow_12 rfl (lv_at hl 1 rfl) ?_
    refine lv_aload_n hx hb zd_M_slow_13 rfl (lv_at hl 0 rfl) ?_
    refine pw_get (C := "PausedFabricModel") (T := zT_M) (N := 28) hx hb hT zin_M hown hK hP (fb_memM (k := 0) rfl) rfl rfl 10 (by decide) (hT _ zi_446) (fun _ h9 => h9) rfl zd_M_slow_14 ?_
    refine lv_iload_n hx hb zd_M_slow_17 rfl (lv_at hl 1 rfl) ?_
    refine pw_iald (v := st 10 f) hx hb hK hP (fb_memM (k := 10) rfl) 0 rfl rfl (vp_in_nI (by omega) (by decide)) (congrArg (st 10) (nI_clamp (by omega))) zd_M_slow_18 ?_
    refine pw_iast hx hb hK hP hD hS (fb_memM (k := 11) rfl) 0 rfl rfl (vp_in_nI (by omega) (by decide)) (fb_up st 11 f (st 10 f)) (by rw [nI_clamp (by omega)]; exact (pa_M11 _ _ _)) (fb_hoM _ 11 _ _ owM_11) zd_M_slow_19 (fun H locs hP hD hS => ?_)
    obtain ⟨s7, es7⟩ : ∃ z, z = fb_up st 11 f (st 10 f) := ⟨_, rfl⟩
    have oks7 : fb_okM fl fr T s7 := es7 ▸ (fb_okM_up hok (fun _ => hok 10 _ hf))
    rw [← es7] at hP hD
    refine lv_aload_n hx hb zd_M_slow_20 rfl (lv_at hl 0 rfl) ?_
    refine pw_get (C := "PausedFabricModel") (T := zT_M) (N := 28) hx hb hT zin_M hown hK hP (fb_memM (k := 0) rfl) rfl rfl 10 (by decide) (hT _ zi_446) (fun _ h9 => h9) rfl zd_M_slow_21 ?_
    refine lv_iload_n hx hb zd_M_slow_24 rfl (lv_at hl 1 rfl) ?_
    refine pw_iald (v := s7 10 f) hx hb hK hP (fb_memM (k := 10) rfl) 0 rfl rfl (vp_in_nI (by omega) (by decide)) (congrArg (s7 10) (nI_clamp (by omega))) zd_M_slow_25 ?_
    refine lv_aload_n hx hb zd_M_slow_26 rfl (lv_at hl 0 rfl) ?_
    refine pw_get (C := "PausedFabricModel") (T := zT_M) (N := 28) hx hb hT zin_M hown hK hP (fb_memM (k := 0) rfl) rfl rfl 10 (by decide) (hT _ zi_446) (fun _ h9 => h9) rfl zd_M_slow_27 ?_
    refine lv_iload_n hx hb zd_M_slow_30 rfl (lv_at hl 1 rfl) ?_
    refine pw_iald (v := s7 10 f) hx hb hK hP (fb_memM (k := 10) rfl) 0 rfl rfl (vp_in_nI (by omega) (by decide)) (congrArg (s7 10) (nI_clamp (by omega))) zd_M_slow_31 ?_
    refine lv_aload_n hx hb zd_M_slow_32 rfl (lv_at hl 0 rfl) ?_
    refine pw_get (C := "PausedFabricModel") (T := zT_M) (N := 28) hx hb hT zin_M hown hK hP (fb_memM (k := 0) rfl) rfl rfl 12 (by decide) (hT _ zi_448) (fun _ h9 => h9) rfl zd_M_slow_33 ?_
    refine lv_iload_n hx hb zd_M_slow_36 rfl (lv_at hl 1 rfl) ?_
    refine pw_iald (v := s7 12 f) hx hb hK hP (fb_memM (k := 12) rfl) 0 rfl rfl (vp_in_nI (by omega) (by decide)) (congrArg (s7 12) (nI_clamp (by omega))) zd_M_slow_37 ?_
    refine lv_imul hx hb zd_M_slow_38 ?_
    refine lv_sipush (v := 128) hx hb zd_M_slow_39 (by decide) ?_
    refine lv_idiv hx hb zd_M_slow_42 (by decide) ?_
    refine lv_isub hx hb zd_M_slow_43 ?_
    refine lv_istore_n (lv' := [(2, .int ((s7 10 f) - (((s7 10 f) * (s7 12 f)) / 128))), (0, .ref (ad 0 0)), (1, .int (nI f))]) hx hb zd_M_slow_44 rfl hl (by decide) rfl (fun ls hl => ?_)
    refine lv_aload_n hx hb zd_M_slow_45 rfl (lv_at hl 1 rfl) ?_
    refine pw_get (C := "PausedFabricModel") (T := zT_M) (N := 28) hx hb hT zin_M hown hK hP (fb_memM (k := 0) rfl) rfl rfl 10 (by decide) (hT _ zi_446) (fun _ h9 => h9) rfl zd_M_slow_46 ?_
    refine lv_iload_n hx hb zd_M_slow_49 rfl (lv_at hl 2 rfl) ?_
    refine lv_iload_n hx hb zd_M_slow_50 rfl (lv_at hl 0 rfl) ?_
    refine lv_iconst (v := 1) hx hb zd_M_slow_51 (by decide) ?_
    refine lv_icmp_ge (tgt := 59) hx hb zd_M_slow_52 (by decide) (fun h8 => ?_) (fun h8 => ?_)
    · skip
      refine lv_iload_n hx hb zd_M_slow_59 rfl (lv_at hl 0 rfl) ?_
      refine pw_iast hx hb hK hP hD hS (fb_memM (k := 10) rfl) 0 rfl rfl (vp_in_nI (by omega) (by decide)) (fb_up s7 10 f ((s7 10 f) - (((s7 10 f) * (s7 12 f)) / 128))) (by rw [nI_clamp (by omega)]; exact (pa_M10 _ _ _)) (fb_hoM _ 10 _ _ owM_10) zd_M_slow_60 (fun H locs hP hD hS => ?_)
      obtain ⟨s9, es9⟩ : ∃ z, z = fb_up s7 10 f ((s7 10 f) - (((s7 10 f) * (s7 12 f)) / 128)) := ⟨_, rfl⟩
      have oks9 : fb_okM fl fr T s9 := es9 ▸ (fb_okM_up oks7 (fun _ => ⟨h8, fb_less64 (oks7 10 _ hf) (oks7 12 _ hf)⟩))
      rw [← es9] at hP hD
      refine lv_aload_n hx hb zd_M_slow_61 rfl (lv_at hl 1 rfl) ?_
      refine pw_get (C := "PausedFabricModel") (T := zT_M) (N := 28) hx hb hT zin_M hown hK hP (fb_memM (k := 0) rfl) rfl rfl 12 (by decide) (hT _ zi_448) (fun _ h9 => h9) rfl zd_M_slow_62 ?_
      refine lv_iload_n hx hb zd_M_slow_65 rfl (lv_at hl 2 rfl) ?_
      refine lv_bipush (v := 15) hx hb zd_M_slow_66 (by decide) ?_
      refine lv_aload_n hx hb zd_M_slow_68 rfl (lv_at hl 1 rfl) ?_
      refine pw_get (C := "PausedFabricModel") (T := zT_M) (N := 28) hx hb hT zin_M hown hK hP (fb_memM (k := 0) rfl) rfl rfl 12 (by decide) (hT _ zi_448) (fun _ h9 => h9) rfl zd_M_slow_69 ?_
      refine lv_iload_n hx hb zd_M_slow_72 rfl (lv_at hl 2 rfl) ?_
      refine pw_iald (v := s9 12 f) hx hb hK hP (fb_memM (k := 12) rfl) 0 rfl rfl (vp_in_nI (by omega) (by decide)) (congrArg (s9 12) (nI_clamp (by omega))) zd_M_slow_73 ?_
      refine lv_imul hx hb zd_M_slow_74 ?_
      refine lv_bipush (v := 64) hx hb zd_M_slow_75 (by decide) ?_
      refine lv_iadd hx hb zd_M_slow_77 ?_
      refine lv_bipush (v := 16) hx hb zd_M_slow_78 (by decide) ?_
      refine lv_idiv hx hb zd_M_slow_80 (by decide) ?_
      refine pw_iast hx hb hK hP hD hS (fb_memM (k := 12) rfl) 0 rfl rfl (vp_in_nI (by omega) (by decide)) (fb_up s9 12 f (((15 * (s9 12 f)) + 64) / 16)) (by rw [nI_clamp (by omega)]; exact (pa_M12 _ _ _)) (fb_hoM _ 12 _ _ owM_12) zd_M_slow_81 (fun H locs hP hD hS => ?_)
      obtain ⟨s10, es10⟩ : ∃ z, z = fb_up s9 12 f (((15 * (s9 12 f)) + 64) / 16) := ⟨_, rfl⟩
      have oks10 : fb_okM fl fr T s10 := es10 ▸ (fb_okM_up oks9 (fun _ => fb_slow2 (oks9 12 _ hf)))
      rw [← es10] at hP hD
      refine lv_aload_n hx hb zd_M_slow_82 rfl (lv_at hl 1 rfl) ?_
      refine pw_get (C := "PausedFabricModel") (T := zT_M) (N := 28) hx hb hT zin_M hown hK hP (fb_memM (k := 0) rfl) rfl rfl 13 (by decide) (hT _ zi_449) (fun _ h9 => h9) rfl zd_M_slow_83 ?_
      refine lv_iload_n hx hb zd_M_slow_86 rfl (lv_at hl 2 rfl) ?_
      refine lv_iconst (v := 0) hx hb zd_M_slow_87 (by decide) ?_
      refine pw_iast hx hb hK hP hD hS (fb_memM (k := 13) rfl) 0 rfl rfl (vp_in_nI (by omega) (by decide)) (fb_up s10 13 f 0) (by rw [nI_clamp (by omega)]; exact (pa_M13 _ _ _)) (fb_hoM _ 13 _ _ owM_13) zd_M_slow_88 (fun H locs hP hD hS => ?_)
      obtain ⟨s11, es11⟩ : ∃ z, z = fb_up s10 13 f 0 := ⟨_, rfl⟩
      have oks11 : fb_okM fl fr T s11 := es11 ▸ (fb_okM_up oks10 trivial)
      rw [← es11] at hP hD
      exact W.vret hx hb hr (fun t ht hW => ⟨⟨s11, rfl, ⟨(by subst es11 es10 es9 es7; simp only [mf_slow, if_pos h1b, if_pos h8, fb_b_t, fb_b_f]), oks11⟩, by rw [ht]; exact hP, va_K.moved hW.alike hK, hD⟩, hS.F ht⟩) hS.2.2 zd_M_slow_89
    · skip
      refine lv_iconst (v := 1) hx hb zd_M_slow_55 (by decide) ?_
      refine lv_goto (tgt := 60) hx hb zd_M_slow_56 (by decide) ?_
      refine pw_iast hx hb hK hP hD hS (fb_memM (k := 10) rfl) 0 rfl rfl (vp_in_nI (by omega) (by decide)) (fb_up s7 10 f 1) (by rw [nI_clamp (by omega)]; exact (pa_M10 _ _ _)) (fb_hoM _ 10 _ _ owM_10) zd_M_slow_60 (fun H locs hP hD hS => ?_)
      obtain ⟨s12, es12⟩ : ∃ z, z = fb_up s7 10 f 1 := ⟨_, rfl⟩
      have oks12 : fb_okM fl fr T s12 := es12 ▸ (fb_okM_up oks7 (fun _ => ⟨by decide, by decide⟩))
      rw [← es12] at hP hD
      refine lv_aload_n hx hb zd_M_slow_61 rfl (lv_at hl 1 rfl) ?_
      refine pw_get (C := "PausedFabricModel") (T := zT_M) (N := 28) hx hb hT zin_M hown hK hP (fb_memM (k := 0) rfl) rfl rfl 12 (by decide) (hT _ zi_448) (fun _ h9 => h9) rfl zd_M_slow_62 ?_
      refine lv_iload_n hx hb zd_M_slow_65 rfl (lv_at hl 2 rfl) ?_
      refine lv_bipush (v := 15) hx hb zd_M_slow_66 (by decide) ?_
      refine lv_aload_n hx hb zd_M_slow_68 rfl (lv_at hl 1 rfl) ?_
      refine pw_get (C := "PausedFabricModel") (T := zT_M) (N := 28) hx hb hT zin_M hown hK hP (fb_memM (k := 0) rfl) rfl rfl 12 (by decide) (hT _ zi_448) (fun _ h9 => h9) rfl zd_M_slow_69 ?_
      refine lv_iload_n hx hb zd_M_slow_72 rfl (lv_at hl 2 rfl) ?_
      refine pw_iald (v := s12 12 f) hx hb hK hP (fb_memM (k := 12) rfl) 0 rfl rfl (vp_in_nI (by omega) (by decide)) (congrArg (s12 12) (nI_clamp (by omega))) zd_M_slow_73 ?_
      refine lv_imul hx hb zd_M_slow_74 ?_
      refine lv_bipush (v := 64) hx hb zd_M_slow_75 (by decide) ?_
      refine lv_iadd hx hb zd_M_slow_77 ?_
      refine lv_bipush (v := 16) hx hb zd_M_slow_78 (by decide) ?_
      refine lv_idiv hx hb zd_M_slow_80 (by decide) ?_
      refine pw_iast hx hb hK hP hD hS (fb_memM (k := 12) rfl) 0 rfl rfl (vp_in_nI (by omega) (by decide)) (fb_up s12 12 f (((15 * (s12 12 f)) + 64) / 16)) (by rw [nI_clamp (by omega)]; exact (pa_M12 _ _ _)) (fb_hoM _ 12 _ _ owM_12) zd_M_slow_81 (fun H locs hP hD hS => ?_)
      obtain ⟨s13, es13⟩ : ∃ z, z = fb_up s12 12 f (((15 * (s12 12 f)) + 64) / 16) := ⟨_, rfl⟩
      have oks13 : fb_okM fl fr T s13 := es13 ▸ (fb_okM_up oks12 (fun _ => fb_slow2 (oks12 12 _ hf)))
      rw [← es13] at hP hD
      refine lv_aload_n hx hb zd_M_slow_82 rfl (lv_at hl 1 rfl) ?_
      refine pw_get (C := "PausedFabricModel") (T := zT_M) (N := 28) hx hb hT zin_M hown hK hP (fb_memM (k := 0) rfl) rfl rfl 13 (by decide) (hT _ zi_449) (fun _ h9 => h9) rfl zd_M_slow_83 ?_
      refine lv_iload_n hx hb zd_M_slow_86 rfl (lv_at hl 2 rfl) ?_
      refine lv_iconst (v := 0) hx hb zd_M_slow_87 (by decide) ?_
      refine pw_iast hx hb hK hP hD hS (fb_memM (k := 13) rfl) 0 rfl rfl (vp_in_nI (by omega) (by decide)) (fb_up s13 13 f 0) (by rw [nI_clamp (by omega)]; exact (pa_M13 _ _ _)) (fb_hoM _ 13 _ _ owM_13) zd_M_slow_88 (fun H locs hP hD hS => ?_)
      obtain ⟨s14, es14⟩ : ∃ z, z = fb_up s13 13 f 0 := ⟨_, rfl⟩
      have oks14 : fb_okM fl fr T s14 := es14 ▸ (fb_okM_up oks13 trivial)
      rw [← es14] at hP hD
      exact W.vret hx hb hr (fun t ht hW => ⟨⟨s14, rfl, ⟨(by subst es14 es13 es12 es7; simp only [mf_slow, if_pos h1b, if_neg h8, fb_b_t, fb_b_f]), oks14⟩, by rw [ht]; exact hP, va_K.moved hW.alike hK, hD⟩, hS.F ht⟩) hS.2.2 zd_M_slow_89

set_option maxHeartbeats 4000000 in
set_option maxRecDepth 100000 in
theorem c_M_ready (l : Launch) (D : va_G) (cA : Nat → ClassId) (ad : Nat → Nat → Nat) (fl fr T : Nat) (st : fb_S) (hflr : fl ≤ 12 ∧ fr ≤ 100 ∧ T ≤ 30000) (hok : fb_okM fl fr T st) (u : Int32) (v : Int32) (q : Int32) (hu : vp_in u 14) (hv : vp_in v 14) : fb_Mi l zy_M_ready (zw_M_ready :: lw_gd) { frames := 4, cells := 0, slots := 0, locals := 95 } (fb_cM cA) D fb_cl (fb_tys cA) ad fb_LM st [.ref (ad 0 0), .int u, .int v, .int q] (fun rr st1 => rr = fb_b (mf_ready st fr u v q) ∧ st1 = st ∧ fb_okM fl fr T st1) := by
  have hfl : fl ≤ 12 := hflr.1
  have hfr : fr ≤ 100 := hflr.2.1
  have hTb : T ≤ 30000 := hflr.2.2
  intro sz
  refine Met.ofW (cc := zb_M_ready) (maxL := 5) (ret := (some .boolean)) (by decide) rfl ?_
  intro p e s m args below meth c s₁ B hml hv
  obtain ⟨rfl, hsz, hP, hK, hD0⟩ := hv
  have hx := B.exec
  have hb := B.bytes
  have hr := B.returns
  have hts := atoms_spec (ws := zw_M_ready :: lw_gd) B.pre
  have hT : ∀ w ∈ lw_gd, w.before _ s = true := fun w h => hts w (List.mem_cons_of_mem _ h)
  have hown : s.vm.findClass "PausedFabricModel" = some m.cls := findClass_of_methodNamed B.named
  have hlocks := B.notSynchronized
  subst hsz
  have hD := fb_D_self (sz := s.heap.size) hD0
  have hS : va_S (fb_A ad fb_LM s.heap.size) s.heap s.heap [] := va_S.rf
  have hl := lv_entry ([.ref (ad 0 0), .int u, .int v, .int q]) (n := 5) (Nat.le_of_ble_eq_true rfl)
  rw [lg_entry_eq]
  generalize (lg_sl ([.ref (ad 0 0), .int u, .int v, .int q]) ++ List.replicate (5 - (lg_sl ([.ref (ad 0 0), .int u, .int v, .int q])).length) Slot.unset).toArray = ls at hl ⊢
  have hl : lv_has ls 5 [(0, .ref (ad 0 0)), (1, .int u), (2, .int v), (3, .int q)] := hl
  refine lv_aload_n hx hb zd_M_ready_0 rfl (lv_at hl 0 rfl) ?_
  refine lv_iload_n hx hb zd_M_ready_1 rfl (lv_at hl 1 rfl) ?_
  refine lv_iload_n hx hb zd_M_ready_2 rfl (lv_at hl 2 rfl) ?_
  refine lv_iload_n hx hb zd_M_ready_3 rfl (lv_at hl 3 rfl) ?_
  refine pw_Vi (bytes := zb_M_first) (maxL := 7) (ret := (some .int)) (As := [.int u, .int v, .int q]) (rest := []) ⟨hx, hb, hml, hown, hT⟩ (c_M_first l D cA ad fl fr T st hflr hok u v q) (cwV 3 hT (fb_gV zi_605 zi_607 zs_M_first zi_5 zc_M_first) rfl rfl rfl (by decide +kernel) ⟨Nat.le_of_ble_eq_true rfl, Nat.le_of_ble_eq_true rfl⟩) hK hP hD hS (fb_recv hK hP (fb_memM (k := 0) rfl) rfl rfl) rfl hl.1 rfl (lv_room (Nat.le_of_ble_eq_true rfl)) zd_M_ready_4 ⟨Nat.zero_le _, Nat.zero_le _⟩ (fun rx sx H locs hp hP hD hS => ?_)
  obtain ⟨hr9, hs, hok9⟩ := hp
  rw [hr9]
  rw [hs] at hP hD
  refine lv_istore (lv' := [(4, .int (mf_first st u v q fr)), (0, .ref (ad 0 0)), (1, .int u), (2, .int v), (3, .int q)]) hx hb zd_M_ready_7 hl (by decide) rfl (fun ls hl => ?_)
  refine lv_iload hx hb zd_M_ready_9 (lv_at hl 0 rfl) ?_
  refine lv_if_lt (tgt := 27) hx hb zd_M_ready_11 (by decide) (fun h1 => ?_) (fun h1 => ?_)
  · skip
    refine lv_iconst (v := 0) hx hb zd_M_ready_27 (by decide) ?_
    exact W.zret (v := 0) hx hb hr rfl (fun t ht hW => ⟨⟨0, st, rfl, ⟨(by simp only [mf_ready, if_pos h1, fb_b_t, fb_b_f]), rfl, hok⟩, by rw [ht]; exact hP, va_K.moved hW.alike hK, hD⟩, hS.F ht⟩) hS.2.2 zd_M_ready_28
  · skip
    refine lv_iload_n hx hb zd_M_ready_14 rfl (lv_at hl 4 rfl) ?_
    refine lv_if_ne (tgt := 29) hx hb zd_M_ready_15 (by decide) (fun h2 => ?_) (fun h2 => ?_)
    · skip
      refine lv_iload_n hx hb zd_M_ready_29 rfl (lv_at hl 2 rfl) ?_
      refine lv_bipush (v := 7) hx hb zd_M_ready_30 (by decide) ?_
      refine lv_icmp_gt (tgt := 54) hx hb zd_M_ready_32 (by decide) (fun h3 => ?_) (fun h3 => ?_)
      · skip
        refine lv_iconst (v := 1) hx hb zd_M_ready_54 (by decide) ?_
        refine lv_goto (tgt := 59) hx hb zd_M_ready_55 (by decide) ?_
        exact W.zret (v := 1) hx hb hr rfl (fun t ht hW => ⟨⟨1, st, rfl, ⟨(by simp only [mf_ready, if_neg h1, if_neg h2, if_pos h3, fb_b_t, fb_b_f]), rfl, hok⟩, by rw [ht]; exact hP, va_K.moved hW.alike hK, hD⟩, hS.F ht⟩) hS.2.2 zd_M_ready_59
      · skip
        refine lv_aload_n hx hb zd_M_ready_35 rfl (lv_at hl 1 rfl) ?_
        refine pw_get (C := "PausedFabricModel") (T := zT_M) (N := 28) hx hb hT zin_M hown hK hP (fb_memM (k := 0) rfl) rfl rfl 14 (by decide) (hT _ zi_450) (fun _ h9 => h9) rfl zd_M_ready_36 ?_
        refine lv_aload_n hx hb zd_M_ready_39 rfl (lv_at hl 1 rfl) ?_
        refine pw_get (C := "PausedFabricModel") (T := zT_M) (N := 28) hx hb hT zin_M hown hK hP (fb_memM (k := 0) rfl) rfl rfl 16 (by decide) (hT _ zi_452) (fun _ h9 => h9) rfl zd_M_ready_40 ?_
        refine lv_iload hx hb zd_M_ready_43 (lv_at hl 0 rfl) ?_
        refine pw_iald (v := st 16 (fb_n (mf_first st u v q fr))) hx hb hK hP (fb_memM (k := 16) rfl) 0 rfl rfl (fb_inr (rg_first st u v q fr (by omega)) h1 hfr) rfl zd_M_ready_45 ?_
        refine pw_iald (v := st 14 (fb_n (st 16 (fb_n (mf_first st u v q fr))))) hx hb hK hP (fb_memM (k := 14) rfl) 0 rfl rfl (hok 16 _).1 rfl zd_M_ready_46 ?_
        refine lv_aload_n hx hb zd_M_ready_47 rfl (lv_at hl 1 rfl) ?_
        refine pw_get (C := "PausedFabricModel") (T := zT_M) (N := 28) hx hb hT zin_M hown hK hP (fb_memM (k := 0) rfl) rfl rfl 4 (by decide) (hT _ zi_440) (fun _ h9 => h9) rfl zd_M_ready_48 ?_
        refine lv_icmp_gt (tgt := 58) hx hb zd_M_ready_51 (by decide) (fun h4 => ?_) (fun h4 => ?_)
        · skip
          refine lv_iconst (v := 0) hx hb zd_M_ready_58 (by decide) ?_
          exact W.zret (v := 0) hx hb hr rfl (fun t ht hW => ⟨⟨0, st, rfl, ⟨(by simp only [mf_ready, if_neg h1, if_neg h2, if_neg h3, if_pos h4, fb_b_t, fb_b_f]), rfl, hok⟩, by rw [ht]; exact hP, va_K.moved hW.alike hK, hD⟩, hS.F ht⟩) hS.2.2 zd_M_ready_59
        · skip
          refine lv_iconst (v := 1) hx hb zd_M_ready_54 (by decide) ?_
          refine lv_goto (tgt := 59) hx hb zd_M_ready_55 (by decide) ?_
          exact W.zret (v := 1) hx hb hr rfl (fun t ht hW => ⟨⟨1, st, rfl, ⟨(by simp only [mf_ready, if_neg h1, if_neg h2, if_neg h3, if_neg h4, fb_b_t, fb_b_f]), rfl, hok⟩, by rw [ht]; exact hP, va_K.moved hW.alike hK, hD⟩, hS.F ht⟩) hS.2.2 zd_M_ready_59
    · skip
      refine lv_aload_n hx hb zd_M_ready_18 rfl (lv_at hl 1 rfl) ?_
      refine lv_iload_n hx hb zd_M_ready_19 rfl (lv_at hl 2 rfl) ?_
      refine lv_iload_n hx hb zd_M_ready_20 rfl (lv_at hl 3 rfl) ?_
      refine pw_Vi (bytes := zb_M_isPaused) (maxL := 3) (ret := (some .boolean)) (As := [.int u, .int v]) (rest := []) ⟨hx, hb, hml, hown, hT⟩ (c_M_isPaused l D cA ad fl fr T st hflr hok u v hu hv) (cwV 2 hT (fb_gV zi_609 zi_611 zs_M_isPaused zi_5 zc_M_isPaused) rfl rfl rfl (by decide +kernel) ⟨Nat.le_of_ble_eq_true rfl, Nat.le_of_ble_eq_true rfl⟩) hK hP hD hS (fb_recv hK hP (fb_memM (k := 0) rfl) rfl rfl) rfl hl.1 rfl (lv_room (Nat.le_of_ble_eq_true rfl)) zd_M_ready_21 ⟨Nat.zero_le _, Nat.zero_le _⟩ (fun rx sx H locs hp hP hD hS => ?_)
      obtain ⟨hr9, hs, hok9⟩ := hp
      rw [hr9]
      rw [hs] at hP hD
      refine lv_if_eq (tgt := 29) hx hb zd_M_ready_24 (by decide) (fun h5 => ?_) (fun h5 => ?_)
      · skip
        have h5b := fb_b0 h5
        refine lv_iload_n hx hb zd_M_ready_29 rfl (lv_at hl 2 rfl) ?_
        refine lv_bipush (v := 7) hx hb zd_M_ready_30 (by decide) ?_
        refine lv_icmp_gt (tgt := 54) hx hb zd_M_ready_32 (by decide) (fun h6 => ?_) (fun h6 => ?_)
        · skip
          refine lv_iconst (v := 1) hx hb zd_M_ready_54 (by decide) ?_
          refine lv_goto (tgt := 59) hx hb zd_M_ready_55 (by decide) ?_
          exact W.zret (v := 1) hx hb hr rfl (fun t ht hW => ⟨⟨1, st, rfl, ⟨(by simp only [mf_ready, if_neg h1, if_pos h2, if_neg h5b, if_pos h6, fb_b_t, fb_b_f]), rfl, hok⟩, by rw [ht]; exact hP, va_K.moved hW.alike hK, hD⟩, hS.F ht⟩) hS.2.2 zd_M_ready_59
        · skip
          refine lv_aload_n hx hb zd_M_ready_35 rfl (lv_at hl 1 rfl) ?_
          refine pw_get (C := "PausedFabricModel") (T := zT_M) (N := 28) hx hb hT zin_M hown hK hP (fb_memM (k := 0) rfl) rfl rfl 14 (by decide) (hT _ zi_450) (fun _ h9 => h9) rfl zd_M_ready_36 ?_
          refine lv_aload_n hx hb zd_M_ready_39 rfl (lv_at hl 1 rfl) ?_
          refine pw_get (C := "PausedFabricModel") (T := zT_M) (N := 28) hx hb hT zin_M hown hK hP (fb_memM (k := 0) rfl) rfl rfl 16 (by decide) (hT _ zi_452) (fun _ h9 => h9) rfl zd_M_ready_40 ?_
          refine lv_iload hx hb zd_M_ready_43 (lv_at hl 0 rfl) ?_
          refine pw_iald (v := st 16 (fb_n (mf_first st u v q fr))) hx hb hK hP (fb_memM (k := 16) rfl) 0 rfl rfl (fb_inr (rg_first st u v q fr (by omega)) h1 hfr) rfl zd_M_ready_45 ?_
          refine pw_iald (v := st 14 (fb_n (st 16 (fb_n (mf_first st u v q fr))))) hx hb hK hP (fb_memM (k := 14) rfl) 0 rfl rfl (hok 16 _).1 rfl zd_M_ready_46 ?_
          refine lv_aload_n hx hb zd_M_ready_47 rfl (lv_at hl 1 rfl) ?_
          refine pw_get (C := "PausedFabricModel") (T := zT_M) (N := 28) hx hb hT zin_M hown hK hP (fb_memM (k := 0) rfl) rfl rfl 4 (by decide) (hT _ zi_440) (fun _ h9 => h9) rfl zd_M_ready_48 ?_
          refine lv_icmp_gt (tgt := 58) hx hb zd_M_ready_51 (by decide) (fun h7 => ?_) (fun h7 => ?_)
          · skip
            refine lv_iconst (v := 0) hx hb zd_M_ready_58 (by decide) ?_
            exact W.zret (v := 0) hx hb hr rfl (fun t ht hW => ⟨⟨0, st, rfl, ⟨(by simp only [mf_ready, if_neg h1, if_pos h2, if_neg h5b, if_neg h6, if_pos h7, fb_b_t, fb_b_f]), rfl, hok⟩, by rw [ht]; exact hP, va_K.moved hW.alike hK, hD⟩, hS.F ht⟩) hS.2.2 zd_M_ready_59
          · skip
            refine lv_iconst (v := 1) hx hb zd_M_ready_54 (by decide) ?_
            refine lv_goto (tgt := 59) hx hb zd_M_ready_55 (by decide) ?_
            exact W.zret (v := 1) hx hb hr rfl (fun t ht hW => ⟨⟨1, st, rfl, ⟨(by simp only [mf_ready, if_neg h1, if_pos h2, if_neg h5b, if_neg h6, if_neg h7, fb_b_t, fb_b_f]), rfl, hok⟩, by rw [ht]; exact hP, va_K.moved hW.alike hK, hD⟩, hS.F ht⟩) hS.2.2 zd_M_ready_59
      · skip
        have h5b := fb_b1 h5
        refine lv_iconst (v := 0) hx hb zd_M_ready_27 (by decide) ?_
        exact W.zret (v := 0) hx hb hr rfl (fun t ht hW => ⟨⟨0, st, rfl, ⟨(by simp only [mf_ready, if_neg h1, if_pos h2, if_pos h5b, fb_b_t, fb_b_f]), rfl, hok⟩, by rw [ht]; exact hP, va_K.moved hW.alike hK, hD⟩, hS.F ht⟩) hS.2.2 zd_M_ready_28

set_option maxHeartbeats 4000000 in
set_option maxRecDepth 100000 in
theorem c_M_begin (l : Launch) (D : va_G) (cA : Nat → ClassId) (ad : Nat → Nat → Nat) (fl fr T : Nat) (st : fb_S) (hflr : fl ≤ 12 ∧ fr ≤ 100 ∧ T ≤ 30000) (hok : fb_okM fl fr T st) (k : Int32) (u : Int32) (hk : vp_in k fr) : fb_Mv l zy_M_begin (zw_M_begin :: lw_gd) { frames := 0, cells := 0, slots := 0, locals := 0 } (fb_cM cA) D fb_cl (fb_tys cA) ad fb_LM st [.ref (ad 0 0), .int k, .int u] (fun st1 => st1 = mf_begin k u st ∧ fb_okM fl fr T st1) := by
  have hfl : fl ≤ 12 := hflr.1
  have hfr : fr ≤ 100 := hflr.2.1
  have hTb : T ≤ 30000 := hflr.2.2
  intro sz
  refine Met.ofW (cc := zb_M_begin) (maxL := 4) (ret := none) (by decide) rfl ?_
  intro p e s m args below meth c s₁ B hml hv
  obtain ⟨rfl, hsz, hP, hK, hD0⟩ := hv
  have hx := B.exec
  have hb := B.bytes
  have hr := B.returns
  have hts := atoms_spec (ws := zw_M_begin :: lw_gd) B.pre
  have hT : ∀ w ∈ lw_gd, w.before _ s = true := fun w h => hts w (List.mem_cons_of_mem _ h)
  have hown : s.vm.findClass "PausedFabricModel" = some m.cls := findClass_of_methodNamed B.named
  have hlocks := B.notSynchronized
  subst hsz
  have hD := fb_D_self (sz := s.heap.size) hD0
  have hS : va_S (fb_A ad fb_LM s.heap.size) s.heap s.heap [] := va_S.rf
  have hl := lv_entry ([.ref (ad 0 0), .int k, .int u]) (n := 4) (Nat.le_of_ble_eq_true rfl)
  rw [lg_entry_eq]
  generalize (lg_sl ([.ref (ad 0 0), .int k, .int u]) ++ List.replicate (4 - (lg_sl ([.ref (ad 0 0), .int k, .int u])).length) Slot.unset).toArray = ls at hl ⊢
  have hl : lv_has ls 4 [(0, .ref (ad 0 0)), (1, .int k), (2, .int u)] := hl
  refine lv_aload_n hx hb zd_M_begin_0 rfl (lv_at hl 0 rfl) ?_
  refine pw_get (C := "PausedFabricModel") (T := zT_M) (N := 28) hx hb hT zin_M hown hK hP (fb_memM (k := 0) rfl) rfl rfl 16 (by decide) (hT _ zi_452) (fun _ h9 => h9) rfl zd_M_begin_1 ?_
  refine lv_iload_n hx hb zd_M_begin_4 rfl (lv_at hl 1 rfl) ?_
  refine pw_iald (v := st 16 (fb_n k)) hx hb hK hP (fb_memM (k := 16) rfl) 0 rfl rfl (fb_vle hk hfr) rfl zd_M_begin_5 ?_
  refine lv_istore_n (lv' := [(3, .int (st 16 (fb_n k))), (0, .ref (ad 0 0)), (1, .int k), (2, .int u)]) hx hb zd_M_begin_6 rfl hl (by decide) rfl (fun ls hl => ?_)
  refine lv_aload_n hx hb zd_M_begin_7 rfl (lv_at hl 1 rfl) ?_
  refine pw_get (C := "PausedFabricModel") (T := zT_M) (N := 28) hx hb hT zin_M hown hK hP (fb_memM (k := 0) rfl) rfl rfl 18 (by decide) (hT _ zi_454) (fun _ h9 => h9) rfl zd_M_begin_8 ?_
  refine lv_iload_n hx hb zd_M_begin_11 rfl (lv_at hl 2 rfl) ?_
  refine lv_iconst (v := 2) hx hb zd_M_begin_12 (by decide) ?_
  refine pw_iast hx hb hK hP hD hS (fb_memM (k := 18) rfl) 0 rfl rfl (fb_vle hk hfr) (fb_up st 18 (fb_n k) 2) (pa_M18 _ _ _) (fb_hoM _ 18 _ _ owM_18) zd_M_begin_13 (fun H locs hP hD hS => ?_)
  obtain ⟨s1, es1⟩ : ∃ z, z = fb_up st 18 (fb_n k) 2 := ⟨_, rfl⟩
  have oks1 : fb_okM fl fr T s1 := es1 ▸ (fb_okM_up hok trivial)
  rw [← es1] at hP hD
  refine lv_aload_n hx hb zd_M_begin_14 rfl (lv_at hl 1 rfl) ?_
  refine pw_get (C := "PausedFabricModel") (T := zT_M) (N := 28) hx hb hT zin_M hown hK hP (fb_memM (k := 0) rfl) rfl rfl 21 (by decide) (hT _ zi_457) (fun _ h9 => h9) rfl zd_M_begin_15 ?_
  refine lv_iload_n hx hb zd_M_begin_18 rfl (lv_at hl 2 rfl) ?_
  refine lv_aload_n hx hb zd_M_begin_19 rfl (lv_at hl 1 rfl) ?_
  refine pw_get (C := "PausedFabricModel") (T := zT_M) (N := 28) hx hb hT zin_M hown hK hP (fb_memM (k := 0) rfl) rfl rfl 4 (by decide) (hT _ zi_440) (fun _ h9 => h9) rfl zd_M_begin_20 ?_
  refine lv_aload_n hx hb zd_M_begin_23 rfl (lv_at hl 1 rfl) ?_
  refine pw_get (C := "PausedFabricModel") (T := zT_M) (N := 28) hx hb hT zin_M hown hK hP (fb_memM (k := 0) rfl) rfl rfl 17 (by decide) (hT _ zi_453) (fun _ h9 => h9) rfl zd_M_begin_24 ?_
  refine lv_iload_n hx hb zd_M_begin_27 rfl (lv_at hl 2 rfl) ?_
  refine pw_iald (v := s1 17 (fb_n k)) hx hb hK hP (fb_memM (k := 17) rfl) 0 rfl rfl (fb_vle hk hfr) rfl zd_M_begin_28 ?_
  refine lv_iadd hx hb zd_M_begin_29 ?_
  refine pw_iast hx hb hK hP hD hS (fb_memM (k := 21) rfl) 0 rfl rfl (fb_vle hk hfr) (fb_up s1 21 (fb_n k) ((s1 4 0) + (s1 17 (fb_n k)))) (pa_M21 _ _ _) (fb_hoM _ 21 _ _ owM_21) zd_M_begin_30 (fun H locs hP hD hS => ?_)
  obtain ⟨s2, es2⟩ : ∃ z, z = fb_up s1 21 (fb_n k) ((s1 4 0) + (s1 17 (fb_n k))) := ⟨_, rfl⟩
  have oks2 : fb_okM fl fr T s2 := es2 ▸ (fb_okM_up oks1 trivial)
  rw [← es2] at hP hD
  refine lv_iload_n hx hb zd_M_begin_31 rfl (lv_at hl 3 rfl) ?_
  refine lv_bipush (v := 8) hx hb zd_M_begin_32 (by decide) ?_
  refine lv_icmp_ge (tgt := 73) hx hb zd_M_begin_34 (by decide) (fun h3 => ?_) (fun h3 => ?_)
  · skip
    exact W.vret hx hb hr (fun t ht hW => ⟨⟨s2, rfl, ⟨(by subst es2 es1; simp only [mf_begin, if_pos h3, fb_b_t, fb_b_f]), oks2⟩, by rw [ht]; exact hP, va_K.moved hW.alike hK, hD⟩, hS.F ht⟩) hS.2.2 zd_M_begin_73
  · skip
    refine lv_aload_n hx hb zd_M_begin_37 rfl (lv_at hl 1 rfl) ?_
    refine pw_get (C := "PausedFabricModel") (T := zT_M) (N := 28) hx hb hT zin_M hown hK hP (fb_memM (k := 0) rfl) rfl rfl 14 (by decide) (hT _ zi_450) (fun _ h9 => h9) rfl zd_M_begin_38 ?_
    refine lv_iload_n hx hb zd_M_begin_41 rfl (lv_at hl 0 rfl) ?_
    refine lv_aload_n hx hb zd_M_begin_42 rfl (lv_at hl 1 rfl) ?_
    refine pw_get (C := "PausedFabricModel") (T := zT_M) (N := 28) hx hb hT zin_M hown hK hP (fb_memM (k := 0) rfl) rfl rfl 4 (by decide) (hT _ zi_440) (fun _ h9 => h9) rfl zd_M_begin_43 ?_
    refine lv_bipush (v := 64) hx hb zd_M_begin_46 (by decide) ?_
    refine lv_aload_n hx hb zd_M_begin_48 rfl (lv_at hl 1 rfl) ?_
    refine pw_get (C := "PausedFabricModel") (T := zT_M) (N := 28) hx hb hT zin_M hown hK hP (fb_memM (k := 0) rfl) rfl rfl 17 (by decide) (hT _ zi_453) (fun _ h9 => h9) rfl zd_M_begin_49 ?_
    refine lv_iload_n hx hb zd_M_begin_52 rfl (lv_at hl 2 rfl) ?_
    refine pw_iald (v := s2 17 (fb_n k)) hx hb hK hP (fb_memM (k := 17) rfl) 0 rfl rfl (fb_vle hk hfr) rfl zd_M_begin_53 ?_
    refine lv_imul hx hb zd_M_begin_54 ?_
    refine lv_aload_n hx hb zd_M_begin_55 rfl (lv_at hl 1 rfl) ?_
    refine pw_get (C := "PausedFabricModel") (T := zT_M) (N := 28) hx hb hT zin_M hown hK hP (fb_memM (k := 0) rfl) rfl rfl 10 (by decide) (hT _ zi_446) (fun _ h9 => h9) rfl zd_M_begin_56 ?_
    refine lv_iload_n hx hb zd_M_begin_59 rfl (lv_at hl 0 rfl) ?_
    refine pw_iald (v := s2 10 (fb_n (st 16 (fb_n k)))) hx hb hK hP (fb_memM (k := 10) rfl) 0 rfl rfl (hok 16 _).1 rfl zd_M_begin_60 ?_
    refine lv_iadd hx hb zd_M_begin_61 ?_
    refine lv_iconst (v := 1) hx hb zd_M_begin_62 (by decide) ?_
    refine lv_isub hx hb zd_M_begin_63 ?_
    refine lv_aload_n hx hb zd_M_begin_64 rfl (lv_at hl 1 rfl) ?_
    refine pw_get (C := "PausedFabricModel") (T := zT_M) (N := 28) hx hb hT zin_M hown hK hP (fb_memM (k := 0) rfl) rfl rfl 10 (by decide) (hT _ zi_446) (fun _ h9 => h9) rfl zd_M_begin_65 ?_
    refine lv_iload_n hx hb zd_M_begin_68 rfl (lv_at hl 0 rfl) ?_
    refine pw_iald (v := s2 10 (fb_n (st 16 (fb_n k)))) hx hb hK hP (fb_memM (k := 10) rfl) 0 rfl rfl (hok 16 _).1 rfl zd_M_begin_69 ?_
    refine lv_idiv hx hb zd_M_begin_70 (fb_ne1 (oks2 10 _ (fb_vl ((hok 16 _).2 (fb_vl hk))))) ?_
    refine lv_iadd hx hb zd_M_begin_71 ?_
    refine pw_iast hx hb hK hP hD hS (fb_memM (k := 14) rfl) 0 rfl rfl (hok 16 _).1 (fb_up s2 14 (fb_n (st 16 (fb_n k))) ((s2 4 0) + ((((64 * (s2 17 (fb_n k))) + (s2 10 (fb_n (st 16 (fb_n k))))) - 1) / (s2 10 (fb_n (st 16 (fb_n k))))))) (pa_M14 _ _ _) (fb_hoM _ 14 _ _ owM_14) zd_M_begin_72 (fun H locs hP hD hS => ?_)
    obtain ⟨s4, es4⟩ : ∃ z, z = fb_up s2 14 (fb_n (st 16 (fb_n k))) ((s2 4 0) + ((((64 * (s2 17 (fb_n k))) + (s2 10 (fb_n (st 16 (fb_n k))))) - 1) / (s2 10 (fb_n (st 16 (fb_n k)))))) := ⟨_, rfl⟩
    have oks4 : fb_okM fl fr T s4 := es4 ▸ (fb_okM_up oks2 trivial)
    rw [← es4] at hP hD
    exact W.vret hx hb hr (fun t ht hW => ⟨⟨s4, rfl, ⟨(by subst es4 es2 es1; simp only [mf_begin, if_neg h3, fb_b_t, fb_b_f]), oks4⟩, by rw [ht]; exact hP, va_K.moved hW.alike hK, hD⟩, hS.F ht⟩) hS.2.2 zd_M_begin_73
