/-! contracts (by program) -/
set_option maxHeartbeats 4000000 in
set_option maxRecDepth 100000 in
theorem c_X_choose (l : Launch) (D : va_G) (cA : Nat → ClassId) (ad : Nat → Nat → Nat) (LL : fb_L) (fl fr : Nat) (st : fb_S) (hL : fb_lvC LL fl fr) (hok : fb_okC fl fr st) (i : Nat) (hi : i < 32) : fb_Mv l zy_X_choose (zw_X_choose :: lw_gd) { frames := 2, cells := 0, slots := 0, locals := 45 } (fb_cC cA) D fb_cl (fb_tys cA) ad LL st [.ref (ad 0 0), .ref (ad 5 i)] (fun st1 => st1 = cf_choose i st ∧ fb_okC fl fr st1) := by
  have hfl : fl ≤ 12 := hL.2.2.2.2.2.2.1
  have hfr : fr ≤ 100 := hL.2.2.2.2.2.2.2
  intro sz
  refine Met.ofW (cc := zb_X_choose) (maxL := 7) (ret := none) (by decide) rfl ?_
  intro p e s m args below meth c s₁ B hml hv
  obtain ⟨rfl, hsz, hP, hK, hD0⟩ := hv
  have hx := B.exec
  have hb := B.bytes
  have hr := B.returns
  have hts := atoms_spec (ws := zw_X_choose :: lw_gd) B.pre
  have hT : ∀ w ∈ lw_gd, w.before _ s = true := fun w h => hts w (List.mem_cons_of_mem _ h)
  have hown : s.vm.findClass "PausedFabric" = some m.cls := findClass_of_methodNamed B.named
  have hlocks := B.notSynchronized
  subst hsz
  have hD := fb_D_self (sz := s.heap.size) hD0
  have hS : va_S (fb_A ad LL s.heap.size) s.heap s.heap [] := va_S.rf
  have hl := lv_entry ([.ref (ad 0 0), .ref (ad 5 i)]) (n := 7) (Nat.le_of_ble_eq_true rfl)
  rw [lg_entry_eq]
  generalize (lg_sl ([.ref (ad 0 0), .ref (ad 5 i)]) ++ List.replicate (7 - (lg_sl ([.ref (ad 0 0), .ref (ad 5 i)])).length) Slot.unset).toArray = ls at hl ⊢
  have hl : lv_has ls 7 [(0, .ref (ad 0 0)), (1, .ref (ad 5 i))] := hl
  refine lv_aload_n hx hb zd_X_choose_0 rfl (lv_at hl 1 rfl) ?_
  refine pw_get (C := "PausedFabric$Port") (T := zT_P) (N := 11) hx hb hT zin_P hown hK hP (hL.2.2.1 _ hi).1 rfl rfl 5 (by decide) (hT _ zi_73) (fun _ h9 => h9) rfl zd_X_choose_1 ?_
  refine pw_split (fun hz1 => ?_) (fun hz1 => ?_)
  · skip
    refine lv_ifnullN (tgt := 8) hx hb zd_X_choose_4 (by decide) ?_
    refine lv_iconst (v := 0) hx hb zd_X_choose_8 (by decide) ?_
    refine lv_istore_n (lv' := [(2, .int 0), (0, .ref (ad 0 0)), (1, .ref (ad 5 i))]) hx hb zd_X_choose_9 rfl hl (by decide) rfl (fun ls hl => ?_)
    refine pw_loop (n := 64) (Inv := fun (a : Nat) (H : Heap) (locs : List Loc) (ls : Array Slot) => ∃ (S1 : fb_S), (cf_steps i (64 - a) S1 = cf_steps i 64 st) ∧ fb_okC fl fr S1 ∧ lv_has ls 7 [(0, .ref (ad 0 0)), (1, .ref (ad 5 i)), (2, .int (nI a))] ∧ va_P D fb_cl (fb_wl (fb_cC cA) ad S1 LL) H ∧ va_D (fb_A ad LL s.heap.size) (fb_wl (fb_cC cA) ad S1 LL) ∧ va_S (fb_A ad LL s.heap.size) s.heap H locs) ?_ ?_ ?_
    · skip
      intro a hia H locs ls hI iha
      obtain ⟨S1, hIa, okS1, hl, hP, hD, hS⟩ := hI
      have hpb : 64 - a = (64 - (a + 1)) + 1 := by omega
      refine lv_iload_n hx hb zd_X_choose_10 rfl (lv_at hl 2 rfl) ?_
      refine lv_bipush (v := 64) hx hb zd_X_choose_11 (by decide) ?_
      refine lv_icmp_ge (tgt := 127) hx hb zd_X_choose_13 (by decide) (fun h9 => absurd h9 (fb_lge (by decide) hia (by omega))) (fun _ => ?_)
      refine lv_aload_n hx hb zd_X_choose_16 rfl (lv_at hl 1 rfl) ?_
      refine pw_get (C := "PausedFabric$Port") (T := zT_P) (N := 11) hx hb hT zin_P hown hK hP (hL.2.2.1 _ hi).1 rfl rfl 4 (by decide) (hT _ zi_71) (fun _ h9 => h9) rfl zd_X_choose_17 ?_
      refine lv_istore_n (lv' := [(3, .int (S1 12 i)), (0, .ref (ad 0 0)), (1, .ref (ad 5 i)), (2, .int (nI a))]) hx hb zd_X_choose_20 rfl hl (by decide) rfl (fun ls hl => ?_)
      refine lv_iconst (v := 1) hx hb zd_X_choose_21 (by decide) ?_
      refine lv_iload_n hx hb zd_X_choose_22 rfl (lv_at hl 0 rfl) ?_
      refine lv_isub hx hb zd_X_choose_23 ?_
      refine lv_istore (lv' := [(4, .int (1 - (S1 12 i))), (3, .int (S1 12 i)), (0, .ref (ad 0 0)), (1, .ref (ad 5 i)), (2, .int (nI a))]) hx hb zd_X_choose_24 hl (by decide) rfl (fun ls hl => ?_)
      refine lv_aload_n hx hb zd_X_choose_26 rfl (lv_at hl 2 rfl) ?_
      refine lv_aload_n hx hb zd_X_choose_27 rfl (lv_at hl 3 rfl) ?_
      refine lv_iload_n hx hb zd_X_choose_28 rfl (lv_at hl 1 rfl) ?_
      refine pw_Vq (bytes := zb_X_readyFrame) (maxL := 4) (ret := (some (.object "PausedFabric$Frame"))) (As := [.ref (ad 5 i), .int (S1 12 i)]) (rest := []) ⟨hx, hb, hml, hown, hT⟩ (c_X_readyFrame l D cA ad LL fl fr S1 hL okS1 i hi (S1 12 i) (okS1 12 _)) (cwV 2 hT (fb_gV zi_349 zi_351 zs_X_readyFrame zi_1 zc_X_readyFrame) rfl rfl rfl (by decide +kernel) ⟨Nat.le_of_ble_eq_true rfl, Nat.le_of_ble_eq_true rfl⟩) hK hP hD hS (fb_recv hK hP (hL.2.1 0 (by decide)) rfl rfl) rfl hl.1 rfl (lv_room (Nat.le_of_ble_eq_true rfl)) zd_X_choose_29 ⟨Nat.zero_le _, Nat.zero_le _⟩ (fun rx sx H locs hp hP hD hS => ?_)
      obtain ⟨hr9, hs, hok9⟩ := hp
      rw [hr9]
      rw [hs] at hP hD
      refine pw_split (fun hz2 => ?_) (fun hz2 => ?_)
      · skip
        refine lv_astoreN (lv' := [(5, .null), (4, .int (1 - (S1 12 i))), (3, .int (S1 12 i)), (0, .ref (ad 0 0)), (1, .ref (ad 5 i)), (2, .int (nI a))]) hx hb zd_X_choose_32 hl (by decide) rfl (fun ls hl => ?_)
        refine lv_aload_n hx hb zd_X_choose_34 rfl (lv_at hl 3 rfl) ?_
        refine lv_aload_n hx hb zd_X_choose_35 rfl (lv_at hl 4 rfl) ?_
        refine lv_iload hx hb zd_X_choose_36 (lv_at hl 1 rfl) ?_
        refine pw_Vq (bytes := zb_X_readyFrame) (maxL := 4) (ret := (some (.object "PausedFabric$Frame"))) (As := [.ref (ad 5 i), .int (1 - (S1 12 i))]) (rest := []) ⟨hx, hb, hml, hown, hT⟩ (c_X_readyFrame l D cA ad LL fl fr S1 hL okS1 i hi (1 - (S1 12 i)) (fb_o01 (okS1 12 _))) (cwV 2 hT (fb_gV zi_349 zi_351 zs_X_readyFrame zi_1 zc_X_readyFrame) rfl rfl rfl (by decide +kernel) ⟨Nat.le_of_ble_eq_true rfl, Nat.le_of_ble_eq_true rfl⟩) hK hP hD hS (fb_recv hK hP (hL.2.1 0 (by decide)) rfl rfl) rfl hl.1 rfl (lv_room (Nat.le_of_ble_eq_true rfl)) zd_X_choose_38 ⟨Nat.zero_le _, Nat.zero_le _⟩ (fun rx sx H locs hp hP hD hS => ?_)
        obtain ⟨hr9, hs, hok9⟩ := hp
        rw [hr9]
        rw [hs] at hP hD
        refine pw_split (fun hz3 => ?_) (fun hz3 => ?_)
        · skip
          refine lv_astoreN (lv' := [(6, .null), (5, .null), (4, .int (1 - (S1 12 i))), (3, .int (S1 12 i)), (0, .ref (ad 0 0)), (1, .ref (ad 5 i)), (2, .int (nI a))]) hx hb zd_X_choose_41 hl (by decide) rfl (fun ls hl => ?_)
          refine lv_aloadN hx hb zd_X_choose_43 (lv_at hl 1 rfl) ?_
          refine lv_ifnonnullN hx hb zd_X_choose_45 ?_
          refine lv_aloadN hx hb zd_X_choose_48 (lv_at hl 0 rfl) ?_
          refine lv_ifnonnullN hx hb zd_X_choose_50 ?_
          exact W.vret hx hb hr (fun t ht hW => ⟨⟨S1, rfl, ⟨(by rw [show cf_choose i st = cf_steps i 64 st from if_pos hz1]; rw [hpb] at hIa; rw [← hIa]; simp only [cf_steps, if_pos hz1, if_pos hz2, if_pos hz3]), okS1⟩, by rw [ht]; exact hP, va_K.moved hW.alike hK, hD⟩, hS.F ht⟩) hS.2.2 zd_X_choose_53
        · skip
          refine lv_astore (lv' := [(6, .ref (ad 7 (fb_n (cf_ready S1 i (1 - (S1 12 i)))))), (5, .null), (4, .int (1 - (S1 12 i))), (3, .int (S1 12 i)), (0, .ref (ad 0 0)), (1, .ref (ad 5 i)), (2, .int (nI a))]) hx hb zd_X_choose_41 hl (by decide) rfl (fun ls hl => ?_)
          refine lv_aloadN hx hb zd_X_choose_43 (lv_at hl 1 rfl) ?_
          refine lv_ifnonnullN hx hb zd_X_choose_45 ?_
          refine lv_aload hx hb zd_X_choose_48 (lv_at hl 0 rfl) ?_
          refine lv_ifnonnull (tgt := 54) hx hb zd_X_choose_50 (by decide) ?_
          refine lv_aloadN hx hb zd_X_choose_54 (lv_at hl 1 rfl) ?_
          refine lv_ifnullN (tgt := 81) hx hb zd_X_choose_56 (by decide) ?_
          refine lv_aloadN hx hb zd_X_choose_81 (lv_at hl 1 rfl) ?_
          refine lv_ifnonnullN hx hb zd_X_choose_83 ?_
          refine lv_aload_n hx hb zd_X_choose_86 rfl (lv_at hl 5 rfl) ?_
          refine pw_get (C := "PausedFabric$Port") (T := zT_P) (N := 11) hx hb hT zin_P hown hK hP (hL.2.2.1 _ hi).1 rfl rfl 3 (by decide) (hT _ zi_69) (fun _ h9 => h9) rfl zd_X_choose_87 ?_
          refine lv_iload_n hx hb zd_X_choose_90 rfl (lv_at hl 3 rfl) ?_
          refine lv_iconst (v := 0) hx hb zd_X_choose_91 (by decide) ?_
          refine pw_iast hx hb hK hP hD hS (hL.2.2.1 _ hi).2.2.1 0 rfl rfl (fb_v01 (okS1 12 _)) (fb_up S1 17 (2 * i + fb_n (S1 12 i)) 0) (pa_C17 _ _ _ _ (fb_vl (fb_v01 (okS1 12 _)))) (fb_hoC hL _ 17 _ _ ow_17 (fb_x2 17 _ (by decide) (fb_vl (fb_v01 (okS1 12 _))))) zd_X_choose_92 (fun H locs hP hD hS => ?_)
          obtain ⟨s4, es4⟩ : ∃ z, z = fb_up S1 17 (2 * i + fb_n (S1 12 i)) 0 := ⟨_, rfl⟩
          have oks4 : fb_okC fl fr s4 := es4 ▸ (fb_okC_up okS1 trivial)
          rw [← es4] at hP hD
          refine lv_aload_n hx hb zd_X_choose_93 rfl (lv_at hl 5 rfl) ?_
          refine lv_iload hx hb zd_X_choose_94 (lv_at hl 2 rfl) ?_
          refine pw_put (C := "PausedFabric$Port") (T := zT_P) (N := 11) (ty := .int) (v := .int (1 - (S1 12 i))) hx hb hT zin_P zt_P ztok_P znm_P hown hK hP hD hS (hL.2.2.1 _ hi).1 rfl rfl 4 (by decide) (hT _ zi_71) (fun _ h9 => h9) rfl (by decide +kernel) rfl rfl (Nat.le_of_ble_eq_true rfl) (fb_up s4 12 i (1 - (S1 12 i))) (ps_C12 _ _ _) (fb_hoC hL _ 12 _ _ ow_12 (ix_12 _)) zd_X_choose_96 (fun H locs hP hD hS => ?_)
          obtain ⟨s5, es5⟩ : ∃ z, z = fb_up s4 12 i (1 - (S1 12 i)) := ⟨_, rfl⟩
          have oks5 : fb_okC fl fr s5 := es5 ▸ (fb_okC_up oks4 (fb_o01 (okS1 12 _)))
          rw [← es5] at hP hD
          refine lv_aload hx hb zd_X_choose_99 (lv_at hl 0 rfl) ?_
          refine lv_ifnull hx hb zd_X_choose_101 ?_
          refine lv_aload_n hx hb zd_X_choose_104 rfl (lv_at hl 5 rfl) ?_
          refine pw_get (C := "PausedFabric$Port") (T := zT_P) (N := 11) hx hb hT zin_P hown hK hP (hL.2.2.1 _ hi).1 rfl rfl 3 (by decide) (hT _ zi_69) (fun _ h9 => h9) rfl zd_X_choose_105 ?_
          refine lv_iload hx hb zd_X_choose_108 (lv_at hl 2 rfl) ?_
          refine lv_dup2_11 hx hb zd_X_choose_110 rfl rfl ?_
          refine pw_iald (v := s5 17 (2 * i + fb_n (1 - (S1 12 i)))) hx hb hK hP (hL.2.2.1 _ hi).2.2.1 0 rfl rfl (fb_v01 (fb_o01 (okS1 12 _))) (if_pos (fb_vl (fb_v01 (fb_o01 (okS1 12 _))))) zd_X_choose_111 ?_
          refine lv_aload_n hx hb zd_X_choose_112 rfl (lv_at hl 4 rfl) ?_
          refine pw_get (C := "PausedFabric") (T := zT_X) (N := 11) hx hb hT zin_X hown hK hP (hL.2.1 0 (by decide)) rfl rfl 4 (by decide) (hT _ zi_118) (fun _ h9 => h9) rfl zd_X_choose_113 ?_
          refine lv_iload hx hb zd_X_choose_116 (lv_at hl 2 rfl) ?_
          refine pw_iald (v := s5 7 (fb_n (1 - (S1 12 i)))) hx hb hK hP (hL.2.1 1 (by decide)) 0 rfl rfl (fb_v01 (fb_o01 (okS1 12 _))) rfl zd_X_choose_118 ?_
          refine lv_iadd hx hb zd_X_choose_119 ?_
          refine pw_iast hx hb hK hP hD hS (hL.2.2.1 _ hi).2.2.1 0 rfl rfl (fb_v01 (fb_o01 (okS1 12 _))) (fb_up s5 17 (2 * i + fb_n (1 - (S1 12 i))) ((s5 17 (2 * i + fb_n (1 - (S1 12 i)))) + (s5 7 (fb_n (1 - (S1 12 i)))))) (pa_C17 _ _ _ _ (fb_vl (fb_v01 (fb_o01 (okS1 12 _))))) (fb_hoC hL _ 17 _ _ ow_17 (fb_x2 17 _ (by decide) (fb_vl (fb_v01 (fb_o01 (okS1 12 _)))))) zd_X_choose_120 (fun H locs hP hD hS => ?_)
          obtain ⟨s6, es6⟩ : ∃ z, z = fb_up s5 17 (2 * i + fb_n (1 - (S1 12 i))) ((s5 17 (2 * i + fb_n (1 - (S1 12 i)))) + (s5 7 (fb_n (1 - (S1 12 i))))) := ⟨_, rfl⟩
          have oks6 : fb_okC fl fr s6 := es6 ▸ (fb_okC_up oks5 trivial)
          rw [← es6] at hP hD
          refine lv_iinc (k := 6) (v := nI (a + 1)) (lv' := [(2, .int (nI (a + 1))), (6, .ref (ad 7 (fb_n (cf_ready S1 i (1 - (S1 12 i)))))), (5, .null), (4, .int (1 - (S1 12 i))), (3, .int (S1 12 i)), (0, .ref (ad 0 0)), (1, .ref (ad 5 i))]) hx hb zd_X_choose_121 hl rfl (nI_succ _).symm (by decide) rfl (fun ls hl => ?_)
          refine lv_goto (tgt := 10) hx hb zd_X_choose_124 (by decide) ?_
          exact iha _ _ _ ⟨s6, (by rw [hpb] at hIa; rw [← hIa]; subst es6 es5 es4; simp only [cf_steps, cf_step, if_pos hz1, if_pos hz2, if_neg hz3]), oks6, (lv_sub hl [5, 6, 0] rfl), hP, hD, hS⟩
      · skip
        refine lv_astore (lv' := [(5, .ref (ad 7 (fb_n (cf_ready S1 i (S1 12 i))))), (4, .int (1 - (S1 12 i))), (3, .int (S1 12 i)), (0, .ref (ad 0 0)), (1, .ref (ad 5 i)), (2, .int (nI a))]) hx hb zd_X_choose_32 hl (by decide) rfl (fun ls hl => ?_)
        refine lv_aload_n hx hb zd_X_choose_34 rfl (lv_at hl 3 rfl) ?_
        refine lv_aload_n hx hb zd_X_choose_35 rfl (lv_at hl 4 rfl) ?_
        refine lv_iload hx hb zd_X_choose_36 (lv_at hl 1 rfl) ?_
        refine pw_Vq (bytes := zb_X_readyFrame) (maxL := 4) (ret := (some (.object "PausedFabric$Frame"))) (As := [.ref (ad 5 i), .int (1 - (S1 12 i))]) (rest := []) ⟨hx, hb, hml, hown, hT⟩ (c_X_readyFrame l D cA ad LL fl fr S1 hL okS1 i hi (1 - (S1 12 i)) (fb_o01 (okS1 12 _))) (cwV 2 hT (fb_gV zi_349 zi_351 zs_X_readyFrame zi_1 zc_X_readyFrame) rfl rfl rfl (by decide +kernel) ⟨Nat.le_of_ble_eq_true rfl, Nat.le_of_ble_eq_true rfl⟩) hK hP hD hS (fb_recv hK hP (hL.2.1 0 (by decide)) rfl rfl) rfl hl.1 rfl (lv_room (Nat.le_of_ble_eq_true rfl)) zd_X_choose_38 ⟨Nat.zero_le _, Nat.zero_le _⟩ (fun rx sx H locs hp hP hD hS => ?_)
        obtain ⟨hr9, hs, hok9⟩ := hp
        rw [hr9]
        rw [hs] at hP hD
        refine pw_split (fun hz7 => ?_) (fun hz7 => ?_)
        · skip
          refine lv_astoreN (lv' := [(6, .null), (5, .ref (ad 7 (fb_n (cf_ready S1 i (S1 12 i))))), (4, .int (1 - (S1 12 i))), (3, .int (S1 12 i)), (0, .ref (ad 0 0)), (1, .ref (ad 5 i)), (2, .int (nI a))]) hx hb zd_X_choose_41 hl (by decide) rfl (fun ls hl => ?_)
          refine lv_aload hx hb zd_X_choose_43 (lv_at hl 1 rfl) ?_
          refine lv_ifnonnull (tgt := 54) hx hb zd_X_choose_45 (by decide) ?_
          refine lv_aload hx hb zd_X_choose_54 (lv_at hl 1 rfl) ?_
          refine lv_ifnull hx hb zd_X_choose_56 ?_
          refine lv_aload hx hb zd_X_choose_59 (lv_at hl 1 rfl) ?_
          refine pw_get (C := "PausedFabric$Frame") (T := zT_K) (N := 10) hx hb hT zin_K hown hK hP (hL.2.2.2.2.2.1 _ (fb_rl (rg_ready okS1 i (S1 12 i)) hz2)) rfl rfl 2 (by decide) (hT _ zi_243) (fun _ h9 => h9) rfl zd_X_choose_61 ?_
          refine lv_aload_n hx hb zd_X_choose_64 rfl (lv_at hl 5 rfl) ?_
          refine pw_get (C := "PausedFabric$Port") (T := zT_P) (N := 11) hx hb hT zin_P hown hK hP (hL.2.2.1 _ hi).1 rfl rfl 3 (by decide) (hT _ zi_69) (fun _ h9 => h9) rfl zd_X_choose_65 ?_
          refine lv_iload_n hx hb zd_X_choose_68 rfl (lv_at hl 3 rfl) ?_
          refine pw_iald (v := S1 17 (2 * i + fb_n (S1 12 i))) hx hb hK hP (hL.2.2.1 _ hi).2.2.1 0 rfl rfl (fb_v01 (okS1 12 _)) (if_pos (fb_vl (fb_v01 (okS1 12 _)))) zd_X_choose_69 ?_
          refine lv_icmp_gt (tgt := 81) hx hb zd_X_choose_70 (by decide) (fun h8 => ?_) (fun h8 => ?_)
          · skip
            refine lv_aload hx hb zd_X_choose_81 (lv_at hl 1 rfl) ?_
            refine lv_ifnonnull (tgt := 93) hx hb zd_X_choose_83 (by decide) ?_
            refine lv_aload_n hx hb zd_X_choose_93 rfl (lv_at hl 5 rfl) ?_
            refine lv_iload hx hb zd_X_choose_94 (lv_at hl 2 rfl) ?_
            refine pw_put (C := "PausedFabric$Port") (T := zT_P) (N := 11) (ty := .int) (v := .int (1 - (S1 12 i))) hx hb hT zin_P zt_P ztok_P znm_P hown hK hP hD hS (hL.2.2.1 _ hi).1 rfl rfl 4 (by decide) (hT _ zi_71) (fun _ h9 => h9) rfl (by decide +kernel) rfl rfl (Nat.le_of_ble_eq_true rfl) (fb_up S1 12 i (1 - (S1 12 i))) (ps_C12 _ _ _) (fb_hoC hL _ 12 _ _ ow_12 (ix_12 _)) zd_X_choose_96 (fun H locs hP hD hS => ?_)
            obtain ⟨s9, es9⟩ : ∃ z, z = fb_up S1 12 i (1 - (S1 12 i)) := ⟨_, rfl⟩
            have oks9 : fb_okC fl fr s9 := es9 ▸ (fb_okC_up okS1 (fb_o01 (okS1 12 _)))
            rw [← es9] at hP hD
            refine lv_aloadN hx hb zd_X_choose_99 (lv_at hl 0 rfl) ?_
            refine lv_ifnullN (tgt := 121) hx hb zd_X_choose_101 (by decide) ?_
            refine lv_iinc (k := 6) (v := nI (a + 1)) (lv' := [(2, .int (nI (a + 1))), (6, .null), (5, .ref (ad 7 (fb_n (cf_ready S1 i (S1 12 i))))), (4, .int (1 - (S1 12 i))), (3, .int (S1 12 i)), (0, .ref (ad 0 0)), (1, .ref (ad 5 i))]) hx hb zd_X_choose_121 hl rfl (nI_succ _).symm (by decide) rfl (fun ls hl => ?_)
            refine lv_goto (tgt := 10) hx hb zd_X_choose_124 (by decide) ?_
            exact iha _ _ _ ⟨s9, (by rw [hpb] at hIa; rw [← hIa]; subst es9; simp only [cf_steps, cf_step, if_pos hz1, if_neg hz2, if_pos hz7, if_pos h8]), oks9, (lv_sub hl [5, 6, 0] rfl), hP, hD, hS⟩
          · skip
            refine lv_aload_n hx hb zd_X_choose_73 rfl (lv_at hl 4 rfl) ?_
            refine lv_aload_n hx hb zd_X_choose_74 rfl (lv_at hl 5 rfl) ?_
            refine lv_aload hx hb zd_X_choose_75 (lv_at hl 1 rfl) ?_
            refine pw_Vv (bytes := zb_X_beginSending) (maxL := 4) (ret := none) (As := [.ref (ad 5 i), .ref (ad 7 (fb_n (cf_ready S1 i (S1 12 i))))]) (rest := []) ⟨hx, hb, hml, hown, hT⟩ (c_X_beginSending l D cA ad LL fl fr S1 hL okS1 i hi (fb_n (cf_ready S1 i (S1 12 i))) (fb_rl (rg_ready okS1 i (S1 12 i)) hz2)) (cwV 2 hT (fb_gV zi_353 zi_355 zs_X_beginSending zi_1 zc_X_beginSending) rfl rfl rfl (by decide +kernel) ⟨Nat.le_of_ble_eq_true rfl, Nat.le_of_ble_eq_true rfl⟩) hK hP hD hS (fb_recv hK hP (hL.2.1 0 (by decide)) rfl rfl) rfl hl.1 rfl (lv_room (Nat.le_of_ble_eq_true rfl)) zd_X_choose_77 ⟨Nat.zero_le _, Nat.zero_le _⟩ (fun s10 H locs hp hP hD hS => ?_)
            obtain ⟨hs, hok9⟩ := hp
            have es10 : s10 = cf_begin i (fb_n (cf_ready S1 i (S1 12 i))) S1 := hs
            have oks10 : fb_okC fl fr s10 := hok9
            exact W.vret hx hb hr (fun t ht hW => ⟨⟨s10, rfl, ⟨(by rw [show cf_choose i st = cf_steps i 64 st from if_pos hz1]; rw [hpb] at hIa; rw [← hIa]; subst es10; simp only [cf_steps, if_pos hz1, if_neg hz2, if_pos hz7, if_neg h8]), oks10⟩, by rw [ht]; exact hP, va_K.moved hW.alike hK, hD⟩, hS.F ht⟩) hS.2.2 zd_X_choose_80
        · skip
          refine lv_astore (lv' := [(6, .ref (ad 7 (fb_n (cf_ready S1 i (1 - (S1 12 i)))))), (5, .ref (ad 7 (fb_n (cf_ready S1 i (S1 12 i))))), (4, .int (1 - (S1 12 i))), (3, .int (S1 12 i)), (0, .ref (ad 0 0)), (1, .ref (ad 5 i)), (2, .int (nI a))]) hx hb zd_X_choose_41 hl (by decide) rfl (fun ls hl => ?_)
          refine lv_aload hx hb zd_X_choose_43 (lv_at hl 1 rfl) ?_
          refine lv_ifnonnull (tgt := 54) hx hb zd_X_choose_45 (by decide) ?_
          refine lv_aload hx hb zd_X_choose_54 (lv_at hl 1 rfl) ?_
          refine lv_ifnull hx hb zd_X_choose_56 ?_
          refine lv_aload hx hb zd_X_choose_59 (lv_at hl 1 rfl) ?_
          refine pw_get (C := "PausedFabric$Frame") (T := zT_K) (N := 10) hx hb hT zin_K hown hK hP (hL.2.2.2.2.2.1 _ (fb_rl (rg_ready okS1 i (S1 12 i)) hz2)) rfl rfl 2 (by decide) (hT _ zi_243) (fun _ h9 => h9) rfl zd_X_choose_61 ?_
          refine lv_aload_n hx hb zd_X_choose_64 rfl (lv_at hl 5 rfl) ?_
          refine pw_get (C := "PausedFabric$Port") (T := zT_P) (N := 11) hx hb hT zin_P hown hK hP (hL.2.2.1 _ hi).1 rfl rfl 3 (by decide) (hT _ zi_69) (fun _ h9 => h9) rfl zd_X_choose_65 ?_
          refine lv_iload_n hx hb zd_X_choose_68 rfl (lv_at hl 3 rfl) ?_
          refine pw_iald (v := S1 17 (2 * i + fb_n (S1 12 i))) hx hb hK hP (hL.2.2.1 _ hi).2.2.1 0 rfl rfl (fb_v01 (okS1 12 _)) (if_pos (fb_vl (fb_v01 (okS1 12 _)))) zd_X_choose_69 ?_
          refine lv_icmp_gt (tgt := 81) hx hb zd_X_choose_70 (by decide) (fun h11 => ?_) (fun h11 => ?_)
          · skip
            refine lv_aload hx hb zd_X_choose_81 (lv_at hl 1 rfl) ?_
            refine lv_ifnonnull (tgt := 93) hx hb zd_X_choose_83 (by decide) ?_
            refine lv_aload_n hx hb zd_X_choose_93 rfl (lv_at hl 5 rfl) ?_
            refine lv_iload hx hb zd_X_choose_94 (lv_at hl 2 rfl) ?_
            refine pw_put (C := "PausedFabric$Port") (T := zT_P) (N := 11) (ty := .int) (v := .int (1 - (S1 12 i))) hx hb hT zin_P zt_P ztok_P znm_P hown hK hP hD hS (hL.2.2.1 _ hi).1 rfl rfl 4 (by decide) (hT _ zi_71) (fun _ h9 => h9) rfl (by decide +kernel) rfl rfl (Nat.le_of_ble_eq_true rfl) (fb_up S1 12 i (1 - (S1 12 i))) (ps_C12 _ _ _) (fb_hoC hL _ 12 _ _ ow_12 (ix_12 _)) zd_X_choose_96 (fun H locs hP hD hS => ?_)
            obtain ⟨s12, es12⟩ : ∃ z, z = fb_up S1 12 i (1 - (S1 12 i)) := ⟨_, rfl⟩
            have oks12 : fb_okC fl fr s12 := es12 ▸ (fb_okC_up okS1 (fb_o01 (okS1 12 _)))
            rw [← es12] at hP hD
            refine lv_aload hx hb zd_X_choose_99 (lv_at hl 0 rfl) ?_
            refine lv_ifnull hx hb zd_X_choose_101 ?_
            refine lv_aload_n hx hb zd_X_choose_104 rfl (lv_at hl 5 rfl) ?_
            refine pw_get (C := "PausedFabric$Port") (T := zT_P) (N := 11) hx hb hT zin_P hown hK hP (hL.2.2.1 _ hi).1 rfl rfl 3 (by decide) (hT _ zi_69) (fun _ h9 => h9) rfl zd_X_choose_105 ?_
            refine lv_iload hx hb zd_X_choose_108 (lv_at hl 2 rfl) ?_
            refine lv_dup2_11 hx hb zd_X_choose_110 rfl rfl ?_
            refine pw_iald (v := s12 17 (2 * i + fb_n (1 - (S1 12 i)))) hx hb hK hP (hL.2.2.1 _ hi).2.2.1 0 rfl rfl (fb_v01 (fb_o01 (okS1 12 _))) (if_pos (fb_vl (fb_v01 (fb_o01 (okS1 12 _))))) zd_X_choose_111 ?_
            refine lv_aload_n hx hb zd_X_choose_112 rfl (lv_at hl 4 rfl) ?_
            refine pw_get (C := "PausedFabric") (T := zT_X) (N := 11) hx hb hT zin_X hown hK hP (hL.2.1 0 (by decide)) rfl rfl 4 (by decide) (hT _ zi_118) (fun _ h9 => h9) rfl zd_X_choose_113 ?_
            refine lv_iload hx hb zd_X_choose_116 (lv_at hl 2 rfl) ?_
            refine pw_iald (v := s12 7 (fb_n (1 - (S1 12 i)))) hx hb hK hP (hL.2.1 1 (by decide)) 0 rfl rfl (fb_v01 (fb_o01 (okS1 12 _))) rfl zd_X_choose_118 ?_
            refine lv_iadd hx hb zd_X_choose_119 ?_
            refine pw_iast hx hb hK hP hD hS (hL.2.2.1 _ hi).2.2.1 0 rfl rfl (fb_v01 (fb_o01 (okS1 12 _))) (fb_up s12 17 (2 * i + fb_n (1 - (S1 12 i))) ((s12 17 (2 * i + fb_n (1 - (S1 12 i)))) + (s12 7 (fb_n (1 - (S1 12 i)))))) (pa_C17 _ _ _ _ (fb_vl (fb_v01 (fb_o01 (okS1 12 _))))) (fb_hoC hL _ 17 _ _ ow_17 (fb_x2 17 _ (by decide) (fb_vl (fb_v01 (fb_o01 (okS1 12 _)))))) zd_X_choose_120 (fun H locs hP hD hS => ?_)
            obtain ⟨s13, es13⟩ : ∃ z, z = fb_up s12 17 (2 * i + fb_n (1 - (S1 12 i))) ((s12 17 (2 * i + fb_n (1 - (S1 12 i)))) + (s12 7 (fb_n (1 - (S1 12 i))))) := ⟨_, rfl⟩
            have oks13 : fb_okC fl fr s13 := es13 ▸ (fb_okC_up oks12 trivial)
            rw [← es13] at hP hD
            refine lv_iinc (k := 6) (v := nI (a + 1)) (lv' := [(2, .int (nI (a + 1))), (6, .ref (ad 7 (fb_n (cf_ready S1 i (1 - (S1 12 i)))))), (5, .ref (ad 7 (fb_n (cf_ready S1 i (S1 12 i))))), (4, .int (1 - (S1 12 i))), (3, .int (S1 12 i)), (0, .ref (ad 0 0)), (1, .ref (ad 5 i))]) hx hb zd_X_choose_121 hl rfl (nI_succ _).symm (by decide) rfl (fun ls hl => ?_)
            refine lv_goto (tgt := 10) hx hb zd_X_choose_124 (by decide) ?_
            exact iha _ _ _ ⟨s13, (by rw [hpb] at hIa; rw [← hIa]; subst es13 es12; simp only [cf_steps, cf_step, if_pos hz1, if_neg hz2, if_neg hz7, if_pos h11]), oks13, (lv_sub hl [5, 6, 0] rfl), hP, hD, hS⟩
          · skip
            refine lv_aload_n hx hb zd_X_choose_73 rfl (lv_at hl 4 rfl) ?_
            refine lv_aload_n hx hb zd_X_choose_74 rfl (lv_at hl 5 rfl) ?_
            refine lv_aload hx hb zd_X_choose_75 (lv_at hl 1 rfl) ?_
            refine pw_Vv (bytes := zb_X_beginSending) (maxL := 4) (ret := none) (As := [.ref (ad 5 i), .ref (ad 7 (fb_n (cf_ready S1 i (S1 12 i))))]) (rest := []) ⟨hx, hb, hml, hown, hT⟩ (c_X_beginSending l D cA ad LL fl fr S1 hL okS1 i hi (fb_n (cf_ready S1 i (S1 12 i))) (fb_rl (rg_ready okS1 i (S1 12 i)) hz2)) (cwV 2 hT (fb_gV zi_353 zi_355 zs_X_beginSending zi_1 zc_X_beginSending) rfl rfl rfl (by decide +kernel) ⟨Nat.le_of_ble_eq_true rfl, Nat.le_of_ble_eq_true rfl⟩) hK hP hD hS (fb_recv hK hP (hL.2.1 0 (by decide)) rfl rfl) rfl hl.1 rfl (lv_room (Nat.le_of_ble_eq_true rfl)) zd_X_choose_77 ⟨Nat.zero_le _, Nat.zero_le _⟩ (fun s14 H locs hp hP hD hS => ?_)
            obtain ⟨hs, hok9⟩ := hp
            have es14 : s14 = cf_begin i (fb_n (cf_ready S1 i (S1 12 i))) S1 := hs
            have oks14 : fb_okC fl fr s14 := hok9
            exact W.vret hx hb hr (fun t ht hW => ⟨⟨s14, rfl, ⟨(by rw [show cf_choose i st = cf_steps i 64 st from if_pos hz1]; rw [hpb] at hIa; rw [← hIa]; subst es14; simp only [cf_steps, if_pos hz1, if_neg hz2, if_neg hz7, if_neg h11]), oks14⟩, by rw [ht]; exact hP, va_K.moved hW.alike hK, hD⟩, hS.F ht⟩) hS.2.2 zd_X_choose_80
    · skip
      intro H locs ls hI
      obtain ⟨S1, hIa, okS1, hl, hP, hD, hS⟩ := hI
      refine lv_iload_n hx hb zd_X_choose_10 rfl (lv_at hl 2 rfl) ?_
      refine lv_bipush (v := 64) hx hb zd_X_choose_11 (by decide) ?_
      refine lv_icmp_ge (tgt := 127) hx hb zd_X_choose_13 (by decide) (fun _ => ?_) (fun h9 => absurd (fb_lle (by decide) (by omega)) h9)
      exact W.vret hx hb hr (fun t ht hW => ⟨⟨S1, rfl, ⟨(by rw [show cf_choose i st = cf_steps i 64 st from if_pos hz1, ← hIa]; rfl), okS1⟩, by rw [ht]; exact hP, va_K.moved hW.alike hK, hD⟩, hS.F ht⟩) hS.2.2 zd_X_choose_127
    · skip
      exact ⟨st, rfl, hok, (lv_sub hl [1, 2, 0] rfl), hP, hD, hS⟩
  · skip
    refine lv_ifnull hx hb zd_X_choose_4 ?_
    exact W.vret hx hb hr (fun t ht hW => ⟨⟨st, rfl, ⟨(by simp only [cf_choose, if_neg hz1, fb_b_t, fb_b_f]), hok⟩, by rw [ht]; exact hP, va_K.moved hW.alike hK, hD⟩, hS.F ht⟩) hS.2.2 zd_X_choose_7
