/-! contracts (by program) -/
set_option maxHeartbeats 4000000 in
set_option maxRecDepth 100000 in
theorem c_M_choose (l : Launch) (D : va_G) (cA : Nat → ClassId) (ad : Nat → Nat → Nat) (fl fr T : Nat) (st : fb_S) (hflr : fl ≤ 12 ∧ fr ≤ 100 ∧ T ≤ 30000) (hok : fb_okM fl fr T st) (u : Int32) (v : Int32) (hu : vp_in u 14) (hv : vp_in v 14) : fb_Mv l zy_M_choose (zw_M_choose :: lw_gd) { frames := 5, cells := 0, slots := 0, locals := 119 } (fb_cM cA) D fb_cl (fb_tys cA) ad fb_LM st [.ref (ad 0 0), .int u, .int v] (fun st1 => st1 = mf_choose fr u v st ∧ fb_okM fl fr T st1) := by
  have hfl : fl ≤ 12 := hflr.1
  have hfr : fr ≤ 100 := hflr.2.1
  have hTb : T ≤ 30000 := hflr.2.2
  intro sz
  refine Met.ofW (cc := zb_M_choose) (maxL := 13) (ret := none) (by decide) rfl ?_
  intro p e s m args below meth c s₁ B hml hv
  obtain ⟨rfl, hsz, hP, hK, hD0⟩ := hv
  have hx := B.exec
  have hb := B.bytes
  have hr := B.returns
  have hts := atoms_spec (ws := zw_M_choose :: lw_gd) B.pre
  have hT : ∀ w ∈ lw_gd, w.before _ s = true := fun w h => hts w (List.mem_cons_of_mem _ h)
  have hown : s.vm.findClass "PausedFabricModel" = some m.cls := findClass_of_methodNamed B.named
  have hlocks := B.notSynchronized
  subst hsz
  have hD := fb_D_self (sz := s.heap.size) hD0
  have hS : va_S (fb_A ad fb_LM s.heap.size) s.heap s.heap [] := va_S.rf
  have hl := lv_entry ([.ref (ad 0 0), .int u, .int v]) (n := 13) (Nat.le_of_ble_eq_true rfl)
  rw [lg_entry_eq]
  generalize (lg_sl ([.ref (ad 0 0), .int u, .int v]) ++ List.replicate (13 - (lg_sl ([.ref (ad 0 0), .int u, .int v])).length) Slot.unset).toArray = ls at hl ⊢
  have hl : lv_has ls 13 [(0, .ref (ad 0 0)), (1, .int u), (2, .int v)] := hl
  refine lv_bipush (v := 14) hx hb zd_M_choose_0 (by decide) ?_
  refine lv_iload_n hx hb zd_M_choose_2 rfl (lv_at hl 1 rfl) ?_
  refine lv_imul hx hb zd_M_choose_3 ?_
  refine lv_iload_n hx hb zd_M_choose_4 rfl (lv_at hl 2 rfl) ?_
  refine lv_iadd hx hb zd_M_choose_5 ?_
  refine lv_istore_n (lv' := [(3, .int ((14 * u) + v)), (0, .ref (ad 0 0)), (1, .int u), (2, .int v)]) hx hb zd_M_choose_6 rfl hl (by decide) rfl (fun ls hl => ?_)
  refine lv_aload_n hx hb zd_M_choose_7 rfl (lv_at hl 1 rfl) ?_
  refine lv_iload_n hx hb zd_M_choose_8 rfl (lv_at hl 2 rfl) ?_
  refine lv_iload_n hx hb zd_M_choose_9 rfl (lv_at hl 3 rfl) ?_
  refine lv_iconst (v := 0) hx hb zd_M_choose_10 (by decide) ?_
  refine pw_Vi (bytes := zb_M_ready) (maxL := 5) (ret := (some .boolean)) (As := [.int u, .int v, .int 0]) (rest := []) ⟨hx, hb, hml, hown, hT⟩ (c_M_ready l D cA ad fl fr T st hflr hok u v 0 hu hv) (cwV 3 hT (fb_gV zi_601 zi_603 zs_M_ready zi_5 zc_M_ready) rfl rfl rfl (by decide +kernel) ⟨Nat.le_of_ble_eq_true rfl, Nat.le_of_ble_eq_true rfl⟩) hK hP hD hS (fb_recv hK hP (fb_memM (k := 0) rfl) rfl rfl) rfl hl.1 rfl (lv_room (Nat.le_of_ble_eq_true rfl)) zd_M_choose_11 ⟨Nat.zero_le _, Nat.zero_le _⟩ (fun rx sx H locs hp hP hD hS => ?_)
  obtain ⟨hr9, hs, hok9⟩ := hp
  rw [hr9]
  rw [hs] at hP hD
  refine lv_istore (lv' := [(4, .int (fb_b (mf_ready st fr u v 0))), (3, .int ((14 * u) + v)), (0, .ref (ad 0 0)), (1, .int u), (2, .int v)]) hx hb zd_M_choose_14 hl (by decide) rfl (fun ls hl => ?_)
  refine lv_aload_n hx hb zd_M_choose_16 rfl (lv_at hl 2 rfl) ?_
  refine lv_iload_n hx hb zd_M_choose_17 rfl (lv_at hl 3 rfl) ?_
  refine lv_iload_n hx hb zd_M_choose_18 rfl (lv_at hl 4 rfl) ?_
  refine lv_iconst (v := 1) hx hb zd_M_choose_19 (by decide) ?_
  refine pw_Vi (bytes := zb_M_ready) (maxL := 5) (ret := (some .boolean)) (As := [.int u, .int v, .int 1]) (rest := []) ⟨hx, hb, hml, hown, hT⟩ (c_M_ready l D cA ad fl fr T st hflr hok u v 1 hu hv) (cwV 3 hT (fb_gV zi_601 zi_603 zs_M_ready zi_5 zc_M_ready) rfl rfl rfl (by decide +kernel) ⟨Nat.le_of_ble_eq_true rfl, Nat.le_of_ble_eq_true rfl⟩) hK hP hD hS (fb_recv hK hP (fb_memM (k := 0) rfl) rfl rfl) rfl hl.1 rfl (lv_room (Nat.le_of_ble_eq_true rfl)) zd_M_choose_20 ⟨Nat.zero_le _, Nat.zero_le _⟩ (fun rx sx H locs hp hP hD hS => ?_)
  obtain ⟨hr9, hs, hok9⟩ := hp
  rw [hr9]
  rw [hs] at hP hD
  refine lv_istore (lv' := [(5, .int (fb_b (mf_ready st fr u v 1))), (4, .int (fb_b (mf_ready st fr u v 0))), (3, .int ((14 * u) + v)), (0, .ref (ad 0 0)), (1, .int u), (2, .int v)]) hx hb zd_M_choose_23 hl (by decide) rfl (fun ls hl => ?_)
  refine pw_cut (ls := ls) (X := fb_b (mf_more (mf_ready st fr u v 0) (mf_ready st fr u v 1))) (rest := []) 40 (fun H locs => va_P D fb_cl (fb_wl (fb_cM cA) ad st fb_LM) H ∧ va_D (fb_A ad fb_LM s.heap.size) (fb_wl (fb_cM cA) ad st fb_LM) ∧ va_S (fb_A ad fb_LM s.heap.size) s.heap H locs) ?_ (fun kj40 => ?_)
  · skip
    rintro x9 H locs h9 ⟨hP, hD, hS⟩
    subst h9
    refine lv_istore (lv' := [(6, .int (fb_b (mf_more (mf_ready st fr u v 0) (mf_ready st fr u v 1)))), (5, .int (fb_b (mf_ready st fr u v 1))), (4, .int (fb_b (mf_ready st fr u v 0))), (3, .int ((14 * u) + v)), (0, .ref (ad 0 0)), (1, .int u), (2, .int v)]) hx hb zd_M_choose_40 hl (by decide) rfl (fun ls hl => ?_)
    refine lv_iconst (v := 0) hx hb zd_M_choose_42 (by decide) ?_
    refine lv_istore (lv' := [(7, .int 0), (6, .int (fb_b (mf_more (mf_ready st fr u v 0) (mf_ready st fr u v 1)))), (5, .int (fb_b (mf_ready st fr u v 1))), (4, .int (fb_b (mf_ready st fr u v 0))), (3, .int ((14 * u) + v)), (0, .ref (ad 0 0)), (1, .int u), (2, .int v)]) hx hb zd_M_choose_43 hl (by decide) rfl (fun ls hl => ?_)
    refine pw_loop (n := 40) (Inv := fun (a : Nat) (H : Heap) (locs : List Loc) (ls : Array Slot) => ∃ (S1 : fb_S) (x1 : Int32), (mf_go fr u v (mf_ready st fr u v 0) (mf_ready st fr u v 1) x1 (40 - a) S1 = mf_choose fr u v st ∧ (¬ x1 = 0 → fb_agree S1 st)) ∧ fb_okM fl fr T S1 ∧ lv_has ls 13 [(0, .ref (ad 0 0)), (1, .int u), (2, .int v), (3, .int ((14 * u) + v)), (4, .int (fb_b (mf_ready st fr u v 0))), (5, .int (fb_b (mf_ready st fr u v 1))), (6, .int x1), (7, .int (nI a))] ∧ va_P D fb_cl (fb_wl (fb_cM cA) ad S1 fb_LM) H ∧ va_D (fb_A ad fb_LM s.heap.size) (fb_wl (fb_cM cA) ad S1 fb_LM) ∧ va_S (fb_A ad fb_LM s.heap.size) s.heap H locs) ?_ ?_ ?_
    · skip
      intro a hia H locs ls hI iha
      obtain ⟨S1, x1, hIa, okS1, hl, hP, hD, hS⟩ := hI
      have hpb : 40 - a = (40 - (a + 1)) + 1 := by omega
      refine lv_iload hx hb zd_M_choose_45 (lv_at hl 7 rfl) ?_
      refine lv_bipush (v := 40) hx hb zd_M_choose_47 (by decide) ?_
      refine lv_icmp_ge (tgt := 272) hx hb zd_M_choose_49 (by decide) (fun h9 => absurd h9 (fb_lge (by decide) hia (by omega))) (fun _ => ?_)
      refine lv_iload hx hb zd_M_choose_52 (lv_at hl 6 rfl) ?_
      refine lv_if_eq (tgt := 272) hx hb zd_M_choose_54 (by decide) (fun h1 => ?_) (fun h1 => ?_)
      · skip
        exact W.vret hx hb hr (fun t ht hW => ⟨⟨S1, rfl, ⟨(by have h9 := hIa.1; simp only [mf_go, if_pos h1] at h9; exact h9), okS1⟩, by rw [ht]; exact hP, va_K.moved hW.alike hK, hD⟩, hS.F ht⟩) hS.2.2 zd_M_choose_272
      · skip
        refine lv_aload_n hx hb zd_M_choose_57 rfl (lv_at hl 0 rfl) ?_
        refine pw_get (C := "PausedFabricModel") (T := zT_M) (N := 28) hx hb hT zin_M hown hK hP (fb_memM (k := 0) rfl) rfl rfl 23 (by decide) (hT _ zi_459) (fun _ h9 => h9) rfl zd_M_choose_58 ?_
        refine lv_iload_n hx hb zd_M_choose_61 rfl (lv_at hl 3 rfl) ?_
        refine pw_iald (v := S1 23 (fb_n ((14 * u) + v))) hx hb hK hP (fb_memM (k := 23) rfl) 0 rfl rfl (fb_in14 hu hv) rfl zd_M_choose_62 ?_
        refine lv_istore (lv' := [(8, .int (S1 23 (fb_n ((14 * u) + v)))), (0, .ref (ad 0 0)), (1, .int u), (2, .int v), (3, .int ((14 * u) + v)), (4, .int (fb_b (mf_ready st fr u v 0))), (5, .int (fb_b (mf_ready st fr u v 1))), (6, .int x1), (7, .int (nI a))]) hx hb zd_M_choose_63 hl (by decide) rfl (fun ls hl => ?_)
        refine lv_iload hx hb zd_M_choose_65 (lv_at hl 0 rfl) ?_
        refine lv_if_ne (tgt := 75) hx hb zd_M_choose_67 (by decide) (fun h2 => ?_) (fun h2 => ?_)
        · skip
          refine lv_iload hx hb zd_M_choose_75 (lv_at hl 6 rfl) ?_
          refine lv_istore (lv' := [(9, .int (fb_b (mf_ready st fr u v 1))), (8, .int (S1 23 (fb_n ((14 * u) + v)))), (0, .ref (ad 0 0)), (1, .int u), (2, .int v), (3, .int ((14 * u) + v)), (4, .int (fb_b (mf_ready st fr u v 0))), (5, .int (fb_b (mf_ready st fr u v 1))), (6, .int x1), (7, .int (nI a))]) hx hb zd_M_choose_77 hl (by decide) rfl (fun ls hl => ?_)
          refine lv_aload_n hx hb zd_M_choose_79 rfl (lv_at hl 2 rfl) ?_
          refine lv_iload_n hx hb zd_M_choose_80 rfl (lv_at hl 3 rfl) ?_
          refine lv_iload_n hx hb zd_M_choose_81 rfl (lv_at hl 4 rfl) ?_
          refine lv_iload hx hb zd_M_choose_82 (lv_at hl 1 rfl) ?_
          refine pw_Vi (bytes := zb_M_first) (maxL := 7) (ret := (some .int)) (As := [.int u, .int v, .int (S1 23 (fb_n ((14 * u) + v)))]) (rest := []) ⟨hx, hb, hml, hown, hT⟩ (c_M_first l D cA ad fl fr T S1 hflr okS1 u v (S1 23 (fb_n ((14 * u) + v)))) (cwV 3 hT (fb_gV zi_605 zi_607 zs_M_first zi_5 zc_M_first) rfl rfl rfl (by decide +kernel) ⟨Nat.le_of_ble_eq_true rfl, Nat.le_of_ble_eq_true rfl⟩) hK hP hD hS (fb_recv hK hP (fb_memM (k := 0) rfl) rfl rfl) rfl hl.1 rfl (lv_room (Nat.le_of_ble_eq_true rfl)) zd_M_choose_84 ⟨Nat.zero_le _, Nat.zero_le _⟩ (fun rx sx H locs hp hP hD hS => ?_)
          obtain ⟨hr9, hs, hok9⟩ := hp
          rw [hr9]
          rw [hs] at hP hD
          refine lv_istore (lv' := [(10, .int (mf_first S1 u v (S1 23 (fb_n ((14 * u) + v))) fr)), (9, .int (fb_b (mf_ready st fr u v 1))), (8, .int (S1 23 (fb_n ((14 * u) + v)))), (0, .ref (ad 0 0)), (1, .int u), (2, .int v), (3, .int ((14 * u) + v)), (4, .int (fb_b (mf_ready st fr u v 0))), (5, .int (fb_b (mf_ready st fr u v 1))), (6, .int x1), (7, .int (nI a))]) hx hb zd_M_choose_87 hl (by decide) rfl (fun ls hl => ?_)
          refine lv_iload hx hb zd_M_choose_89 (lv_at hl 1 rfl) ?_
          refine lv_if_eq (tgt := 158) hx hb zd_M_choose_91 (by decide) (fun h3 => ?_) (fun h3 => ?_)
          · skip
            have h3b := fb_b0 h3
            refine lv_aload_n hx hb zd_M_choose_158 rfl (lv_at hl 3 rfl) ?_
            refine pw_get (C := "PausedFabricModel") (T := zT_M) (N := 28) hx hb hT zin_M hown hK hP (fb_memM (k := 0) rfl) rfl rfl 24 (by decide) (hT _ zi_460) (fun _ h9 => h9) rfl zd_M_choose_159 ?_
            refine lv_iconst (v := 2) hx hb zd_M_choose_162 (by decide) ?_
            refine lv_iload_n hx hb zd_M_choose_163 rfl (lv_at hl 6 rfl) ?_
            refine lv_imul hx hb zd_M_choose_164 ?_
            refine lv_iload hx hb zd_M_choose_165 (lv_at hl 2 rfl) ?_
            refine lv_iadd hx hb zd_M_choose_167 ?_
            refine lv_iload hx hb zd_M_choose_168 (lv_at hl 1 rfl) ?_
            refine lv_if_eq (tgt := 187) hx hb zd_M_choose_170 (by decide) (fun _ => ?_) (fun h9 => absurd h3 h9)
            refine lv_iconst (v := 0) hx hb zd_M_choose_187 (by decide) ?_
            refine pw_iast hx hb hK hP hD hS (fb_memM (k := 24) rfl) 0 rfl rfl (fb_in28 hu hv (okS1 23 _)) (fb_up S1 24 (fb_n ((2 * ((14 * u) + v)) + (S1 23 (fb_n ((14 * u) + v))))) 0) (pa_M24 _ _ _) (fb_hoM _ 24 _ _ owM_24) zd_M_choose_188 (fun H locs hP hD hS => ?_)
            obtain ⟨s4, es4⟩ : ∃ z, z = fb_up S1 24 (fb_n ((2 * ((14 * u) + v)) + (S1 23 (fb_n ((14 * u) + v))))) 0 := ⟨_, rfl⟩
            have oks4 : fb_okM fl fr T s4 := es4 ▸ (fb_okM_up okS1 trivial)
            rw [← es4] at hP hD
            refine lv_iconst (v := 1) hx hb zd_M_choose_189 (by decide) ?_
            refine lv_iload hx hb zd_M_choose_190 (lv_at hl 2 rfl) ?_
            refine lv_isub hx hb zd_M_choose_192 ?_
            refine lv_istore (lv' := [(11, .int (1 - (S1 23 (fb_n ((14 * u) + v))))), (10, .int (mf_first S1 u v (S1 23 (fb_n ((14 * u) + v))) fr)), (9, .int (fb_b (mf_ready st fr u v 1))), (8, .int (S1 23 (fb_n ((14 * u) + v)))), (0, .ref (ad 0 0)), (1, .int u), (2, .int v), (3, .int ((14 * u) + v)), (4, .int (fb_b (mf_ready st fr u v 0))), (5, .int (fb_b (mf_ready st fr u v 1))), (6, .int x1), (7, .int (nI a))]) hx hb zd_M_choose_193 hl (by decide) rfl (fun ls hl => ?_)
            refine lv_aload_n hx hb zd_M_choose_195 rfl (lv_at hl 4 rfl) ?_
            refine pw_get (C := "PausedFabricModel") (T := zT_M) (N := 28) hx hb hT zin_M hown hK hP (fb_memM (k := 0) rfl) rfl rfl 23 (by decide) (hT _ zi_459) (fun _ h9 => h9) rfl zd_M_choose_196 ?_
            refine lv_iload_n hx hb zd_M_choose_199 rfl (lv_at hl 7 rfl) ?_
            refine lv_iload hx hb zd_M_choose_200 (lv_at hl 0 rfl) ?_
            refine pw_iast hx hb hK hP hD hS (fb_memM (k := 23) rfl) 0 rfl rfl (fb_in14 hu hv) (fb_up s4 23 (fb_n ((14 * u) + v)) (1 - (S1 23 (fb_n ((14 * u) + v))))) (pa_M23 _ _ _) (fb_hoM _ 23 _ _ owM_23) zd_M_choose_202 (fun H locs hP hD hS => ?_)
            obtain ⟨s5, es5⟩ : ∃ z, z = fb_up s4 23 (fb_n ((14 * u) + v)) (1 - (S1 23 (fb_n ((14 * u) + v)))) := ⟨_, rfl⟩
            have oks5 : fb_okM fl fr T s5 := es5 ▸ (fb_okM_up oks4 (fb_o01 (okS1 23 _)))
            rw [← es5] at hP hD
            refine lv_iload hx hb zd_M_choose_203 (lv_at hl 0 rfl) ?_
            refine lv_if_ne (tgt := 213) hx hb zd_M_choose_205 (by decide) (fun h6 => ?_) (fun h6 => ?_)
            · skip
              refine lv_iload hx hb zd_M_choose_213 (lv_at hl 9 rfl) ?_
              refine lv_istore (lv' := [(12, .int (fb_b (mf_ready st fr u v 1))), (11, .int (1 - (S1 23 (fb_n ((14 * u) + v))))), (10, .int (mf_first S1 u v (S1 23 (fb_n ((14 * u) + v))) fr)), (9, .int (fb_b (mf_ready st fr u v 1))), (8, .int (S1 23 (fb_n ((14 * u) + v)))), (0, .ref (ad 0 0)), (1, .int u), (2, .int v), (3, .int ((14 * u) + v)), (4, .int (fb_b (mf_ready st fr u v 0))), (5, .int (fb_b (mf_ready st fr u v 1))), (6, .int x1), (7, .int (nI a))]) hx hb zd_M_choose_215 hl (by decide) rfl (fun ls hl => ?_)
              refine lv_aload_n hx hb zd_M_choose_217 rfl (lv_at hl 5 rfl) ?_
              refine pw_get (C := "PausedFabricModel") (T := zT_M) (N := 28) hx hb hT zin_M hown hK hP (fb_memM (k := 0) rfl) rfl rfl 24 (by decide) (hT _ zi_460) (fun _ h9 => h9) rfl zd_M_choose_218 ?_
              refine lv_iconst (v := 2) hx hb zd_M_choose_221 (by decide) ?_
              refine lv_iload_n hx hb zd_M_choose_222 rfl (lv_at hl 8 rfl) ?_
              refine lv_imul hx hb zd_M_choose_223 ?_
              refine lv_iload hx hb zd_M_choose_224 (lv_at hl 1 rfl) ?_
              refine lv_iadd hx hb zd_M_choose_226 ?_
              refine lv_iload hx hb zd_M_choose_227 (lv_at hl 0 rfl) ?_
              refine lv_if_eq (tgt := 254) hx hb zd_M_choose_229 (by decide) (fun _ => ?_) (fun h9 => absurd h3 h9)
              refine lv_aload_n hx hb zd_M_choose_254 rfl (lv_at hl 5 rfl) ?_
              refine pw_get (C := "PausedFabricModel") (T := zT_M) (N := 28) hx hb hT zin_M hown hK hP (fb_memM (k := 0) rfl) rfl rfl 24 (by decide) (hT _ zi_460) (fun _ h9 => h9) rfl zd_M_choose_255 ?_
              refine lv_iconst (v := 2) hx hb zd_M_choose_258 (by decide) ?_
              refine lv_iload_n hx hb zd_M_choose_259 rfl (lv_at hl 8 rfl) ?_
              refine lv_imul hx hb zd_M_choose_260 ?_
              refine lv_iload hx hb zd_M_choose_261 (lv_at hl 1 rfl) ?_
              refine lv_iadd hx hb zd_M_choose_263 ?_
              refine pw_iald (v := s5 24 (fb_n ((2 * ((14 * u) + v)) + (1 - (S1 23 (fb_n ((14 * u) + v))))))) hx hb hK hP (fb_memM (k := 24) rfl) 0 rfl rfl (fb_in28 hu hv (fb_o01 (okS1 23 _))) rfl zd_M_choose_264 ?_
              refine pw_iast hx hb hK hP hD hS (fb_memM (k := 24) rfl) 0 rfl rfl (fb_in28 hu hv (fb_o01 (okS1 23 _))) (fb_up s5 24 (fb_n ((2 * ((14 * u) + v)) + (1 - (S1 23 (fb_n ((14 * u) + v)))))) (s5 24 (fb_n ((2 * ((14 * u) + v)) + (1 - (S1 23 (fb_n ((14 * u) + v)))))))) (pa_M24 _ _ _) (fb_hoM _ 24 _ _ owM_24) zd_M_choose_265 (fun H locs hP hD hS => ?_)
              obtain ⟨s7, es7⟩ : ∃ z, z = fb_up s5 24 (fb_n ((2 * ((14 * u) + v)) + (1 - (S1 23 (fb_n ((14 * u) + v)))))) (s5 24 (fb_n ((2 * ((14 * u) + v)) + (1 - (S1 23 (fb_n ((14 * u) + v))))))) := ⟨_, rfl⟩
              have oks7 : fb_okM fl fr T s7 := es7 ▸ (fb_okM_up oks5 trivial)
              rw [← es7] at hP hD
              refine lv_iinc (k := 12) (v := nI (a + 1)) (lv' := [(7, .int (nI (a + 1))), (12, .int (fb_b (mf_ready st fr u v 1))), (11, .int (1 - (S1 23 (fb_n ((14 * u) + v))))), (10, .int (mf_first S1 u v (S1 23 (fb_n ((14 * u) + v))) fr)), (9, .int (fb_b (mf_ready st fr u v 1))), (8, .int (S1 23 (fb_n ((14 * u) + v)))), (0, .ref (ad 0 0)), (1, .int u), (2, .int v), (3, .int ((14 * u) + v)), (4, .int (fb_b (mf_ready st fr u v 0))), (5, .int (fb_b (mf_ready st fr u v 1))), (6, .int x1)]) hx hb zd_M_choose_266 hl rfl (nI_succ _).symm (by decide) rfl (fun ls hl => ?_)
              refine lv_goto (tgt := 45) hx hb zd_M_choose_269 (by decide) ?_
              exact iha _ _ _ ⟨s7, x1, ⟨(by have hq9 := hIa.1; rw [hpb] at hq9; rw [← hq9]; subst es7 es5 es4; simp only [mf_go, mf_steps, mf_step, mf_last1, mf_can, if_neg h1, if_neg h2, if_neg h3b, if_neg h6]), (fun _ F j hF1 hF2 => (by subst es7 es5 es4; rw [fb_up_F _ _ _ _ hF2, fb_up_F _ _ _ _ hF1, fb_up_F _ _ _ _ hF2]; exact hIa.2 h1 F j hF1 hF2))⟩, oks7, (lv_sub hl [6, 7, 8, 9, 10, 11, 12, 0] rfl), hP, hD, hS⟩
            · skip
              refine lv_iload hx hb zd_M_choose_208 (lv_at hl 8 rfl) ?_
              refine lv_goto (tgt := 215) hx hb zd_M_choose_210 (by decide) ?_
              refine lv_istore (lv' := [(12, .int (fb_b (mf_ready st fr u v 0))), (11, .int (1 - (S1 23 (fb_n ((14 * u) + v))))), (10, .int (mf_first S1 u v (S1 23 (fb_n ((14 * u) + v))) fr)), (9, .int (fb_b (mf_ready st fr u v 1))), (8, .int (S1 23 (fb_n ((14 * u) + v)))), (0, .ref (ad 0 0)), (1, .int u), (2, .int v), (3, .int ((14 * u) + v)), (4, .int (fb_b (mf_ready st fr u v 0))), (5, .int (fb_b (mf_ready st fr u v 1))), (6, .int x1), (7, .int (nI a))]) hx hb zd_M_choose_215 hl (by decide) rfl (fun ls hl => ?_)
              refine lv_aload_n hx hb zd_M_choose_217 rfl (lv_at hl 5 rfl) ?_
              refine pw_get (C := "PausedFabricModel") (T := zT_M) (N := 28) hx hb hT zin_M hown hK hP (fb_memM (k := 0) rfl) rfl rfl 24 (by decide) (hT _ zi_460) (fun _ h9 => h9) rfl zd_M_choose_218 ?_
              refine lv_iconst (v := 2) hx hb zd_M_choose_221 (by decide) ?_
              refine lv_iload_n hx hb zd_M_choose_222 rfl (lv_at hl 8 rfl) ?_
              refine lv_imul hx hb zd_M_choose_223 ?_
              refine lv_iload hx hb zd_M_choose_224 (lv_at hl 1 rfl) ?_
              refine lv_iadd hx hb zd_M_choose_226 ?_
              refine lv_iload hx hb zd_M_choose_227 (lv_at hl 0 rfl) ?_
              refine lv_if_eq (tgt := 254) hx hb zd_M_choose_229 (by decide) (fun h8 => ?_) (fun h8 => ?_)
              · skip
                have h8b := fb_b0 h8
                refine lv_aload_n hx hb zd_M_choose_254 rfl (lv_at hl 5 rfl) ?_
                refine pw_get (C := "PausedFabricModel") (T := zT_M) (N := 28) hx hb hT zin_M hown hK hP (fb_memM (k := 0) rfl) rfl rfl 24 (by decide) (hT _ zi_460) (fun _ h9 => h9) rfl zd_M_choose_255 ?_
                refine lv_iconst (v := 2) hx hb zd_M_choose_258 (by decide) ?_
                refine lv_iload_n hx hb zd_M_choose_259 rfl (lv_at hl 8 rfl) ?_
                refine lv_imul hx hb zd_M_choose_260 ?_
                refine lv_iload hx hb zd_M_choose_261 (lv_at hl 1 rfl) ?_
                refine lv_iadd hx hb zd_M_choose_263 ?_
                refine pw_iald (v := s5 24 (fb_n ((2 * ((14 * u) + v)) + (1 - (S1 23 (fb_n ((14 * u) + v))))))) hx hb hK hP (fb_memM (k := 24) rfl) 0 rfl rfl (fb_in28 hu hv (fb_o01 (okS1 23 _))) rfl zd_M_choose_264 ?_
                refine pw_iast hx hb hK hP hD hS (fb_memM (k := 24) rfl) 0 rfl rfl (fb_in28 hu hv (fb_o01 (okS1 23 _))) (fb_up s5 24 (fb_n ((2 * ((14 * u) + v)) + (1 - (S1 23 (fb_n ((14 * u) + v)))))) (s5 24 (fb_n ((2 * ((14 * u) + v)) + (1 - (S1 23 (fb_n ((14 * u) + v)))))))) (pa_M24 _ _ _) (fb_hoM _ 24 _ _ owM_24) zd_M_choose_265 (fun H locs hP hD hS => ?_)
                obtain ⟨s9, es9⟩ : ∃ z, z = fb_up s5 24 (fb_n ((2 * ((14 * u) + v)) + (1 - (S1 23 (fb_n ((14 * u) + v)))))) (s5 24 (fb_n ((2 * ((14 * u) + v)) + (1 - (S1 23 (fb_n ((14 * u) + v))))))) := ⟨_, rfl⟩
                have oks9 : fb_okM fl fr T s9 := es9 ▸ (fb_okM_up oks5 trivial)
                rw [← es9] at hP hD
                refine lv_iinc (k := 12) (v := nI (a + 1)) (lv' := [(7, .int (nI (a + 1))), (12, .int (fb_b (mf_ready st fr u v 0))), (11, .int (1 - (S1 23 (fb_n ((14 * u) + v))))), (10, .int (mf_first S1 u v (S1 23 (fb_n ((14 * u) + v))) fr)), (9, .int (fb_b (mf_ready st fr u v 1))), (8, .int (S1 23 (fb_n ((14 * u) + v)))), (0, .ref (ad 0 0)), (1, .int u), (2, .int v), (3, .int ((14 * u) + v)), (4, .int (fb_b (mf_ready st fr u v 0))), (5, .int (fb_b (mf_ready st fr u v 1))), (6, .int x1)]) hx hb zd_M_choose_266 hl rfl (nI_succ _).symm (by decide) rfl (fun ls hl => ?_)
                refine lv_goto (tgt := 45) hx hb zd_M_choose_269 (by decide) ?_
                exact iha _ _ _ ⟨s9, x1, ⟨(by have hq9 := hIa.1; rw [hpb] at hq9; rw [← hq9]; subst es9 es5 es4; simp only [mf_go, mf_steps, mf_step, mf_last1, mf_can, if_neg h1, if_neg h2, if_neg h3b, if_pos h6, if_neg h8b]), (fun _ F j hF1 hF2 => (by subst es9 es5 es4; rw [fb_up_F _ _ _ _ hF2, fb_up_F _ _ _ _ hF1, fb_up_F _ _ _ _ hF2]; exact hIa.2 h1 F j hF1 hF2))⟩, oks9, (lv_sub hl [6, 7, 8, 9, 10, 11, 12, 0] rfl), hP, hD, hS⟩
              · skip
                have h8b := fb_b1 h8
                refine lv_aload_n hx hb zd_M_choose_232 rfl (lv_at hl 5 rfl) ?_
                refine pw_get (C := "PausedFabricModel") (T := zT_M) (N := 28) hx hb hT zin_M hown hK hP (fb_memM (k := 0) rfl) rfl rfl 24 (by decide) (hT _ zi_460) (fun _ h9 => h9) rfl zd_M_choose_233 ?_
                refine lv_iconst (v := 2) hx hb zd_M_choose_236 (by decide) ?_
                refine lv_iload_n hx hb zd_M_choose_237 rfl (lv_at hl 8 rfl) ?_
                refine lv_imul hx hb zd_M_choose_238 ?_
                refine lv_iload hx hb zd_M_choose_239 (lv_at hl 1 rfl) ?_
                refine lv_iadd hx hb zd_M_choose_241 ?_
                refine pw_iald (v := s5 24 (fb_n ((2 * ((14 * u) + v)) + (1 - (S1 23 (fb_n ((14 * u) + v))))))) hx hb hK hP (fb_memM (k := 24) rfl) 0 rfl rfl (fb_in28 hu hv (fb_o01 (okS1 23 _))) rfl zd_M_choose_242 ?_
                refine lv_aload_n hx hb zd_M_choose_243 rfl (lv_at hl 5 rfl) ?_
                refine pw_get (C := "PausedFabricModel") (T := zT_M) (N := 28) hx hb hT zin_M hown hK hP (fb_memM (k := 0) rfl) rfl rfl 25 (by decide) (hT _ zi_461) (fun _ h9 => h9) rfl zd_M_choose_244 ?_
                refine lv_iload hx hb zd_M_choose_247 (lv_at hl 1 rfl) ?_
                refine pw_iald (v := s5 25 (fb_n (1 - (S1 23 (fb_n ((14 * u) + v)))))) hx hb hK hP (fb_memM (k := 25) rfl) 0 rfl rfl (fb_v01 (fb_o01 (okS1 23 _))) rfl zd_M_choose_249 ?_
                refine lv_iadd hx hb zd_M_choose_250 ?_
                refine lv_goto (tgt := 265) hx hb zd_M_choose_251 (by decide) ?_
                refine pw_iast hx hb hK hP hD hS (fb_memM (k := 24) rfl) 0 rfl rfl (fb_in28 hu hv (fb_o01 (okS1 23 _))) (fb_up s5 24 (fb_n ((2 * ((14 * u) + v)) + (1 - (S1 23 (fb_n ((14 * u) + v)))))) ((s5 24 (fb_n ((2 * ((14 * u) + v)) + (1 - (S1 23 (fb_n ((14 * u) + v))))))) + (s5 25 (fb_n (1 - (S1 23 (fb_n ((14 * u) + v)))))))) (pa_M24 _ _ _) (fb_hoM _ 24 _ _ owM_24) zd_M_choose_265 (fun H locs hP hD hS => ?_)
                obtain ⟨s10, es10⟩ : ∃ z, z = fb_up s5 24 (fb_n ((2 * ((14 * u) + v)) + (1 - (S1 23 (fb_n ((14 * u) + v)))))) ((s5 24 (fb_n ((2 * ((14 * u) + v)) + (1 - (S1 23 (fb_n ((14 * u) + v))))))) + (s5 25 (fb_n (1 - (S1 23 (fb_n ((14 * u) + v))))))) := ⟨_, rfl⟩
                have oks10 : fb_okM fl fr T s10 := es10 ▸ (fb_okM_up oks5 trivial)
                rw [← es10] at hP hD
                refine lv_iinc (k := 12) (v := nI (a + 1)) (lv' := [(7, .int (nI (a + 1))), (12, .int (fb_b (mf_ready st fr u v 0))), (11, .int (1 - (S1 23 (fb_n ((14 * u) + v))))), (10, .int (mf_first S1 u v (S1 23 (fb_n ((14 * u) + v))) fr)), (9, .int (fb_b (mf_ready st fr u v 1))), (8, .int (S1 23 (fb_n ((14 * u) + v)))), (0, .ref (ad 0 0)), (1, .int u), (2, .int v), (3, .int ((14 * u) + v)), (4, .int (fb_b (mf_ready st fr u v 0))), (5, .int (fb_b (mf_ready st fr u v 1))), (6, .int x1)]) hx hb zd_M_choose_266 hl rfl (nI_succ _).symm (by decide) rfl (fun ls hl => ?_)
                refine lv_goto (tgt := 45) hx hb zd_M_choose_269 (by decide) ?_
                exact iha _ _ _ ⟨s10, x1, ⟨(by have hq9 := hIa.1; rw [hpb] at hq9; rw [← hq9]; subst es10 es5 es4; simp only [mf_go, mf_steps, mf_step, mf_last1, mf_can, if_neg h1, if_neg h2, if_neg h3b, if_pos h6, if_pos h8b]), (fun _ F j hF1 hF2 => (by subst es10 es5 es4; rw [fb_up_F _ _ _ _ hF2, fb_up_F _ _ _ _ hF1, fb_up_F _ _ _ _ hF2]; exact hIa.2 h1 F j hF1 hF2))⟩, oks10, (lv_sub hl [6, 7, 8, 9, 10, 11, 12, 0] rfl), hP, hD, hS⟩
          · skip
            have h3b := fb_b1 h3
            refine lv_aload_n hx hb zd_M_choose_94 rfl (lv_at hl 3 rfl) ?_
            refine pw_get (C := "PausedFabricModel") (T := zT_M) (N := 28) hx hb hT zin_M hown hK hP (fb_memM (k := 0) rfl) rfl rfl 17 (by decide) (hT _ zi_453) (fun _ h9 => h9) rfl zd_M_choose_95 ?_
            refine lv_iload hx hb zd_M_choose_98 (lv_at hl 0 rfl) ?_
            refine pw_iald (v := S1 17 (fb_n (mf_first S1 u v (S1 23 (fb_n ((14 * u) + v))) fr))) hx hb hK hP (fb_memM (k := 17) rfl) 0 rfl rfl (fb_vle (fb_chin1 (hIa.2 h1) (by omega) (fb_not0 (okS1 23 _) h2) h3b) hfr) rfl zd_M_choose_100 ?_
            refine lv_aload_n hx hb zd_M_choose_101 rfl (lv_at hl 3 rfl) ?_
            refine pw_get (C := "PausedFabricModel") (T := zT_M) (N := 28) hx hb hT zin_M hown hK hP (fb_memM (k := 0) rfl) rfl rfl 24 (by decide) (hT _ zi_460) (fun _ h9 => h9) rfl zd_M_choose_102 ?_
            refine lv_iconst (v := 2) hx hb zd_M_choose_105 (by decide) ?_
            refine lv_iload_n hx hb zd_M_choose_106 rfl (lv_at hl 6 rfl) ?_
            refine lv_imul hx hb zd_M_choose_107 ?_
            refine lv_iload hx hb zd_M_choose_108 (lv_at hl 2 rfl) ?_
            refine lv_iadd hx hb zd_M_choose_110 ?_
            refine pw_iald (v := S1 24 (fb_n ((2 * ((14 * u) + v)) + (S1 23 (fb_n ((14 * u) + v)))))) hx hb hK hP (fb_memM (k := 24) rfl) 0 rfl rfl (fb_in28 hu hv (okS1 23 _)) rfl zd_M_choose_111 ?_
            refine lv_icmp_gt (tgt := 158) hx hb zd_M_choose_112 (by decide) (fun h11 => ?_) (fun h11 => ?_)
            · skip
              refine lv_aload_n hx hb zd_M_choose_158 rfl (lv_at hl 3 rfl) ?_
              refine pw_get (C := "PausedFabricModel") (T := zT_M) (N := 28) hx hb hT zin_M hown hK hP (fb_memM (k := 0) rfl) rfl rfl 24 (by decide) (hT _ zi_460) (fun _ h9 => h9) rfl zd_M_choose_159 ?_
              refine lv_iconst (v := 2) hx hb zd_M_choose_162 (by decide) ?_
              refine lv_iload_n hx hb zd_M_choose_163 rfl (lv_at hl 6 rfl) ?_
              refine lv_imul hx hb zd_M_choose_164 ?_
              refine lv_iload hx hb zd_M_choose_165 (lv_at hl 2 rfl) ?_
              refine lv_iadd hx hb zd_M_choose_167 ?_
              refine lv_iload hx hb zd_M_choose_168 (lv_at hl 1 rfl) ?_
              refine lv_if_eq (tgt := 187) hx hb zd_M_choose_170 (by decide) (fun h9 => absurd h9 h3) (fun _ => ?_)
              refine lv_aload_n hx hb zd_M_choose_173 rfl (lv_at hl 3 rfl) ?_
              refine pw_get (C := "PausedFabricModel") (T := zT_M) (N := 28) hx hb hT zin_M hown hK hP (fb_memM (k := 0) rfl) rfl rfl 24 (by decide) (hT _ zi_460) (fun _ h9 => h9) rfl zd_M_choose_174 ?_
              refine lv_iconst (v := 2) hx hb zd_M_choose_177 (by decide) ?_
              refine lv_iload_n hx hb zd_M_choose_178 rfl (lv_at hl 6 rfl) ?_
              refine lv_imul hx hb zd_M_choose_179 ?_
              refine lv_iload hx hb zd_M_choose_180 (lv_at hl 2 rfl) ?_
              refine lv_iadd hx hb zd_M_choose_182 ?_
              refine pw_iald (v := S1 24 (fb_n ((2 * ((14 * u) + v)) + (S1 23 (fb_n ((14 * u) + v)))))) hx hb hK hP (fb_memM (k := 24) rfl) 0 rfl rfl (fb_in28 hu hv (okS1 23 _)) rfl zd_M_choose_183 ?_
              refine lv_goto (tgt := 188) hx hb zd_M_choose_184 (by decide) ?_
              refine pw_iast hx hb hK hP hD hS (fb_memM (k := 24) rfl) 0 rfl rfl (fb_in28 hu hv (okS1 23 _)) (fb_up S1 24 (fb_n ((2 * ((14 * u) + v)) + (S1 23 (fb_n ((14 * u) + v))))) (S1 24 (fb_n ((2 * ((14 * u) + v)) + (S1 23 (fb_n ((14 * u) + v))))))) (pa_M24 _ _ _) (fb_hoM _ 24 _ _ owM_24) zd_M_choose_188 (fun H locs hP hD hS => ?_)
              obtain ⟨s12, es12⟩ : ∃ z, z = fb_up S1 24 (fb_n ((2 * ((14 * u) + v)) + (S1 23 (fb_n ((14 * u) + v))))) (S1 24 (fb_n ((2 * ((14 * u) + v)) + (S1 23 (fb_n ((14 * u) + v)))))) := ⟨_, rfl⟩
              have oks12 : fb_okM fl fr T s12 := es12 ▸ (fb_okM_up okS1 trivial)
              rw [← es12] at hP hD
              refine lv_iconst (v := 1) hx hb zd_M_choose_189 (by decide) ?_
              refine lv_iload hx hb zd_M_choose_190 (lv_at hl 2 rfl) ?_
              refine lv_isub hx hb zd_M_choose_192 ?_
              refine lv_istore (lv' := [(11, .int (1 - (S1 23 (fb_n ((14 * u) + v))))), (10, .int (mf_first S1 u v (S1 23 (fb_n ((14 * u) + v))) fr)), (9, .int (fb_b (mf_ready st fr u v 1))), (8, .int (S1 23 (fb_n ((14 * u) + v)))), (0, .ref (ad 0 0)), (1, .int u), (2, .int v), (3, .int ((14 * u) + v)), (4, .int (fb_b (mf_ready st fr u v 0))), (5, .int (fb_b (mf_ready st fr u v 1))), (6, .int x1), (7, .int (nI a))]) hx hb zd_M_choose_193 hl (by decide) rfl (fun ls hl => ?_)
              refine lv_aload_n hx hb zd_M_choose_195 rfl (lv_at hl 4 rfl) ?_
              refine pw_get (C := "PausedFabricModel") (T := zT_M) (N := 28) hx hb hT zin_M hown hK hP (fb_memM (k := 0) rfl) rfl rfl 23 (by decide) (hT _ zi_459) (fun _ h9 => h9) rfl zd_M_choose_196 ?_
              refine lv_iload_n hx hb zd_M_choose_199 rfl (lv_at hl 7 rfl) ?_
              refine lv_iload hx hb zd_M_choose_200 (lv_at hl 0 rfl) ?_
              refine pw_iast hx hb hK hP hD hS (fb_memM (k := 23) rfl) 0 rfl rfl (fb_in14 hu hv) (fb_up s12 23 (fb_n ((14 * u) + v)) (1 - (S1 23 (fb_n ((14 * u) + v))))) (pa_M23 _ _ _) (fb_hoM _ 23 _ _ owM_23) zd_M_choose_202 (fun H locs hP hD hS => ?_)
              obtain ⟨s13, es13⟩ : ∃ z, z = fb_up s12 23 (fb_n ((14 * u) + v)) (1 - (S1 23 (fb_n ((14 * u) + v)))) := ⟨_, rfl⟩
              have oks13 : fb_okM fl fr T s13 := es13 ▸ (fb_okM_up oks12 (fb_o01 (okS1 23 _)))
              rw [← es13] at hP hD
              refine lv_iload hx hb zd_M_choose_203 (lv_at hl 0 rfl) ?_
              refine lv_if_ne (tgt := 213) hx hb zd_M_choose_205 (by decide) (fun h14 => ?_) (fun h14 => ?_)
              · skip
                refine lv_iload hx hb zd_M_choose_213 (lv_at hl 9 rfl) ?_
                refine lv_istore (lv' := [(12, .int (fb_b (mf_ready st fr u v 1))), (11, .int (1 - (S1 23 (fb_n ((14 * u) + v))))), (10, .int (mf_first S1 u v (S1 23 (fb_n ((14 * u) + v))) fr)), (9, .int (fb_b (mf_ready st fr u v 1))), (8, .int (S1 23 (fb_n ((14 * u) + v)))), (0, .ref (ad 0 0)), (1, .int u), (2, .int v), (3, .int ((14 * u) + v)), (4, .int (fb_b (mf_ready st fr u v 0))), (5, .int (fb_b (mf_ready st fr u v 1))), (6, .int x1), (7, .int (nI a))]) hx hb zd_M_choose_215 hl (by decide) rfl (fun ls hl => ?_)
                refine lv_aload_n hx hb zd_M_choose_217 rfl (lv_at hl 5 rfl) ?_
                refine pw_get (C := "PausedFabricModel") (T := zT_M) (N := 28) hx hb hT zin_M hown hK hP (fb_memM (k := 0) rfl) rfl rfl 24 (by decide) (hT _ zi_460) (fun _ h9 => h9) rfl zd_M_choose_218 ?_
                refine lv_iconst (v := 2) hx hb zd_M_choose_221 (by decide) ?_
                refine lv_iload_n hx hb zd_M_choose_222 rfl (lv_at hl 8 rfl) ?_
                refine lv_imul hx hb zd_M_choose_223 ?_
                refine lv_iload hx hb zd_M_choose_224 (lv_at hl 1 rfl) ?_
                refine lv_iadd hx hb zd_M_choose_226 ?_
                refine lv_iload hx hb zd_M_choose_227 (lv_at hl 0 rfl) ?_
                refine lv_if_eq (tgt := 254) hx hb zd_M_choose_229 (by decide) (fun h9 => absurd h9 h3) (fun _ => ?_)
                refine lv_aload_n hx hb zd_M_choose_232 rfl (lv_at hl 5 rfl) ?_
                refine pw_get (C := "PausedFabricModel") (T := zT_M) (N := 28) hx hb hT zin_M hown hK hP (fb_memM (k := 0) rfl) rfl rfl 24 (by decide) (hT _ zi_460) (fun _ h9 => h9) rfl zd_M_choose_233 ?_
                refine lv_iconst (v := 2) hx hb zd_M_choose_236 (by decide) ?_
                refine lv_iload_n hx hb zd_M_choose_237 rfl (lv_at hl 8 rfl) ?_
                refine lv_imul hx hb zd_M_choose_238 ?_
                refine lv_iload hx hb zd_M_choose_239 (lv_at hl 1 rfl) ?_
                refine lv_iadd hx hb zd_M_choose_241 ?_
                refine pw_iald (v := s13 24 (fb_n ((2 * ((14 * u) + v)) + (1 - (S1 23 (fb_n ((14 * u) + v))))))) hx hb hK hP (fb_memM (k := 24) rfl) 0 rfl rfl (fb_in28 hu hv (fb_o01 (okS1 23 _))) rfl zd_M_choose_242 ?_
                refine lv_aload_n hx hb zd_M_choose_243 rfl (lv_at hl 5 rfl) ?_
                refine pw_get (C := "PausedFabricModel") (T := zT_M) (N := 28) hx hb hT zin_M hown hK hP (fb_memM (k := 0) rfl) rfl rfl 25 (by decide) (hT _ zi_461) (fun _ h9 => h9) rfl zd_M_choose_244 ?_
                refine lv_iload hx hb zd_M_choose_247 (lv_at hl 1 rfl) ?_
                refine pw_iald (v := s13 25 (fb_n (1 - (S1 23 (fb_n ((14 * u) + v)))))) hx hb hK hP (fb_memM (k := 25) rfl) 0 rfl rfl (fb_v01 (fb_o01 (okS1 23 _))) rfl zd_M_choose_249 ?_
                refine lv_iadd hx hb zd_M_choose_250 ?_
                refine lv_goto (tgt := 265) hx hb zd_M_choose_251 (by decide) ?_
                refine pw_iast hx hb hK hP hD hS (fb_memM (k := 24) rfl) 0 rfl rfl (fb_in28 hu hv (fb_o01 (okS1 23 _))) (fb_up s13 24 (fb_n ((2 * ((14 * u) + v)) + (1 - (S1 23 (fb_n ((14 * u) + v)))))) ((s13 24 (fb_n ((2 * ((14 * u) + v)) + (1 - (S1 23 (fb_n ((14 * u) + v))))))) + (s13 25 (fb_n (1 - (S1 23 (fb_n ((14 * u) + v)))))))) (pa_M24 _ _ _) (fb_hoM _ 24 _ _ owM_24) zd_M_choose_265 (fun H locs hP hD hS => ?_)
                obtain ⟨s15, es15⟩ : ∃ z, z = fb_up s13 24 (fb_n ((2 * ((14 * u) + v)) + (1 - (S1 23 (fb_n ((14 * u) + v)))))) ((s13 24 (fb_n ((2 * ((14 * u) + v)) + (1 - (S1 23 (fb_n ((14 * u) + v))))))) + (s13 25 (fb_n (1 - (S1 23 (fb_n ((14 * u) + v))))))) := ⟨_, rfl⟩
                have oks15 : fb_okM fl fr T s15 := es15 ▸ (fb_okM_up oks13 trivial)
                rw [← es15] at hP hD
                refine lv_iinc (k := 12) (v := nI (a + 1)) (lv' := [(7, .int (nI (a + 1))), (12, .int (fb_b (mf_ready st fr u v 1))), (11, .int (1 - (S1 23 (fb_n ((14 * u) + v))))), (10, .int (mf_first S1 u v (S1 23 (fb_n ((14 * u) + v))) fr)), (9, .int (fb_b (mf_ready st fr u v 1))), (8, .int (S1 23 (fb_n ((14 * u) + v)))), (0, .ref (ad 0 0)), (1, .int u), (2, .int v), (3, .int ((14 * u) + v)), (4, .int (fb_b (mf_ready st fr u v 0))), (5, .int (fb_b (mf_ready st fr u v 1))), (6, .int x1)]) hx hb zd_M_choose_266 hl rfl (nI_succ _).symm (by decide) rfl (fun ls hl => ?_)
                refine lv_goto (tgt := 45) hx hb zd_M_choose_269 (by decide) ?_
                exact iha _ _ _ ⟨s15, x1, ⟨(by have hq9 := hIa.1; rw [hpb] at hq9; rw [← hq9]; subst es15 es13 es12; simp only [mf_go, mf_steps, mf_step, mf_last1, mf_can, if_neg h1, if_neg h2, if_pos h3b, if_pos h11, if_neg h14]), (fun _ F j hF1 hF2 => (by subst es15 es13 es12; rw [fb_up_F _ _ _ _ hF2, fb_up_F _ _ _ _ hF1, fb_up_F _ _ _ _ hF2]; exact hIa.2 h1 F j hF1 hF2))⟩, oks15, (lv_sub hl [6, 7, 8, 9, 10, 11, 12, 0] rfl), hP, hD, hS⟩
              · skip
                refine lv_iload hx hb zd_M_choose_208 (lv_at hl 8 rfl) ?_
                refine lv_goto (tgt := 215) hx hb zd_M_choose_210 (by decide) ?_
                refine lv_istore (lv' := [(12, .int (fb_b (mf_ready st fr u v 0))), (11, .int (1 - (S1 23 (fb_n ((14 * u) + v))))), (10, .int (mf_first S1 u v (S1 23 (fb_n ((14 * u) + v))) fr)), (9, .int (fb_b (mf_ready st fr u v 1))), (8, .int (S1 23 (fb_n ((14 * u) + v)))), (0, .ref (ad 0 0)), (1, .int u), (2, .int v), (3, .int ((14 * u) + v)), (4, .int (fb_b (mf_ready st fr u v 0))), (5, .int (fb_b (mf_ready st fr u v 1))), (6, .int x1), (7, .int (nI a))]) hx hb zd_M_choose_215 hl (by decide) rfl (fun ls hl => ?_)
                refine lv_aload_n hx hb zd_M_choose_217 rfl (lv_at hl 5 rfl) ?_
                refine pw_get (C := "PausedFabricModel") (T := zT_M) (N := 28) hx hb hT zin_M hown hK hP (fb_memM (k := 0) rfl) rfl rfl 24 (by decide) (hT _ zi_460) (fun _ h9 => h9) rfl zd_M_choose_218 ?_
                refine lv_iconst (v := 2) hx hb zd_M_choose_221 (by decide) ?_
                refine lv_iload_n hx hb zd_M_choose_222 rfl (lv_at hl 8 rfl) ?_
                refine lv_imul hx hb zd_M_choose_223 ?_
                refine lv_iload hx hb zd_M_choose_224 (lv_at hl 1 rfl) ?_
                refine lv_iadd hx hb zd_M_choose_226 ?_
                refine lv_iload hx hb zd_M_choose_227 (lv_at hl 0 rfl) ?_
                refine lv_if_eq (tgt := 254) hx hb zd_M_choose_229 (by decide) (fun h16 => ?_) (fun h16 => ?_)
                · skip
                  have h16b := fb_b0 h16
                  refine lv_aload_n hx hb zd_M_choose_254 rfl (lv_at hl 5 rfl) ?_
                  refine pw_get (C := "PausedFabricModel") (T := zT_M) (N := 28) hx hb hT zin_M hown hK hP (fb_memM (k := 0) rfl) rfl rfl 24 (by decide) (hT _ zi_460) (fun _ h9 => h9) rfl zd_M_choose_255 ?_
                  refine lv_iconst (v := 2) hx hb zd_M_choose_258 (by decide) ?_
                  refine lv_iload_n hx hb zd_M_choose_259 rfl (lv_at hl 8 rfl) ?_
                  refine lv_imul hx hb zd_M_choose_260 ?_
                  refine lv_iload hx hb zd_M_choose_261 (lv_at hl 1 rfl) ?_
                  refine lv_iadd hx hb zd_M_choose_263 ?_
                  refine pw_iald (v := s13 24 (fb_n ((2 * ((14 * u) + v)) + (1 - (S1 23 (fb_n ((14 * u) + v))))))) hx hb hK hP (fb_memM (k := 24) rfl) 0 rfl rfl (fb_in28 hu hv (fb_o01 (okS1 23 _))) rfl zd_M_choose_264 ?_
                  refine pw_iast hx hb hK hP hD hS (fb_memM (k := 24) rfl) 0 rfl rfl (fb_in28 hu hv (fb_o01 (okS1 23 _))) (fb_up s13 24 (fb_n ((2 * ((14 * u) + v)) + (1 - (S1 23 (fb_n ((14 * u) + v)))))) (s13 24 (fb_n ((2 * ((14 * u) + v)) + (1 - (S1 23 (fb_n ((14 * u) + v)))))))) (pa_M24 _ _ _) (fb_hoM _ 24 _ _ owM_24) zd_M_choose_265 (fun H locs hP hD hS => ?_)
                  obtain ⟨s17, es17⟩ : ∃ z, z = fb_up s13 24 (fb_n ((2 * ((14 * u) + v)) + (1 - (S1 23 (fb_n ((14 * u) + v)))))) (s13 24 (fb_n ((2 * ((14 * u) + v)) + (1 - (S1 23 (fb_n ((14 * u) + v))))))) := ⟨_, rfl⟩
                  have oks17 : fb_okM fl fr T s17 := es17 ▸ (fb_okM_up oks13 trivial)
                  rw [← es17] at hP hD
                  refine lv_iinc (k := 12) (v := nI (a + 1)) (lv' := [(7, .int (nI (a + 1))), (12, .int (fb_b (mf_ready st fr u v 0))), (11, .int (1 - (S1 23 (fb_n ((14 * u) + v))))), (10, .int (mf_first S1 u v (S1 23 (fb_n ((14 * u) + v))) fr)), (9, .int (fb_b (mf_ready st fr u v 1))), (8, .int (S1 23 (fb_n ((14 * u) + v)))), (0, .ref (ad 0 0)), (1, .int u), (2, .int v), (3, .int ((14 * u) + v)), (4, .int (fb_b (mf_ready st fr u v 0))), (5, .int (fb_b (mf_ready st fr u v 1))), (6, .int x1)]) hx hb zd_M_choose_266 hl rfl (nI_succ _).symm (by decide) rfl (fun ls hl => ?_)
                  refine lv_goto (tgt := 45) hx hb zd_M_choose_269 (by decide) ?_
                  exact iha _ _ _ ⟨s17, x1, ⟨(by have hq9 := hIa.1; rw [hpb] at hq9; rw [← hq9]; subst es17 es13 es12; simp only [mf_go, mf_steps, mf_step, mf_last1, mf_can, if_neg h1, if_neg h2, if_pos h3b, if_pos h11, if_pos h14, if_neg h16b]), (fun _ F j hF1 hF2 => (by subst es17 es13 es12; rw [fb_up_F _ _ _ _ hF2, fb_up_F _ _ _ _ hF1, fb_up_F _ _ _ _ hF2]; exact hIa.2 h1 F j hF1 hF2))⟩, oks17, (lv_sub hl [6, 7, 8, 9, 10, 11, 12, 0] rfl), hP, hD, hS⟩
                · skip
                  have h16b := fb_b1 h16
                  refine lv_aload_n hx hb zd_M_choose_232 rfl (lv_at hl 5 rfl) ?_
                  refine pw_get (C := "PausedFabricModel") (T := zT_M) (N := 28) hx hb hT zin_M hown hK hP (fb_memM (k := 0) rfl) rfl rfl 24 (by decide) (hT _ zi_460) (fun _ h9 => h9) rfl zd_M_choose_233 ?_
                  refine lv_iconst (v := 2) hx hb zd_M_choose_236 (by decide) ?_
                  refine lv_iload_n hx hb zd_M_choose_237 rfl (lv_at hl 8 rfl) ?_
                  refine lv_imul hx hb zd_M_choose_238 ?_
                  refine lv_iload hx hb zd_M_choose_239 (lv_at hl 1 rfl) ?_
                  refine lv_iadd hx hb zd_M_choose_241 ?_
                  refine pw_iald (v := s13 24 (fb_n ((2 * ((14 * u) + v)) + (1 - (S1 23 (fb_n ((14 * u) + v))))))) hx hb hK hP (fb_memM (k := 24) rfl) 0 rfl rfl (fb_in28 hu hv (fb_o01 (okS1 23 _))) rfl zd_M_choose_242 ?_
                  refine lv_aload_n hx hb zd_M_choose_243 rfl (lv_at hl 5 rfl) ?_
                  refine pw_get (C := "PausedFabricModel") (T := zT_M) (N := 28) hx hb hT zin_M hown hK hP (fb_memM (k := 0) rfl) rfl rfl 25 (by decide) (hT _ zi_461) (fun _ h9 => h9) rfl zd_M_choose_244 ?_
                  refine lv_iload hx hb zd_M_choose_247 (lv_at hl 1 rfl) ?_
                  refine pw_iald (v := s13 25 (fb_n (1 - (S1 23 (fb_n ((14 * u) + v)))))) hx hb hK hP (fb_memM (k := 25) rfl) 0 rfl rfl (fb_v01 (fb_o01 (okS1 23 _))) rfl zd_M_choose_249 ?_
                  refine lv_iadd hx hb zd_M_choose_250 ?_
                  refine lv_goto (tgt := 265) hx hb zd_M_choose_251 (by decide) ?_
                  refine pw_iast hx hb hK hP hD hS (fb_memM (k := 24) rfl) 0 rfl rfl (fb_in28 hu hv (fb_o01 (okS1 23 _))) (fb_up s13 24 (fb_n ((2 * ((14 * u) + v)) + (1 - (S1 23 (fb_n ((14 * u) + v)))))) ((s13 24 (fb_n ((2 * ((14 * u) + v)) + (1 - (S1 23 (fb_n ((14 * u) + v))))))) + (s13 25 (fb_n (1 - (S1 23 (fb_n ((14 * u) + v)))))))) (pa_M24 _ _ _) (fb_hoM _ 24 _ _ owM_24) zd_M_choose_265 (fun H locs hP hD hS => ?_)
                  obtain ⟨s18, es18⟩ : ∃ z, z = fb_up s13 24 (fb_n ((2 * ((14 * u) + v)) + (1 - (S1 23 (fb_n ((14 * u) + v)))))) ((s13 24 (fb_n ((2 * ((14 * u) + v)) + (1 - (S1 23 (fb_n ((14 * u) + v))))))) + (s13 25 (fb_n (1 - (S1 23 (fb_n ((14 * u) + v))))))) := ⟨_, rfl⟩
                  have oks18 : fb_okM fl fr T s18 := es18 ▸ (fb_okM_up oks13 trivial)
                  rw [← es18] at hP hD
                  refine lv_iinc (k := 12) (v := nI (a + 1)) (lv' := [(7, .int (nI (a + 1))), (12, .int (fb_b (mf_ready st fr u v 0))), (11, .int (1 - (S1 23 (fb_n ((14 * u) + v))))), (10, .int (mf_first S1 u v (S1 23 (fb_n ((14 * u) + v))) fr)), (9, .int (fb_b (mf_ready st fr u v 1))), (8, .int (S1 23 (fb_n ((14 * u) + v)))), (0, .ref (ad 0 0)), (1, .int u), (2, .int v), (3, .int ((14 * u) + v)), (4, .int (fb_b (mf_ready st fr u v 0))), (5, .int (fb_b (mf_ready st fr u v 1))), (6, .int x1)]) hx hb zd_M_choose_266 hl rfl (nI_succ _).symm (by decide) rfl (fun ls hl => ?_)
                  refine lv_goto (tgt := 45) hx hb zd_M_choose_269 (by decide) ?_
                  exact iha _ _ _ ⟨s18, x1, ⟨(by have hq9 := hIa.1; rw [hpb] at hq9; rw [← hq9]; subst es18 es13 es12; simp only [mf_go, mf_steps, mf_step, mf_last1, mf_can, if_neg h1, if_neg h2, if_pos h3b, if_pos h11, if_pos h14, if_pos h16b]), (fun _ F j hF1 hF2 => (by subst es18 es13 es12; rw [fb_up_F _ _ _ _ hF2, fb_up_F _ _ _ _ hF1, fb_up_F _ _ _ _ hF2]; exact hIa.2 h1 F j hF1 hF2))⟩, oks18, (lv_sub hl [6, 7, 8, 9, 10, 11, 12, 0] rfl), hP, hD, hS⟩
            · skip
              refine lv_aload_n hx hb zd_M_choose_115 rfl (lv_at hl 3 rfl) ?_
              refine lv_iload hx hb zd_M_choose_116 (lv_at hl 0 rfl) ?_
              refine lv_iload_n hx hb zd_M_choose_118 rfl (lv_at hl 4 rfl) ?_
              refine pw_Vv (bytes := zb_M_begin) (maxL := 4) (ret := none) (As := [.int (mf_first S1 u v (S1 23 (fb_n ((14 * u) + v))) fr), .int u]) (rest := []) ⟨hx, hb, hml, hown, hT⟩ (c_M_begin l D cA ad fl fr T S1 hflr okS1 (mf_first S1 u v (S1 23 (fb_n ((14 * u) + v))) fr) u (fb_chin1 (hIa.2 h1) (by omega) (fb_not0 (okS1 23 _) h2) h3b)) (cwV 2 hT (fb_gV zi_613 zi_615 zs_M_begin zi_5 zc_M_begin) rfl rfl rfl (by decide +kernel) ⟨Nat.le_of_ble_eq_true rfl, Nat.le_of_ble_eq_true rfl⟩) hK hP hD hS (fb_recv hK hP (fb_memM (k := 0) rfl) rfl rfl) rfl hl.1 rfl (lv_room (Nat.le_of_ble_eq_true rfl)) zd_M_choose_119 ⟨Nat.zero_le _, Nat.zero_le _⟩ (fun s19 H locs hp hP hD hS => ?_)
              obtain ⟨hs, hok9⟩ := hp
              have es19 : s19 = mf_begin (mf_first S1 u v (S1 23 (fb_n ((14 * u) + v))) fr) u S1 := hs
              have oks19 : fb_okM fl fr T s19 := hok9
              refine lv_aload_n hx hb zd_M_choose_122 rfl (lv_at hl 3 rfl) ?_
              refine pw_get (C := "PausedFabricModel") (T := zT_M) (N := 28) hx hb hT zin_M hown hK hP (fb_memM (k := 0) rfl) rfl rfl 24 (by decide) (hT _ zi_460) (fun _ h9 => h9) rfl zd_M_choose_123 ?_
              refine lv_iconst (v := 2) hx hb zd_M_choose_126 (by decide) ?_
              refine lv_iload_n hx hb zd_M_choose_127 rfl (lv_at hl 6 rfl) ?_
              refine lv_imul hx hb zd_M_choose_128 ?_
              refine lv_iload hx hb zd_M_choose_129 (lv_at hl 2 rfl) ?_
              refine lv_iadd hx hb zd_M_choose_131 ?_
              refine lv_aload_n hx hb zd_M_choose_132 rfl (lv_at hl 3 rfl) ?_
              refine pw_get (C := "PausedFabricModel") (T := zT_M) (N := 28) hx hb hT zin_M hown hK hP (fb_memM (k := 0) rfl) rfl rfl 24 (by decide) (hT _ zi_460) (fun _ h9 => h9) rfl zd_M_choose_133 ?_
              refine lv_iconst (v := 2) hx hb zd_M_choose_136 (by decide) ?_
              refine lv_iload_n hx hb zd_M_choose_137 rfl (lv_at hl 6 rfl) ?_
              refine lv_imul hx hb zd_M_choose_138 ?_
              refine lv_iload hx hb zd_M_choose_139 (lv_at hl 2 rfl) ?_
              refine lv_iadd hx hb zd_M_choose_141 ?_
              refine pw_iald (v := s19 24 (fb_n ((2 * ((14 * u) + v)) + (S1 23 (fb_n ((14 * u) + v)))))) hx hb hK hP (fb_memM (k := 24) rfl) 0 rfl rfl (fb_in28 hu hv (okS1 23 _)) rfl zd_M_choose_142 ?_
              refine lv_aload_n hx hb zd_M_choose_143 rfl (lv_at hl 3 rfl) ?_
              refine pw_get (C := "PausedFabricModel") (T := zT_M) (N := 28) hx hb hT zin_M hown hK hP (fb_memM (k := 0) rfl) rfl rfl 17 (by decide) (hT _ zi_453) (fun _ h9 => h9) rfl zd_M_choose_144 ?_
              refine lv_iload hx hb zd_M_choose_147 (lv_at hl 0 rfl) ?_
              refine pw_iald (v := s19 17 (fb_n (mf_first S1 u v (S1 23 (fb_n ((14 * u) + v))) fr))) hx hb hK hP (fb_memM (k := 17) rfl) 0 rfl rfl (fb_vle (fb_chin1 (hIa.2 h1) (by omega) (fb_not0 (okS1 23 _) h2) h3b) hfr) rfl zd_M_choose_149 ?_
              refine lv_isub hx hb zd_M_choose_150 ?_
              refine pw_iast hx hb hK hP hD hS (fb_memM (k := 24) rfl) 0 rfl rfl (fb_in28 hu hv (okS1 23 _)) (fb_up s19 24 (fb_n ((2 * ((14 * u) + v)) + (S1 23 (fb_n ((14 * u) + v))))) ((s19 24 (fb_n ((2 * ((14 * u) + v)) + (S1 23 (fb_n ((14 * u) + v)))))) - (s19 17 (fb_n (mf_first S1 u v (S1 23 (fb_n ((14 * u) + v))) fr))))) (pa_M24 _ _ _) (fb_hoM _ 24 _ _ owM_24) zd_M_choose_151 (fun H locs hP hD hS => ?_)
              obtain ⟨s20, es20⟩ : ∃ z, z = fb_up s19 24 (fb_n ((2 * ((14 * u) + v)) + (S1 23 (fb_n ((14 * u) + v))))) ((s19 24 (fb_n ((2 * ((14 * u) + v)) + (S1 23 (fb_n ((14 * u) + v)))))) - (s19 17 (fb_n (mf_first S1 u v (S1 23 (fb_n ((14 * u) + v))) fr)))) := ⟨_, rfl⟩
              have oks20 : fb_okM fl fr T s20 := es20 ▸ (fb_okM_up oks19 trivial)
              rw [← es20] at hP hD
              refine lv_iconst (v := 0) hx hb zd_M_choose_152 (by decide) ?_
              refine lv_istore (lv' := [(6, .int 0), (10, .int (mf_first S1 u v (S1 23 (fb_n ((14 * u) + v))) fr)), (9, .int (fb_b (mf_ready st fr u v 1))), (8, .int (S1 23 (fb_n ((14 * u) + v)))), (0, .ref (ad 0 0)), (1, .int u), (2, .int v), (3, .int ((14 * u) + v)), (4, .int (fb_b (mf_ready st fr u v 0))), (5, .int (fb_b (mf_ready st fr u v 1))), (7, .int (nI a))]) hx hb zd_M_choose_153 hl (by decide) rfl (fun ls hl => ?_)
              refine lv_goto (tgt := 266) hx hb zd_M_choose_155 (by decide) ?_
              refine lv_iinc (k := 10) (v := nI (a + 1)) (lv' := [(7, .int (nI (a + 1))), (6, .int 0), (10, .int (mf_first S1 u v (S1 23 (fb_n ((14 * u) + v))) fr)), (9, .int (fb_b (mf_ready st fr u v 1))), (8, .int (S1 23 (fb_n ((14 * u) + v)))), (0, .ref (ad 0 0)), (1, .int u), (2, .int v), (3, .int ((14 * u) + v)), (4, .int (fb_b (mf_ready st fr u v 0))), (5, .int (fb_b (mf_ready st fr u v 1)))]) hx hb zd_M_choose_266 hl rfl (nI_succ _).symm (by decide) rfl (fun ls hl => ?_)
              refine lv_goto (tgt := 45) hx hb zd_M_choose_269 (by decide) ?_
              exact iha _ _ _ ⟨s20, 0, ⟨(by have hq9 := hIa.1; rw [hpb] at hq9; rw [← hq9]; subst es20 es19; simp only [mf_go, mf_steps, mf_step, mf_last1, mf_can, if_neg h1, if_neg h2, if_pos h3b, if_neg h11, reduceIte]), (fun h9 => absurd rfl h9)⟩, oks20, (lv_sub hl [5, 6, 7, 8, 9, 10, 1, 0] rfl), hP, hD, hS⟩
        · skip
          refine lv_iload hx hb zd_M_choose_70 (lv_at hl 5 rfl) ?_
          refine lv_goto (tgt := 77) hx hb zd_M_choose_72 (by decide) ?_
          refine lv_istore (lv' := [(9, .int (fb_b (mf_ready st fr u v 0))), (8, .int (S1 23 (fb_n ((14 * u) + v)))), (0, .ref (ad 0 0)), (1, .int u), (2, .int v), (3, .int ((14 * u) + v)), (4, .int (fb_b (mf_ready st fr u v 0))), (5, .int (fb_b (mf_ready st fr u v 1))), (6, .int x1), (7, .int (nI a))]) hx hb zd_M_choose_77 hl (by decide) rfl (fun ls hl => ?_)
          refine lv_aload_n hx hb zd_M_choose_79 rfl (lv_at hl 2 rfl) ?_
          refine lv_iload_n hx hb zd_M_choose_80 rfl (lv_at hl 3 rfl) ?_
          refine lv_iload_n hx hb zd_M_choose_81 rfl (lv_at hl 4 rfl) ?_
          refine lv_iload hx hb zd_M_choose_82 (lv_at hl 1 rfl) ?_
          refine pw_Vi (bytes := zb_M_first) (maxL := 7) (ret := (some .int)) (As := [.int u, .int v, .int (S1 23 (fb_n ((14 * u) + v)))]) (rest := []) ⟨hx, hb, hml, hown, hT⟩ (c_M_first l D cA ad fl fr T S1 hflr okS1 u v (S1 23 (fb_n ((14 * u) + v)))) (cwV 3 hT (fb_gV zi_605 zi_607 zs_M_first zi_5 zc_M_first) rfl rfl rfl (by decide +kernel) ⟨Nat.le_of_ble_eq_true rfl, Nat.le_of_ble_eq_true rfl⟩) hK hP hD hS (fb_recv hK hP (fb_memM (k := 0) rfl) rfl rfl) rfl hl.1 rfl (lv_room (Nat.le_of_ble_eq_true rfl)) zd_M_choose_84 ⟨Nat.zero_le _, Nat.zero_le _⟩ (fun rx sx H locs hp hP hD hS => ?_)
          obtain ⟨hr9, hs, hok9⟩ := hp
          rw [hr9]
          rw [hs] at hP hD
          refine lv_istore (lv' := [(10, .int (mf_first S1 u v (S1 23 (fb_n ((14 * u) + v))) fr)), (9, .int (fb_b (mf_ready st fr u v 0))), (8, .int (S1 23 (fb_n ((14 * u) + v)))), (0, .ref (ad 0 0)), (1, .int u), (2, .int v), (3, .int ((14 * u) + v)), (4, .int (fb_b (mf_ready st fr u v 0))), (5, .int (fb_b (mf_ready st fr u v 1))), (6, .int x1), (7, .int (nI a))]) hx hb zd_M_choose_87 hl (by decide) rfl (fun ls hl => ?_)
          refine lv_iload hx hb zd_M_choose_89 (lv_at hl 1 rfl) ?_
          refine lv_if_eq (tgt := 158) hx hb zd_M_choose_91 (by decide) (fun h21 => ?_) (fun h21 => ?_)
          · skip
            have h21b := fb_b0 h21
            refine lv_aload_n hx hb zd_M_choose_158 rfl (lv_at hl 3 rfl) ?_
            refine pw_get (C := "PausedFabricModel") (T := zT_M) (N := 28) hx hb hT zin_M hown hK hP (fb_memM (k := 0) rfl) rfl rfl 24 (by decide) (hT _ zi_460) (fun _ h9 => h9) rfl zd_M_choose_159 ?_
            refine lv_iconst (v := 2) hx hb zd_M_choose_162 (by decide) ?_
            refine lv_iload_n hx hb zd_M_choose_163 rfl (lv_at hl 6 rfl) ?_
            refine lv_imul hx hb zd_M_choose_164 ?_
            refine lv_iload hx hb zd_M_choose_165 (lv_at hl 2 rfl) ?_
            refine lv_iadd hx hb zd_M_choose_167 ?_
            refine lv_iload hx hb zd_M_choose_168 (lv_at hl 1 rfl) ?_
            refine lv_if_eq (tgt := 187) hx hb zd_M_choose_170 (by decide) (fun _ => ?_) (fun h9 => absurd h21 h9)
            refine lv_iconst (v := 0) hx hb zd_M_choose_187 (by decide) ?_
            refine pw_iast hx hb hK hP hD hS (fb_memM (k := 24) rfl) 0 rfl rfl (fb_in28 hu hv (okS1 23 _)) (fb_up S1 24 (fb_n ((2 * ((14 * u) + v)) + (S1 23 (fb_n ((14 * u) + v))))) 0) (pa_M24 _ _ _) (fb_hoM _ 24 _ _ owM_24) zd_M_choose_188 (fun H locs hP hD hS => ?_)
            obtain ⟨s22, es22⟩ : ∃ z, z = fb_up S1 24 (fb_n ((2 * ((14 * u) + v)) + (S1 23 (fb_n ((14 * u) + v))))) 0 := ⟨_, rfl⟩
            have oks22 : fb_okM fl fr T s22 := es22 ▸ (fb_okM_up okS1 trivial)
            rw [← es22] at hP hD
            refine lv_iconst (v := 1) hx hb zd_M_choose_189 (by decide) ?_
            refine lv_iload hx hb zd_M_choose_190 (lv_at hl 2 rfl) ?_
            refine lv_isub hx hb zd_M_choose_192 ?_
            refine lv_istore (lv' := [(11, .int (1 - (S1 23 (fb_n ((14 * u) + v))))), (10, .int (mf_first S1 u v (S1 23 (fb_n ((14 * u) + v))) fr)), (9, .int (fb_b (mf_ready st fr u v 0))), (8, .int (S1 23 (fb_n ((14 * u) + v)))), (0, .ref (ad 0 0)), (1, .int u), (2, .int v), (3, .int ((14 * u) + v)), (4, .int (fb_b (mf_ready st fr u v 0))), (5, .int (fb_b (mf_ready st fr u v 1))), (6, .int x1), (7, .int (nI a))]) hx hb zd_M_choose_193 hl (by decide) rfl (fun ls hl => ?_)
            refine lv_aload_n hx hb zd_M_choose_195 rfl (lv_at hl 4 rfl) ?_
            refine pw_get (C := "PausedFabricModel") (T := zT_M) (N := 28) hx hb hT zin_M hown hK hP (fb_memM (k := 0) rfl) rfl rfl 23 (by decide) (hT _ zi_459) (fun _ h9 => h9) rfl zd_M_choose_196 ?_
            refine lv_iload_n hx hb zd_M_choose_199 rfl (lv_at hl 7 rfl) ?_
            refine lv_iload hx hb zd_M_choose_200 (lv_at hl 0 rfl) ?_
            refine pw_iast hx hb hK hP hD hS (fb_memM (k := 23) rfl) 0 rfl rfl (fb_in14 hu hv) (fb_up s22 23 (fb_n ((14 * u) + v)) (1 - (S1 23 (fb_n ((14 * u) + v))))) (pa_M23 _ _ _) (fb_hoM _ 23 _ _ owM_23) zd_M_choose_202 (fun H locs hP hD hS => ?_)
            obtain ⟨s23, es23⟩ : ∃ z, z = fb_up s22 23 (fb_n ((14 * u) + v)) (1 - (S1 23 (fb_n ((14 * u) + v)))) := ⟨_, rfl⟩
            have oks23 : fb_okM fl fr T s23 := es23 ▸ (fb_okM_up oks22 (fb_o01 (okS1 23 _)))
            rw [← es23] at hP hD
            refine lv_iload hx hb zd_M_choose_203 (lv_at hl 0 rfl) ?_
            refine lv_if_ne (tgt := 213) hx hb zd_M_choose_205 (by decide) (fun h24 => ?_) (fun h24 => ?_)
            · skip
              refine lv_iload hx hb zd_M_choose_213 (lv_at hl 9 rfl) ?_
              refine lv_istore (lv' := [(12, .int (fb_b (mf_ready st fr u v 1))), (11, .int (1 - (S1 23 (fb_n ((14 * u) + v))))), (10, .int (mf_first S1 u v (S1 23 (fb_n ((14 * u) + v))) fr)), (9, .int (fb_b (mf_ready st fr u v 0))), (8, .int (S1 23 (fb_n ((14 * u) + v)))), (0, .ref (ad 0 0)), (1, .int u), (2, .int v), (3, .int ((14 * u) + v)), (4, .int (fb_b (mf_ready st fr u v 0))), (5, .int (fb_b (mf_ready st fr u v 1))), (6, .int x1), (7, .int (nI a))]) hx hb zd_M_choose_215 hl (by decide) rfl (fun ls hl => ?_)
              refine lv_aload_n hx hb zd_M_choose_217 rfl (lv_at hl 5 rfl) ?_
              refine pw_get (C := "PausedFabricModel") (T := zT_M) (N := 28) hx hb hT zin_M hown hK hP (fb_memM (k := 0) rfl) rfl rfl 24 (by decide) (hT _ zi_460) (fun _ h9 => h9) rfl zd_M_choose_218 ?_
              refine lv_iconst (v := 2) hx hb zd_M_choose_221 (by decide) ?_
              refine lv_iload_n hx hb zd_M_choose_222 rfl (lv_at hl 8 rfl) ?_
              refine lv_imul hx hb zd_M_choose_223 ?_
              refine lv_iload hx hb zd_M_choose_224 (lv_at hl 1 rfl) ?_
              refine lv_iadd hx hb zd_M_choose_226 ?_
              refine lv_iload hx hb zd_M_choose_227 (lv_at hl 0 rfl) ?_
              refine lv_if_eq (tgt := 254) hx hb zd_M_choose_229 (by decide) (fun h25 => ?_) (fun h25 => ?_)
              · skip
                have h25b := fb_b0 h25
                refine lv_aload_n hx hb zd_M_choose_254 rfl (lv_at hl 5 rfl) ?_
                refine pw_get (C := "PausedFabricModel") (T := zT_M) (N := 28) hx hb hT zin_M hown hK hP (fb_memM (k := 0) rfl) rfl rfl 24 (by decide) (hT _ zi_460) (fun _ h9 => h9) rfl zd_M_choose_255 ?_
                refine lv_iconst (v := 2) hx hb zd_M_choose_258 (by decide) ?_
                refine lv_iload_n hx hb zd_M_choose_259 rfl (lv_at hl 8 rfl) ?_
                refine lv_imul hx hb zd_M_choose_260 ?_
                refine lv_iload hx hb zd_M_choose_261 (lv_at hl 1 rfl) ?_
                refine lv_iadd hx hb zd_M_choose_263 ?_
                refine pw_iald (v := s23 24 (fb_n ((2 * ((14 * u) + v)) + (1 - (S1 23 (fb_n ((14 * u) + v))))))) hx hb hK hP (fb_memM (k := 24) rfl) 0 rfl rfl (fb_in28 hu hv (fb_o01 (okS1 23 _))) rfl zd_M_choose_264 ?_
                refine pw_iast hx hb hK hP hD hS (fb_memM (k := 24) rfl) 0 rfl rfl (fb_in28 hu hv (fb_o01 (okS1 23 _))) (fb_up s23 24 (fb_n ((2 * ((14 * u) + v)) + (1 - (S1 23 (fb_n ((14 * u) + v)))))) (s23 24 (fb_n ((2 * ((14 * u) + v)) + (1 - (S1 23 (fb_n ((14 * u) + v)))))))) (pa_M24 _ _ _) (fb_hoM _ 24 _ _ owM_24) zd_M_choose_265 (fun H locs hP hD hS => ?_)
                obtain ⟨s26, es26⟩ : ∃ z, z = fb_up s23 24 (fb_n ((2 * ((14 * u) + v)) + (1 - (S1 23 (fb_n ((14 * u) + v)))))) (s23 24 (fb_n ((2 * ((14 * u) + v)) + (1 - (S1 23 (fb_n ((14 * u) + v))))))) := ⟨_, rfl⟩
                have oks26 : fb_okM fl fr T s26 := es26 ▸ (fb_okM_up oks23 trivial)
                rw [← es26] at hP hD
                refine lv_iinc (k := 12) (v := nI (a + 1)) (lv' := [(7, .int (nI (a + 1))), (12, .int (fb_b (mf_ready st fr u v 1))), (11, .int (1 - (S1 23 (fb_n ((14 * u) + v))))), (10, .int (mf_first S1 u v (S1 23 (fb_n ((14 * u) + v))) fr)), (9, .int (fb_b (mf_ready st fr u v 0))), (8, .int (S1 23 (fb_n ((14 * u) + v)))), (0, .ref (ad 0 0)), (1, .int u), (2, .int v), (3, .int ((14 * u) + v)), (4, .int (fb_b (mf_ready st fr u v 0))), (5, .int (fb_b (mf_ready st fr u v 1))), (6, .int x1)]) hx hb zd_M_choose_266 hl rfl (nI_succ _).symm (by decide) rfl (fun ls hl => ?_)
                refine lv_goto (tgt := 45) hx hb zd_M_choose_269 (by decide) ?_
                exact iha _ _ _ ⟨s26, x1, ⟨(by have hq9 := hIa.1; rw [hpb] at hq9; rw [← hq9]; subst es26 es23 es22; simp only [mf_go, mf_steps, mf_step, mf_last1, mf_can, if_neg h1, if_pos h2, if_neg h21b, if_neg h24, if_neg h25b]), (fun _ F j hF1 hF2 => (by subst es26 es23 es22; rw [fb_up_F _ _ _ _ hF2, fb_up_F _ _ _ _ hF1, fb_up_F _ _ _ _ hF2]; exact hIa.2 h1 F j hF1 hF2))⟩, oks26, (lv_sub hl [6, 7, 8, 9, 10, 11, 12, 0] rfl), hP, hD, hS⟩
              · skip
                have h25b := fb_b1 h25
                refine lv_aload_n hx hb zd_M_choose_232 rfl (lv_at hl 5 rfl) ?_
                refine pw_get (C := "PausedFabricModel") (T := zT_M) (N := 28) hx hb hT zin_M hown hK hP (fb_memM (k := 0) rfl) rfl rfl 24 (by decide) (hT _ zi_460) (fun _ h9 => h9) rfl zd_M_choose_233 ?_
                refine lv_iconst (v := 2) hx hb zd_M_choose_236 (by decide) ?_
                refine lv_iload_n hx hb zd_M_choose_237 rfl (lv_at hl 8 rfl) ?_
                refine lv_imul hx hb zd_M_choose_238 ?_
                refine lv_iload hx hb zd_M_choose_239 (lv_at hl 1 rfl) ?_
                refine lv_iadd hx hb zd_M_choose_241 ?_
                refine pw_iald (v := s23 24 (fb_n ((2 * ((14 * u) + v)) + (1 - (S1 23 (fb_n ((14 * u) + v))))))) hx hb hK hP (fb_memM (k := 24) rfl) 0 rfl rfl (fb_in28 hu hv (fb_o01 (okS1 23 _))) rfl zd_M_choose_242 ?_
                refine lv_aload_n hx hb zd_M_choose_243 rfl (lv_at hl 5 rfl) ?_
                refine pw_get (C := "PausedFabricModel") (T := zT_M) (N := 28) hx hb hT zin_M hown hK hP (fb_memM (k := 0) rfl) rfl rfl 25 (by decide) (hT _ zi_461) (fun _ h9 => h9) rfl zd_M_choose_244 ?_
                refine lv_iload hx hb zd_M_choose_247 (lv_at hl 1 rfl) ?_
                refine pw_iald (v := s23 25 (fb_n (1 - (S1 23 (fb_n ((14 * u) + v)))))) hx hb hK hP (fb_memM (k := 25) rfl) 0 rfl rfl (fb_v01 (fb_o01 (okS1 23 _))) rfl zd_M_choose_249 ?_
                refine lv_iadd hx hb zd_M_choose_250 ?_
                refine lv_goto (tgt := 265) hx hb zd_M_choose_251 (by decide) ?_
                refine pw_iast hx hb hK hP hD hS (fb_memM (k := 24) rfl) 0 rfl rfl (fb_in28 hu hv (fb_o01 (okS1 23 _))) (fb_up s23 24 (fb_n ((2 * ((14 * u) + v)) + (1 - (S1 23 (fb_n ((14 * u) + v)))))) ((s23 24 (fb_n ((2 * ((14 * u) + v)) + (1 - (S1 23 (fb_n ((14 * u) + v))))))) + (s23 25 (fb_n (1 - (S1 23 (fb_n ((14 * u) + v)))))))) (pa_M24 _ _ _) (fb_hoM _ 24 _ _ owM_24) zd_M_choose_265 (fun H locs hP hD hS => ?_)
                obtain ⟨s27, es27⟩ : ∃ z, z = fb_up s23 24 (fb_n ((2 * ((14 * u) + v)) + (1 - (S1 23 (fb_n ((14 * u) + v)))))) ((s23 24 (fb_n ((2 * ((14 * u) + v)) + (1 - (S1 23 (fb_n ((14 * u) + v))))))) + (s23 25 (fb_n (1 - (S1 23 (fb_n ((14 * u) + v))))))) := ⟨_, rfl⟩
                have oks27 : fb_okM fl fr T s27 := es27 ▸ (fb_okM_up oks23 trivial)
                rw [← es27] at hP hD
                refine lv_iinc (k := 12) (v := nI (a + 1)) (lv' := [(7, .int (nI (a + 1))), (12, .int (fb_b (mf_ready st fr u v 1))), (11, .int (1 - (S1 23 (fb_n ((14 * u) + v))))), (10, .int (mf_first S1 u v (S1 23 (fb_n ((14 * u) + v))) fr)), (9, .int (fb_b (mf_ready st fr u v 0))), (8, .int (S1 23 (fb_n ((14 * u) + v)))), (0, .ref (ad 0 0)), (1, .int u), (2, .int v), (3, .int ((14 * u) + v)), (4, .int (fb_b (mf_ready st fr u v 0))), (5, .int (fb_b (mf_ready st fr u v 1))), (6, .int x1)]) hx hb zd_M_choose_266 hl rfl (nI_succ _).symm (by decide) rfl (fun ls hl => ?_)
                refine lv_goto (tgt := 45) hx hb zd_M_choose_269 (by decide) ?_
                exact iha _ _ _ ⟨s27, x1, ⟨(by have hq9 := hIa.1; rw [hpb] at hq9; rw [← hq9]; subst es27 es23 es22; simp only [mf_go, mf_steps, mf_step, mf_last1, mf_can, if_neg h1, if_pos h2, if_neg h21b, if_neg h24, if_pos h25b]), (fun _ F j hF1 hF2 => (by subst es27 es23 es22; rw [fb_up_F _ _ _ _ hF2, fb_up_F _ _ _ _ hF1, fb_up_F _ _ _ _ hF2]; exact hIa.2 h1 F j hF1 hF2))⟩, oks27, (lv_sub hl [6, 7, 8, 9, 10, 11, 12, 0] rfl), hP, hD, hS⟩
            · skip
              refine lv_iload hx hb zd_M_choose_208 (lv_at hl 8 rfl) ?_
              refine lv_goto (tgt := 215) hx hb zd_M_choose_210 (by decide) ?_
              refine lv_istore (lv' := [(12, .int (fb_b (mf_ready st fr u v 0))), (11, .int (1 - (S1 23 (fb_n ((14 * u) + v))))), (10, .int (mf_first S1 u v (S1 23 (fb_n ((14 * u) + v))) fr)), (9, .int (fb_b (mf_ready st fr u v 0))), (8, .int (S1 23 (fb_n ((14 * u) + v)))), (0, .ref (ad 0 0)), (1, .int u), (2, .int v), (3, .int ((14 * u) + v)), (4, .int (fb_b (mf_ready st fr u v 0))), (5, .int (fb_b (mf_ready st fr u v 1))), (6, .int x1), (7, .int (nI a))]) hx hb zd_M_choose_215 hl (by decide) rfl (fun ls hl => ?_)
              refine lv_aload_n hx hb zd_M_choose_217 rfl (lv_at hl 5 rfl) ?_
              refine pw_get (C := "PausedFabricModel") (T := zT_M) (N := 28) hx hb hT zin_M hown hK hP (fb_memM (k := 0) rfl) rfl rfl 24 (by decide) (hT _ zi_460) (fun _ h9 => h9) rfl zd_M_choose_218 ?_
              refine lv_iconst (v := 2) hx hb zd_M_choose_221 (by decide) ?_
              refine lv_iload_n hx hb zd_M_choose_222 rfl (lv_at hl 8 rfl) ?_
              refine lv_imul hx hb zd_M_choose_223 ?_
              refine lv_iload hx hb zd_M_choose_224 (lv_at hl 1 rfl) ?_
              refine lv_iadd hx hb zd_M_choose_226 ?_
              refine lv_iload hx hb zd_M_choose_227 (lv_at hl 0 rfl) ?_
              refine lv_if_eq (tgt := 254) hx hb zd_M_choose_229 (by decide) (fun _ => ?_) (fun h9 => absurd h21 h9)
              refine lv_aload_n hx hb zd_M_choose_254 rfl (lv_at hl 5 rfl) ?_
              refine pw_get (C := "PausedFabricModel") (T := zT_M) (N := 28) hx hb hT zin_M hown hK hP (fb_memM (k := 0) rfl) rfl rfl 24 (by decide) (hT _ zi_460) (fun _ h9 => h9) rfl zd_M_choose_255 ?_
              refine lv_iconst (v := 2) hx hb zd_M_choose_258 (by decide) ?_
              refine lv_iload_n hx hb zd_M_choose_259 rfl (lv_at hl 8 rfl) ?_
              refine lv_imul hx hb zd_M_choose_260 ?_
              refine lv_iload hx hb zd_M_choose_261 (lv_at hl 1 rfl) ?_
              refine lv_iadd hx hb zd_M_choose_263 ?_
              refine pw_iald (v := s23 24 (fb_n ((2 * ((14 * u) + v)) + (1 - (S1 23 (fb_n ((14 * u) + v))))))) hx hb hK hP (fb_memM (k := 24) rfl) 0 rfl rfl (fb_in28 hu hv (fb_o01 (okS1 23 _))) rfl zd_M_choose_264 ?_
              refine pw_iast hx hb hK hP hD hS (fb_memM (k := 24) rfl) 0 rfl rfl (fb_in28 hu hv (fb_o01 (okS1 23 _))) (fb_up s23 24 (fb_n ((2 * ((14 * u) + v)) + (1 - (S1 23 (fb_n ((14 * u) + v)))))) (s23 24 (fb_n ((2 * ((14 * u) + v)) + (1 - (S1 23 (fb_n ((14 * u) + v)))))))) (pa_M24 _ _ _) (fb_hoM _ 24 _ _ owM_24) zd_M_choose_265 (fun H locs hP hD hS => ?_)
              obtain ⟨s28, es28⟩ : ∃ z, z = fb_up s23 24 (fb_n ((2 * ((14 * u) + v)) + (1 - (S1 23 (fb_n ((14 * u) + v)))))) (s23 24 (fb_n ((2 * ((14 * u) + v)) + (1 - (S1 23 (fb_n ((14 * u) + v))))))) := ⟨_, rfl⟩
              have oks28 : fb_okM fl fr T s28 := es28 ▸ (fb_okM_up oks23 trivial)
              rw [← es28] at hP hD
              refine lv_iinc (k := 12) (v := nI (a + 1)) (lv' := [(7, .int (nI (a + 1))), (12, .int (fb_b (mf_ready st fr u v 0))), (11, .int (1 - (S1 23 (fb_n ((14 * u) + v))))), (10, .int (mf_first S1 u v (S1 23 (fb_n ((14 * u) + v))) fr)), (9, .int (fb_b (mf_ready st fr u v 0))), (8, .int (S1 23 (fb_n ((14 * u) + v)))), (0, .ref (ad 0 0)), (1, .int u), (2, .int v), (3, .int ((14 * u) + v)), (4, .int (fb_b (mf_ready st fr u v 0))), (5, .int (fb_b (mf_ready st fr u v 1))), (6, .int x1)]) hx hb zd_M_choose_266 hl rfl (nI_succ _).symm (by decide) rfl (fun ls hl => ?_)
              refine lv_goto (tgt := 45) hx hb zd_M_choose_269 (by decide) ?_
              exact iha _ _ _ ⟨s28, x1, ⟨(by have hq9 := hIa.1; rw [hpb] at hq9; rw [← hq9]; subst es28 es23 es22; simp only [mf_go, mf_steps, mf_step, mf_last1, mf_can, if_neg h1, if_pos h2, if_neg h21b, if_pos h24]), (fun _ F j hF1 hF2 => (by subst es28 es23 es22; rw [fb_up_F _ _ _ _ hF2, fb_up_F _ _ _ _ hF1, fb_up_F _ _ _ _ hF2]; exact hIa.2 h1 F j hF1 hF2))⟩, oks28, (lv_sub hl [6, 7, 8, 9, 10, 11, 12, 0] rfl), hP, hD, hS⟩
          · skip
            have h21b := fb_b1 h21
            refine lv_aload_n hx hb zd_M_choose_94 rfl (lv_at hl 3 rfl) ?_
            refine pw_get (C := "PausedFabricModel") (T := zT_M) (N := 28) hx hb hT zin_M hown hK hP (fb_memM (k := 0) rfl) rfl rfl 17 (by decide) (hT _ zi_453) (fun _ h9 => h9) rfl zd_M_choose_95 ?_
            refine lv_iload hx hb zd_M_choose_98 (lv_at hl 0 rfl) ?_
            refine pw_iald (v := S1 17 (fb_n (mf_first S1 u v (S1 23 (fb_n ((14 * u) + v))) fr))) hx hb hK hP (fb_memM (k := 17) rfl) 0 rfl rfl (fb_vle (fb_chin0 (hIa.2 h1) (by omega) h2 h21b) hfr) rfl zd_M_choose_100 ?_
            refine lv_aload_n hx hb zd_M_choose_101 rfl (lv_at hl 3 rfl) ?_
            refine pw_get (C := "PausedFabricModel") (T := zT_M) (N := 28) hx hb hT zin_M hown hK hP (fb_memM (k := 0) rfl) rfl rfl 24 (by decide) (hT _ zi_460) (fun _ h9 => h9) rfl zd_M_choose_102 ?_
            refine lv_iconst (v := 2) hx hb zd_M_choose_105 (by decide) ?_
            refine lv_iload_n hx hb zd_M_choose_106 rfl (lv_at hl 6 rfl) ?_
            refine lv_imul hx hb zd_M_choose_107 ?_
            refine lv_iload hx hb zd_M_choose_108 (lv_at hl 2 rfl) ?_
            refine lv_iadd hx hb zd_M_choose_110 ?_
            refine pw_iald (v := S1 24 (fb_n ((2 * ((14 * u) + v)) + (S1 23 (fb_n ((14 * u) + v)))))) hx hb hK hP (fb_memM (k := 24) rfl) 0 rfl rfl (fb_in28 hu hv (okS1 23 _)) rfl zd_M_choose_111 ?_
            refine lv_icmp_gt (tgt := 158) hx hb zd_M_choose_112 (by decide) (fun h29 => ?_) (fun h29 => ?_)
            · skip
              refine lv_aload_n hx hb zd_M_choose_158 rfl (lv_at hl 3 rfl) ?_
              refine pw_get (C := "PausedFabricModel") (T := zT_M) (N := 28) hx hb hT zin_M hown hK hP (fb_memM (k := 0) rfl) rfl rfl 24 (by decide) (hT _ zi_460) (fun _ h9 => h9) rfl zd_M_choose_159 ?_
              refine lv_iconst (v := 2) hx hb zd_M_choose_162 (by decide) ?_
              refine lv_iload_n hx hb zd_M_choose_163 rfl (lv_at hl 6 rfl) ?_
              refine lv_imul hx hb zd_M_choose_164 ?_
              refine lv_iload hx hb zd_M_choose_165 (lv_at hl 2 rfl) ?_
              refine lv_iadd hx hb zd_M_choose_167 ?_
              refine lv_iload hx hb zd_M_choose_168 (lv_at hl 1 rfl) ?_
              refine lv_if_eq (tgt := 187) hx hb zd_M_choose_170 (by decide) (fun h9 => absurd h9 h21) (fun _ => ?_)
              refine lv_aload_n hx hb zd_M_choose_173 rfl (lv_at hl 3 rfl) ?_
              refine pw_get (C := "PausedFabricModel") (T := zT_M) (N := 28) hx hb hT zin_M hown hK hP (fb_memM (k := 0) rfl) rfl rfl 24 (by decide) (hT _ zi_460) (fun _ h9 => h9) rfl zd_M_choose_174 ?_
              refine lv_iconst (v := 2) hx hb zd_M_choose_177 (by decide) ?_
              refine lv_iload_n hx hb zd_M_choose_178 rfl (lv_at hl 6 rfl) ?_
              refine lv_imul hx hb zd_M_choose_179 ?_
              refine lv_iload hx hb zd_M_choose_180 (lv_at hl 2 rfl) ?_
              refine lv_iadd hx hb zd_M_choose_182 ?_
              refine pw_iald (v := S1 24 (fb_n ((2 * ((14 * u) + v)) + (S1 23 (fb_n ((14 * u) + v)))))) hx hb hK hP (fb_memM (k := 24) rfl) 0 rfl rfl (fb_in28 hu hv (okS1 23 _)) rfl zd_M_choose_183 ?_
              refine lv_goto (tgt := 188) hx hb zd_M_choose_184 (by decide) ?_
              refine pw_iast hx hb hK hP hD hS (fb_memM (k := 24) rfl) 0 rfl rfl (fb_in28 hu hv (okS1 23 _)) (fb_up S1 24 (fb_n ((2 * ((14 * u) + v)) + (S1 23 (fb_n ((14 * u) + v))))) (S1 24 (fb_n ((2 * ((14 * u) + v)) + (S1 23 (fb_n ((14 * u) + v))))))) (pa_M24 _ _ _) (fb_hoM _ 24 _ _ owM_24) zd_M_choose_188 (fun H locs hP hD hS => ?_)
              obtain ⟨s30, es30⟩ : ∃ z, z = fb_up S1 24 (fb_n ((2 * ((14 * u) + v)) + (S1 23 (fb_n ((14 * u) + v))))) (S1 24 (fb_n ((2 * ((14 * u) + v)) + (S1 23 (fb_n ((14 * u) + v)))))) := ⟨_, rfl⟩
              have oks30 : fb_okM fl fr T s30 := es30 ▸ (fb_okM_up okS1 trivial)
              rw [← es30] at hP hD
              refine lv_iconst (v := 1) hx hb zd_M_choose_189 (by decide) ?_
              refine lv_iload hx hb zd_M_choose_190 (lv_at hl 2 rfl) ?_
              refine lv_isub hx hb zd_M_choose_192 ?_
              refine lv_istore (lv' := [(11, .int (1 - (S1 23 (fb_n ((14 * u) + v))))), (10, .int (mf_first S1 u v (S1 23 (fb_n ((14 * u) + v))) fr)), (9, .int (fb_b (mf_ready st fr u v 0))), (8, .int (S1 23 (fb_n ((14 * u) + v)))), (0, .ref (ad 0 0)), (1, .int u), (2, .int v), (3, .int ((14 * u) + v)), (4, .int (fb_b (mf_ready st fr u v 0))), (5, .int (fb_b (mf_ready st fr u v 1))), (6, .int x1), (7, .int (nI a))]) hx hb zd_M_choose_193 hl (by decide) rfl (fun ls hl => ?_)
              refine lv_aload_n hx hb zd_M_choose_195 rfl (lv_at hl 4 rfl) ?_
              refine pw_get (C := "PausedFabricModel") (T := zT_M) (N := 28) hx hb hT zin_M hown hK hP (fb_memM (k := 0) rfl) rfl rfl 23 (by decide) (hT _ zi_459) (fun _ h9 => h9) rfl zd_M_choose_196 ?_
              refine lv_iload_n hx hb zd_M_choose_199 rfl (lv_at hl 7 rfl) ?_
              refine lv_iload hx hb zd_M_choose_200 (lv_at hl 0 rfl) ?_
              refine pw_iast hx hb hK hP hD hS (fb_memM (k := 23) rfl) 0 rfl rfl (fb_in14 hu hv) (fb_up s30 23 (fb_n ((14 * u) + v)) (1 - (S1 23 (fb_n ((14 * u) + v))))) (pa_M23 _ _ _) (fb_hoM _ 23 _ _ owM_23) zd_M_choose_202 (fun H locs hP hD hS => ?_)
              obtain ⟨s31, es31⟩ : ∃ z, z = fb_up s30 23 (fb_n ((14 * u) + v)) (1 - (S1 23 (fb_n ((14 * u) + v)))) := ⟨_, rfl⟩
              have oks31 : fb_okM fl fr T s31 := es31 ▸ (fb_okM_up oks30 (fb_o01 (okS1 23 _)))
              rw [← es31] at hP hD
              refine lv_iload hx hb zd_M_choose_203 (lv_at hl 0 rfl) ?_
              refine lv_if_ne (tgt := 213) hx hb zd_M_choose_205 (by decide) (fun h32 => ?_) (fun h32 => ?_)
              · skip
                refine lv_iload hx hb zd_M_choose_213 (lv_at hl 9 rfl) ?_
                refine lv_istore (lv' := [(12, .int (fb_b (mf_ready st fr u v 1))), (11, .int (1 - (S1 23 (fb_n ((14 * u) + v))))), (10, .int (mf_first S1 u v (S1 23 (fb_n ((14 * u) + v))) fr)), (9, .int (fb_b (mf_ready st fr u v 0))), (8, .int (S1 23 (fb_n ((14 * u) + v)))), (0, .ref (ad 0 0)), (1, .int u), (2, .int v), (3, .int ((14 * u) + v)), (4, .int (fb_b (mf_ready st fr u v 0))), (5, .int (fb_b (mf_ready st fr u v 1))), (6, .int x1), (7, .int (nI a))]) hx hb zd_M_choose_215 hl (by decide) rfl (fun ls hl => ?_)
                refine lv_aload_n hx hb zd_M_choose_217 rfl (lv_at hl 5 rfl) ?_
                refine pw_get (C := "PausedFabricModel") (T := zT_M) (N := 28) hx hb hT zin_M hown hK hP (fb_memM (k := 0) rfl) rfl rfl 24 (by decide) (hT _ zi_460) (fun _ h9 => h9) rfl zd_M_choose_218 ?_
                refine lv_iconst (v := 2) hx hb zd_M_choose_221 (by decide) ?_
                refine lv_iload_n hx hb zd_M_choose_222 rfl (lv_at hl 8 rfl) ?_
                refine lv_imul hx hb zd_M_choose_223 ?_
                refine lv_iload hx hb zd_M_choose_224 (lv_at hl 1 rfl) ?_
                refine lv_iadd hx hb zd_M_choose_226 ?_
                refine lv_iload hx hb zd_M_choose_227 (lv_at hl 0 rfl) ?_
                refine lv_if_eq (tgt := 254) hx hb zd_M_choose_229 (by decide) (fun h33 => ?_) (fun h33 => ?_)
                · skip
                  have h33b := fb_b0 h33
                  refine lv_aload_n hx hb zd_M_choose_254 rfl (lv_at hl 5 rfl) ?_
                  refine pw_get (C := "PausedFabricModel") (T := zT_M) (N := 28) hx hb hT zin_M hown hK hP (fb_memM (k := 0) rfl) rfl rfl 24 (by decide) (hT _ zi_460) (fun _ h9 => h9) rfl zd_M_choose_255 ?_
                  refine lv_iconst (v := 2) hx hb zd_M_choose_258 (by decide) ?_
                  refine lv_iload_n hx hb zd_M_choose_259 rfl (lv_at hl 8 rfl) ?_
                  refine lv_imul hx hb zd_M_choose_260 ?_
                  refine lv_iload hx hb zd_M_choose_261 (lv_at hl 1 rfl) ?_
                  refine lv_iadd hx hb zd_M_choose_263 ?_
                  refine pw_iald (v := s31 24 (fb_n ((2 * ((14 * u) + v)) + (1 - (S1 23 (fb_n ((14 * u) + v))))))) hx hb hK hP (fb_memM (k := 24) rfl) 0 rfl rfl (fb_in28 hu hv (fb_o01 (okS1 23 _))) rfl zd_M_choose_264 ?_
                  refine pw_iast hx hb hK hP hD hS (fb_memM (k := 24) rfl) 0 rfl rfl (fb_in28 hu hv (fb_o01 (okS1 23 _))) (fb_up s31 24 (fb_n ((2 * ((14 * u) + v)) + (1 - (S1 23 (fb_n ((14 * u) + v)))))) (s31 24 (fb_n ((2 * ((14 * u) + v)) + (1 - (S1 23 (fb_n ((14 * u) + v)))))))) (pa_M24 _ _ _) (fb_hoM _ 24 _ _ owM_24) zd_M_choose_265 (fun H locs hP hD hS => ?_)
                  obtain ⟨s34, es34⟩ : ∃ z, z = fb_up s31 24 (fb_n ((2 * ((14 * u) + v)) + (1 - (S1 23 (fb_n ((14 * u) + v)))))) (s31 24 (fb_n ((2 * ((14 * u) + v)) + (1 - (S1 23 (fb_n ((14 * u) + v))))))) := ⟨_, rfl⟩
                  have oks34 : fb_okM fl fr T s34 := es34 ▸ (fb_okM_up oks31 trivial)
                  rw [← es34] at hP hD
                  refine lv_iinc (k := 12) (v := nI (a + 1)) (lv' := [(7, .int (nI (a + 1))), (12, .int (fb_b (mf_ready st fr u v 1))), (11, .int (1 - (S1 23 (fb_n ((14 * u) + v))))), (10, .int (mf_first S1 u v (S1 23 (fb_n ((14 * u) + v))) fr)), (9, .int (fb_b (mf_ready st fr u v 0))), (8, .int (S1 23 (fb_n ((14 * u) + v)))), (0, .ref (ad 0 0)), (1, .int u), (2, .int v), (3, .int ((14 * u) + v)), (4, .int (fb_b (mf_ready st fr u v 0))), (5, .int (fb_b (mf_ready st fr u v 1))), (6, .int x1)]) hx hb zd_M_choose_266 hl rfl (nI_succ _).symm (by decide) rfl (fun ls hl => ?_)
                  refine lv_goto (tgt := 45) hx hb zd_M_choose_269 (by decide) ?_
                  exact iha _ _ _ ⟨s34, x1, ⟨(by have hq9 := hIa.1; rw [hpb] at hq9; rw [← hq9]; subst es34 es31 es30; simp only [mf_go, mf_steps, mf_step, mf_last1, mf_can, if_neg h1, if_pos h2, if_pos h21b, if_pos h29, if_neg h32, if_neg h33b]), (fun _ F j hF1 hF2 => (by subst es34 es31 es30; rw [fb_up_F _ _ _ _ hF2, fb_up_F _ _ _ _ hF1, fb_up_F _ _ _ _ hF2]; exact hIa.2 h1 F j hF1 hF2))⟩, oks34, (lv_sub hl [6, 7, 8, 9, 10, 11, 12, 0] rfl), hP, hD, hS⟩
                · skip
                  have h33b := fb_b1 h33
                  refine lv_aload_n hx hb zd_M_choose_232 rfl (lv_at hl 5 rfl) ?_
                  refine pw_get (C := "PausedFabricModel") (T := zT_M) (N := 28) hx hb hT zin_M hown hK hP (fb_memM (k := 0) rfl) rfl rfl 24 (by decide) (hT _ zi_460) (fun _ h9 => h9) rfl zd_M_choose_233 ?_
                  refine lv_iconst (v := 2) hx hb zd_M_choose_236 (by decide) ?_
                  refine lv_iload_n hx hb zd_M_choose_237 rfl (lv_at hl 8 rfl) ?_
                  refine lv_imul hx hb zd_M_choose_238 ?_
                  refine lv_iload hx hb zd_M_choose_239 (lv_at hl 1 rfl) ?_
                  refine lv_iadd hx hb zd_M_choose_241 ?_
                  refine pw_iald (v := s31 24 (fb_n ((2 * ((14 * u) + v)) + (1 - (S1 23 (fb_n ((14 * u) + v))))))) hx hb hK hP (fb_memM (k := 24) rfl) 0 rfl rfl (fb_in28 hu hv (fb_o01 (okS1 23 _))) rfl zd_M_choose_242 ?_
                  refine lv_aload_n hx hb zd_M_choose_243 rfl (lv_at hl 5 rfl) ?_
                  refine pw_get (C := "PausedFabricModel") (T := zT_M) (N := 28) hx hb hT zin_M hown hK hP (fb_memM (k := 0) rfl) rfl rfl 25 (by decide) (hT _ zi_461) (fun _ h9 => h9) rfl zd_M_choose_244 ?_
                  refine lv_iload hx hb zd_M_choose_247 (lv_at hl 1 rfl) ?_
                  refine pw_iald (v := s31 25 (fb_n (1 - (S1 23 (fb_n ((14 * u) + v)))))) hx hb hK hP (fb_memM (k := 25) rfl) 0 rfl rfl (fb_v01 (fb_o01 (okS1 23 _))) rfl zd_M_choose_249 ?_
                  refine lv_iadd hx hb zd_M_choose_250 ?_
                  refine lv_goto (tgt := 265) hx hb zd_M_choose_251 (by decide) ?_
                  refine pw_iast hx hb hK hP hD hS (fb_memM (k := 24) rfl) 0 rfl rfl (fb_in28 hu hv (fb_o01 (okS1 23 _))) (fb_up s31 24 (fb_n ((2 * ((14 * u) + v)) + (1 - (S1 23 (fb_n ((14 * u) + v)))))) ((s31 24 (fb_n ((2 * ((14 * u) + v)) + (1 - (S1 23 (fb_n ((14 * u) + v))))))) + (s31 25 (fb_n (1 - (S1 23 (fb_n ((14 * u) + v)))))))) (pa_M24 _ _ _) (fb_hoM _ 24 _ _ owM_24) zd_M_choose_265 (fun H locs hP hD hS => ?_)
                  obtain ⟨s35, es35⟩ : ∃ z, z = fb_up s31 24 (fb_n ((2 * ((14 * u) + v)) + (1 - (S1 23 (fb_n ((14 * u) + v)))))) ((s31 24 (fb_n ((2 * ((14 * u) + v)) + (1 - (S1 23 (fb_n ((14 * u) + v))))))) + (s31 25 (fb_n (1 - (S1 23 (fb_n ((14 * u) + v))))))) := ⟨_, rfl⟩
                  have oks35 : fb_okM fl fr T s35 := es35 ▸ (fb_okM_up oks31 trivial)
                  rw [← es35] at hP hD
                  refine lv_iinc (k := 12) (v := nI (a + 1)) (lv' := [(7, .int (nI (a + 1))), (12, .int (fb_b (mf_ready st fr u v 1))), (11, .int (1 - (S1 23 (fb_n ((14 * u) + v))))), (10, .int (mf_first S1 u v (S1 23 (fb_n ((14 * u) + v))) fr)), (9, .int (fb_b (mf_ready st fr u v 0))), (8, .int (S1 23 (fb_n ((14 * u) + v)))), (0, .ref (ad 0 0)), (1, .int u), (2, .int v), (3, .int ((14 * u) + v)), (4, .int (fb_b (mf_ready st fr u v 0))), (5, .int (fb_b (mf_ready st fr u v 1))), (6, .int x1)]) hx hb zd_M_choose_266 hl rfl (nI_succ _).symm (by decide) rfl (fun ls hl => ?_)
                  refine lv_goto (tgt := 45) hx hb zd_M_choose_269 (by decide) ?_
                  exact iha _ _ _ ⟨s35, x1, ⟨(by have hq9 := hIa.1; rw [hpb] at hq9; rw [← hq9]; subst es35 es31 es30; simp only [mf_go, mf_steps, mf_step, mf_last1, mf_can, if_neg h1, if_pos h2, if_pos h21b, if_pos h29, if_neg h32, if_pos h33b]), (fun _ F j hF1 hF2 => (by subst es35 es31 es30; rw [fb_up_F _ _ _ _ hF2, fb_up_F _ _ _ _ hF1, fb_up_F _ _ _ _ hF2]; exact hIa.2 h1 F j hF1 hF2))⟩, oks35, (lv_sub hl [6, 7, 8, 9, 10, 11, 12, 0] rfl), hP, hD, hS⟩
              · skip
                refine lv_iload hx hb zd_M_choose_208 (lv_at hl 8 rfl) ?_
                refine lv_goto (tgt := 215) hx hb zd_M_choose_210 (by decide) ?_
                refine lv_istore (lv' := [(12, .int (fb_b (mf_ready st fr u v 0))), (11, .int (1 - (S1 23 (fb_n ((14 * u) + v))))), (10, .int (mf_first S1 u v (S1 23 (fb_n ((14 * u) + v))) fr)), (9, .int (fb_b (mf_ready st fr u v 0))), (8, .int (S1 23 (fb_n ((14 * u) + v)))), (0, .ref (ad 0 0)), (1, .int u), (2, .int v), (3, .int ((14 * u) + v)), (4, .int (fb_b (mf_ready st fr u v 0))), (5, .int (fb_b (mf_ready st fr u v 1))), (6, .int x1), (7, .int (nI a))]) hx hb zd_M_choose_215 hl (by decide) rfl (fun ls hl => ?_)
                refine lv_aload_n hx hb zd_M_choose_217 rfl (lv_at hl 5 rfl) ?_
                refine pw_get (C := "PausedFabricModel") (T := zT_M) (N := 28) hx hb hT zin_M hown hK hP (fb_memM (k := 0) rfl) rfl rfl 24 (by decide) (hT _ zi_460) (fun _ h9 => h9) rfl zd_M_choose_218 ?_
                refine lv_iconst (v := 2) hx hb zd_M_choose_221 (by decide) ?_
                refine lv_iload_n hx hb zd_M_choose_222 rfl (lv_at hl 8 rfl) ?_
                refine lv_imul hx hb zd_M_choose_223 ?_
                refine lv_iload hx hb zd_M_choose_224 (lv_at hl 1 rfl) ?_
                refine lv_iadd hx hb zd_M_choose_226 ?_
                refine lv_iload hx hb zd_M_choose_227 (lv_at hl 0 rfl) ?_
                refine lv_if_eq (tgt := 254) hx hb zd_M_choose_229 (by decide) (fun h9 => absurd h9 h21) (fun _ => ?_)
                refine lv_aload_n hx hb zd_M_choose_232 rfl (lv_at hl 5 rfl) ?_
                refine pw_get (C := "PausedFabricModel") (T := zT_M) (N := 28) hx hb hT zin_M hown hK hP (fb_memM (k := 0) rfl) rfl rfl 24 (by decide) (hT _ zi_460) (fun _ h9 => h9) rfl zd_M_choose_233 ?_
                refine lv_iconst (v := 2) hx hb zd_M_choose_236 (by decide) ?_
                refine lv_iload_n hx hb zd_M_choose_237 rfl (lv_at hl 8 rfl) ?_
                refine lv_imul hx hb zd_M_choose_238 ?_
                refine lv_iload hx hb zd_M_choose_239 (lv_at hl 1 rfl) ?_
                refine lv_iadd hx hb zd_M_choose_241 ?_
                refine pw_iald (v := s31 24 (fb_n ((2 * ((14 * u) + v)) + (1 - (S1 23 (fb_n ((14 * u) + v))))))) hx hb hK hP (fb_memM (k := 24) rfl) 0 rfl rfl (fb_in28 hu hv (fb_o01 (okS1 23 _))) rfl zd_M_choose_242 ?_
                refine lv_aload_n hx hb zd_M_choose_243 rfl (lv_at hl 5 rfl) ?_
                refine pw_get (C := "PausedFabricModel") (T := zT_M) (N := 28) hx hb hT zin_M hown hK hP (fb_memM (k := 0) rfl) rfl rfl 25 (by decide) (hT _ zi_461) (fun _ h9 => h9) rfl zd_M_choose_244 ?_
                refine lv_iload hx hb zd_M_choose_247 (lv_at hl 1 rfl) ?_
                refine pw_iald (v := s31 25 (fb_n (1 - (S1 23 (fb_n ((14 * u) + v)))))) hx hb hK hP (fb_memM (k := 25) rfl) 0 rfl rfl (fb_v01 (fb_o01 (okS1 23 _))) rfl zd_M_choose_249 ?_
                refine lv_iadd hx hb zd_M_choose_250 ?_
                refine lv_goto (tgt := 265) hx hb zd_M_choose_251 (by decide) ?_
                refine pw_iast hx hb hK hP hD hS (fb_memM (k := 24) rfl) 0 rfl rfl (fb_in28 hu hv (fb_o01 (okS1 23 _))) (fb_up s31 24 (fb_n ((2 * ((14 * u) + v)) + (1 - (S1 23 (fb_n ((14 * u) + v)))))) ((s31 24 (fb_n ((2 * ((14 * u) + v)) + (1 - (S1 23 (fb_n ((14 * u) + v))))))) + (s31 25 (fb_n (1 - (S1 23 (fb_n ((14 * u) + v)))))))) (pa_M24 _ _ _) (fb_hoM _ 24 _ _ owM_24) zd_M_choose_265 (fun H locs hP hD hS => ?_)
                obtain ⟨s36, es36⟩ : ∃ z, z = fb_up s31 24 (fb_n ((2 * ((14 * u) + v)) + (1 - (S1 23 (fb_n ((14 * u) + v)))))) ((s31 24 (fb_n ((2 * ((14 * u) + v)) + (1 - (S1 23 (fb_n ((14 * u) + v))))))) + (s31 25 (fb_n (1 - (S1 23 (fb_n ((14 * u) + v))))))) := ⟨_, rfl⟩
                have oks36 : fb_okM fl fr T s36 := es36 ▸ (fb_okM_up oks31 trivial)
                rw [← es36] at hP hD
                refine lv_iinc (k := 12) (v := nI (a + 1)) (lv' := [(7, .int (nI (a + 1))), (12, .int (fb_b (mf_ready st fr u v 0))), (11, .int (1 - (S1 23 (fb_n ((14 * u) + v))))), (10, .int (mf_first S1 u v (S1 23 (fb_n ((14 * u) + v))) fr)), (9, .int (fb_b (mf_ready st fr u v 0))), (8, .int (S1 23 (fb_n ((14 * u) + v)))), (0, .ref (ad 0 0)), (1, .int u), (2, .int v), (3, .int ((14 * u) + v)), (4, .int (fb_b (mf_ready st fr u v 0))), (5, .int (fb_b (mf_ready st fr u v 1))), (6, .int x1)]) hx hb zd_M_choose_266 hl rfl (nI_succ _).symm (by decide) rfl (fun ls hl => ?_)
                refine lv_goto (tgt := 45) hx hb zd_M_choose_269 (by decide) ?_
                exact iha _ _ _ ⟨s36, x1, ⟨(by have hq9 := hIa.1; rw [hpb] at hq9; rw [← hq9]; subst es36 es31 es30; simp only [mf_go, mf_steps, mf_step, mf_last1, mf_can, if_neg h1, if_pos h2, if_pos h21b, if_pos h29, if_pos h32]), (fun _ F j hF1 hF2 => (by subst es36 es31 es30; rw [fb_up_F _ _ _ _ hF2, fb_up_F _ _ _ _ hF1, fb_up_F _ _ _ _ hF2]; exact hIa.2 h1 F j hF1 hF2))⟩, oks36, (lv_sub hl [6, 7, 8, 9, 10, 11, 12, 0] rfl), hP, hD, hS⟩
            · skip
              refine lv_aload_n hx hb zd_M_choose_115 rfl (lv_at hl 3 rfl) ?_
              refine lv_iload hx hb zd_M_choose_116 (lv_at hl 0 rfl) ?_
              refine lv_iload_n hx hb zd_M_choose_118 rfl (lv_at hl 4 rfl) ?_
              refine pw_Vv (bytes := zb_M_begin) (maxL := 4) (ret := none) (As := [.int (mf_first S1 u v (S1 23 (fb_n ((14 * u) + v))) fr), .int u]) (rest := []) ⟨hx, hb, hml, hown, hT⟩ (c_M_begin l D cA ad fl fr T S1 hflr okS1 (mf_first S1 u v (S1 23 (fb_n ((14 * u) + v))) fr) u (fb_chin0 (hIa.2 h1) (by omega) h2 h21b)) (cwV 2 hT (fb_gV zi_613 zi_615 zs_M_begin zi_5 zc_M_begin) rfl rfl rfl (by decide +kernel) ⟨Nat.le_of_ble_eq_true rfl, Nat.le_of_ble_eq_true rfl⟩) hK hP hD hS (fb_recv hK hP (fb_memM (k := 0) rfl) rfl rfl) rfl hl.1 rfl (lv_room (Nat.le_of_ble_eq_true rfl)) zd_M_choose_119 ⟨Nat.zero_le _, Nat.zero_le _⟩ (fun s37 H locs hp hP hD hS => ?_)
              obtain ⟨hs, hok9⟩ := hp
              have es37 : s37 = mf_begin (mf_first S1 u v (S1 23 (fb_n ((14 * u) + v))) fr) u S1 := hs
              have oks37 : fb_okM fl fr T s37 := hok9
              refine lv_aload_n hx hb zd_M_choose_122 rfl (lv_at hl 3 rfl) ?_
              refine pw_get (C := "PausedFabricModel") (T := zT_M) (N := 28) hx hb hT zin_M hown hK hP (fb_memM (k := 0) rfl) rfl rfl 24 (by decide) (hT _ zi_460) (fun _ h9 => h9) rfl zd_M_choose_123 ?_
              refine lv_iconst (v := 2) hx hb zd_M_choose_126 (by decide) ?_
              refine lv_iload_n hx hb zd_M_choose_127 rfl (lv_at hl 6 rfl) ?_
              refine lv_imul hx hb zd_M_choose_128 ?_
              refine lv_iload hx hb zd_M_choose_129 (lv_at hl 2 rfl) ?_
              refine lv_iadd hx hb zd_M_choose_131 ?_
              refine lv_aload_n hx hb zd_M_choose_132 rfl (lv_at hl 3 rfl) ?_
              refine pw_get (C := "PausedFabricModel") (T := zT_M) (N := 28) hx hb hT zin_M hown hK hP (fb_memM (k := 0) rfl) rfl rfl 24 (by decide) (hT _ zi_460) (fun _ h9 => h9) rfl zd_M_choose_133 ?_
              refine lv_iconst (v := 2) hx hb zd_M_choose_136 (by decide) ?_
              refine lv_iload_n hx hb zd_M_choose_137 rfl (lv_at hl 6 rfl) ?_
              refine lv_imul hx hb zd_M_choose_138 ?_
              refine lv_iload hx hb zd_M_choose_139 (lv_at hl 2 rfl) ?_
              refine lv_iadd hx hb zd_M_choose_141 ?_
              refine pw_iald (v := s37 24 (fb_n ((2 * ((14 * u) + v)) + (S1 23 (fb_n ((14 * u) + v)))))) hx hb hK hP (fb_memM (k := 24) rfl) 0 rfl rfl (fb_in28 hu hv (okS1 23 _)) rfl zd_M_choose_142 ?_
              refine lv_aload_n hx hb zd_M_choose_143 rfl (lv_at hl 3 rfl) ?_
              refine pw_get (C := "PausedFabricModel") (T := zT_M) (N := 28) hx hb hT zin_M hown hK hP (fb_memM (k := 0) rfl) rfl rfl 17 (by decide) (hT _ zi_453) (fun _ h9 => h9) rfl zd_M_choose_144 ?_
              refine lv_iload hx hb zd_M_choose_147 (lv_at hl 0 rfl) ?_
              refine pw_iald (v := s37 17 (fb_n (mf_first S1 u v (S1 23 (fb_n ((14 * u) + v))) fr))) hx hb hK hP (fb_memM (k := 17) rfl) 0 rfl rfl (fb_vle (fb_chin0 (hIa.2 h1) (by omega) h2 h21b) hfr) rfl zd_M_choose_149 ?_
              refine lv_isub hx hb zd_M_choose_150 ?_
              refine pw_iast hx hb hK hP hD hS (fb_memM (k := 24) rfl) 0 rfl rfl (fb_in28 hu hv (okS1 23 _)) (fb_up s37 24 (fb_n ((2 * ((14 * u) + v)) + (S1 23 (fb_n ((14 * u) + v))))) ((s37 24 (fb_n ((2 * ((14 * u) + v)) + (S1 23 (fb_n ((14 * u) + v)))))) - (s37 17 (fb_n (mf_first S1 u v (S1 23 (fb_n ((14 * u) + v))) fr))))) (pa_M24 _ _ _) (fb_hoM _ 24 _ _ owM_24) zd_M_choose_151 (fun H locs hP hD hS => ?_)
              obtain ⟨s38, es38⟩ : ∃ z, z = fb_up s37 24 (fb_n ((2 * ((14 * u) + v)) + (S1 23 (fb_n ((14 * u) + v))))) ((s37 24 (fb_n ((2 * ((14 * u) + v)) + (S1 23 (fb_n ((14 * u) + v)))))) - (s37 17 (fb_n (mf_first S1 u v (S1 23 (fb_n ((14 * u) + v))) fr)))) := ⟨_, rfl⟩
              have oks38 : fb_okM fl fr T s38 := es38 ▸ (fb_okM_up oks37 trivial)
              rw [← es38] at hP hD
              refine lv_iconst (v := 0) hx hb zd_M_choose_152 (by decide) ?_
              refine lv_istore (lv' := [(6, .int 0), (10, .int (mf_first S1 u v (S1 23 (fb_n ((14 * u) + v))) fr)), (9, .int (fb_b (mf_ready st fr u v 0))), (8, .int (S1 23 (fb_n ((14 * u) + v)))), (0, .ref (ad 0 0)), (1, .int u), (2, .int v), (3, .int ((14 * u) + v)), (4, .int (fb_b (mf_ready st fr u v 0))), (5, .int (fb_b (mf_ready st fr u v 1))), (7, .int (nI a))]) hx hb zd_M_choose_153 hl (by decide) rfl (fun ls hl => ?_)
              refine lv_goto (tgt := 266) hx hb zd_M_choose_155 (by decide) ?_
              refine lv_iinc (k := 10) (v := nI (a + 1)) (lv' := [(7, .int (nI (a + 1))), (6, .int 0), (10, .int (mf_first S1 u v (S1 23 (fb_n ((14 * u) + v))) fr)), (9, .int (fb_b (mf_ready st fr u v 0))), (8, .int (S1 23 (fb_n ((14 * u) + v)))), (0, .ref (ad 0 0)), (1, .int u), (2, .int v), (3, .int ((14 * u) + v)), (4, .int (fb_b (mf_ready st fr u v 0))), (5, .int (fb_b (mf_ready st fr u v 1)))]) hx hb zd_M_choose_266 hl rfl (nI_succ _).symm (by decide) rfl (fun ls hl => ?_)
              refine lv_goto (tgt := 45) hx hb zd_M_choose_269 (by decide) ?_
              exact iha _ _ _ ⟨s38, 0, ⟨(by have hq9 := hIa.1; rw [hpb] at hq9; rw [← hq9]; subst es38 es37; simp only [mf_go, mf_steps, mf_step, mf_last1, mf_can, if_neg h1, if_pos h2, if_pos h21b, if_neg h29, reduceIte]), (fun h9 => absurd rfl h9)⟩, oks38, (lv_sub hl [5, 6, 7, 8, 9, 10, 1, 0] rfl), hP, hD, hS⟩
    · skip
      intro H locs ls hI
      obtain ⟨S1, x1, hIa, okS1, hl, hP, hD, hS⟩ := hI
      refine lv_iload hx hb zd_M_choose_45 (lv_at hl 7 rfl) ?_
      refine lv_bipush (v := 40) hx hb zd_M_choose_47 (by decide) ?_
      refine lv_icmp_ge (tgt := 272) hx hb zd_M_choose_49 (by decide) (fun _ => ?_) (fun h9 => absurd (fb_lle (by decide) (by omega)) h9)
      exact W.vret hx hb hr (fun t ht hW => ⟨⟨S1, rfl, ⟨(by have h9 := hIa.1; simp only [mf_go, Nat.sub_self, mf_steps, ite_self] at h9; exact h9), okS1⟩, by rw [ht]; exact hP, va_K.moved hW.alike hK, hD⟩, hS.F ht⟩) hS.2.2 zd_M_choose_272
    · skip
      exact ⟨st, fb_b (mf_more (mf_ready st fr u v 0) (mf_ready st fr u v 1)), ⟨rfl, fun _ _ _ _ _ => rfl⟩, hok, (lv_sub hl [5, 6, 7, 4, 3, 2, 1, 0] rfl), hP, hD, hS⟩
  · skip
    refine lv_iload hx hb zd_M_choose_25 (lv_at hl 1 rfl) ?_
    refine lv_if_ne (tgt := 35) hx hb zd_M_choose_27 (by decide) (fun h39 => ?_) (fun h39 => ?_)
    · skip
      have h39b := fb_b1 h39
      refine lv_iconst (v := 1) hx hb zd_M_choose_35 (by decide) ?_
      refine lv_goto (tgt := 40) hx hb zd_M_choose_36 (by decide) ?_
      exact kj40 _ _ _ (show 1 = fb_b (mf_more (mf_ready st fr u v 0) (mf_ready st fr u v 1)) from (by simp only [mf_more, if_pos h39b, fb_b_t, fb_b_f])) ⟨hP, hD, hS⟩
    · skip
      have h39b := fb_b0 h39
      refine lv_iload hx hb zd_M_choose_30 (lv_at hl 0 rfl) ?_
      refine lv_if_eq (tgt := 39) hx hb zd_M_choose_32 (by decide) (fun h40 => ?_) (fun h40 => ?_)
      · skip
        have h40b := fb_b0 h40
        refine lv_iconst (v := 0) hx hb zd_M_choose_39 (by decide) ?_
        exact kj40 _ _ _ (show 0 = fb_b (mf_more (mf_ready st fr u v 0) (mf_ready st fr u v 1)) from (by simp only [mf_more, if_neg h39b, if_neg h40b, fb_b_t, fb_b_f])) ⟨hP, hD, hS⟩
      · skip
        have h40b := fb_b1 h40
        refine lv_iconst (v := 1) hx hb zd_M_choose_35 (by decide) ?_
        refine lv_goto (tgt := 40) hx hb zd_M_choose_36 (by decide) ?_
        exact kj40 _ _ _ (show 1 = fb_b (mf_more (mf_ready st fr u v 0) (mf_ready st fr u v 1)) from (by simp only [mf_more, if_neg h39b, if_pos h40b, fb_b_t, fb_b_f])) ⟨hP, hD, hS⟩
