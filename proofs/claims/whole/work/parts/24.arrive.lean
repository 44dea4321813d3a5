/-! contracts (by program) -/
set_option maxHeartbeats 4000000 in
set_option maxRecDepth 100000 in
theorem c_M_arrive (l : Launch) (D : va_G) (cA : Nat → ClassId) (ad : Nat → Nat → Nat) (fl fr T : Nat) (st : fb_S) (hflr : fl ≤ 12 ∧ fr ≤ 100 ∧ T ≤ 30000) (hok : fb_okM fl fr T st) (k : Nat) (u : Int32) (v : Int32) (hk : k < fr) (hu : vp_in u 14) (hv : vp_in v 14) : fb_Mv l zy_M_arrive (zw_M_arrive :: lw_gd) { frames := 4, cells := 0, slots := 0, locals := 95 } (fb_cM cA) D fb_cl (fb_tys cA) ad fb_LM st [.ref (ad 0 0), .int (nI k), .int u, .int v] (fun st1 => st1 = mf_arrive fr k u v st ∧ fb_okM fl fr T st1) := by
  have hfl : fl ≤ 12 := hflr.1
  have hfr : fr ≤ 100 := hflr.2.1
  have hTb : T ≤ 30000 := hflr.2.2
  intro sz
  refine Met.ofW (cc := zb_M_arrive) (maxL := 8) (ret := none) (by decide) rfl ?_
  intro p e s m args below meth c s₁ B hml hv
  obtain ⟨rfl, hsz, hP, hK, hD0⟩ := hv
  have hx := B.exec
  have hb := B.bytes
  have hr := B.returns
  have hts := atoms_spec (ws := zw_M_arrive :: lw_gd) B.pre
  have hT : ∀ w ∈ lw_gd, w.before _ s = true := fun w h => hts w (List.mem_cons_of_mem _ h)
  have hown : s.vm.findClass "PausedFabricModel" = some m.cls := findClass_of_methodNamed B.named
  have hlocks := B.notSynchronized
  subst hsz
  have hD := fb_D_self (sz := s.heap.size) hD0
  have hS : va_S (fb_A ad fb_LM s.heap.size) s.heap s.heap [] := va_S.rf
  have hl := lv_entry ([.ref (ad 0 0), .int (nI k), .int u, .int v]) (n := 8) (Nat.le_of_ble_eq_true rfl)
  rw [lg_entry_eq]
  generalize (lg_sl ([.ref (ad 0 0), .int (nI k), .int u, .int v]) ++ List.replicate (8 - (lg_sl ([.ref (ad 0 0), .int (nI k), .int u, .int v])).length) Slot.unset).toArray = ls at hl ⊢
  have hl : lv_has ls 8 [(0, .ref (ad 0 0)), (1, .int (nI k)), (2, .int u), (3, .int v)] := hl
  refine lv_aload_n hx hb zd_M_arrive_0 rfl (lv_at hl 0 rfl) ?_
  refine pw_get (C := "PausedFabricModel") (T := zT_M) (N := 28) hx hb hT zin_M hown hK hP (fb_memM (k := 0) rfl) rfl rfl 16 (by decide) (hT _ zi_452) (fun _ h9 => h9) rfl zd_M_arrive_1 ?_
  refine lv_iload_n hx hb zd_M_arrive_4 rfl (lv_at hl 1 rfl) ?_
  refine pw_iald (v := st 16 k) hx hb hK hP (fb_memM (k := 16) rfl) 0 rfl rfl (vp_in_nI (by omega) (by decide)) (congrArg (st 16) (nI_clamp (by omega))) zd_M_arrive_5 ?_
  refine lv_istore (lv' := [(4, .int (st 16 k)), (0, .ref (ad 0 0)), (1, .int (nI k)), (2, .int u), (3, .int v)]) hx hb zd_M_arrive_6 hl (by decide) rfl (fun ls hl => ?_)
  refine lv_aload_n hx hb zd_M_arrive_8 rfl (lv_at hl 1 rfl) ?_
  refine pw_get (C := "PausedFabricModel") (T := zT_M) (N := 28) hx hb hT zin_M hown hK hP (fb_memM (k := 0) rfl) rfl rfl 9 (by decide) (hT _ zi_445) (fun _ h9 => h9) rfl zd_M_arrive_9 ?_
  refine lv_iload hx hb zd_M_arrive_12 (lv_at hl 0 rfl) ?_
  refine pw_iald (v := st 9 (fb_n (st 16 k))) hx hb hK hP (fb_memM (k := 9) rfl) 0 rfl rfl (hok 16 _).1 rfl zd_M_arrive_14 ?_
  refine lv_istore (lv' := [(5, .int (st 9 (fb_n (st 16 k)))), (4, .int (st 16 k)), (0, .ref (ad 0 0)), (1, .int (nI k)), (2, .int u), (3, .int v)]) hx hb zd_M_arrive_15 hl (by decide) rfl (fun ls hl => ?_)
  refine lv_aload_n hx hb zd_M_arrive_17 rfl (lv_at hl 2 rfl) ?_
  refine pw_get (C := "PausedFabricModel") (T := zT_M) (N := 28) hx hb hT zin_M hown hK hP (fb_memM (k := 0) rfl) rfl rfl 19 (by decide) (hT _ zi_455) (fun _ h9 => h9) rfl zd_M_arrive_18 ?_
  refine lv_iload_n hx hb zd_M_arrive_21 rfl (lv_at hl 3 rfl) ?_
  refine pw_iald (v := st 19 k) hx hb hK hP (fb_memM (k := 19) rfl) 0 rfl rfl (vp_in_nI (by omega) (by decide)) (congrArg (st 19) (nI_clamp (by omega))) zd_M_arrive_22 ?_
  refine lv_iconst (v := 1) hx hb zd_M_arrive_23 (by decide) ?_
  refine lv_iadd hx hb zd_M_arrive_24 ?_
  refine lv_aload_n hx hb zd_M_arrive_25 rfl (lv_at hl 2 rfl) ?_
  refine lv_iload hx hb zd_M_arrive_26 (lv_at hl 1 rfl) ?_
  refine pw_Vi (bytes := zb_M_end) (maxL := 2) (ret := (some .int)) (As := [.int (st 16 k)]) (rest := [.int ((st 19 k) + 1)]) ⟨hx, hb, hml, hown, hT⟩ (c_M_end l D cA ad fl fr T st hflr hok (st 16 k) (hok 16 _).1) (cwV 1 hT (fb_gV zi_558 zi_560 zs_M_end zi_5 zc_M_end) rfl rfl rfl (by decide +kernel) ⟨Nat.le_of_ble_eq_true rfl, Nat.le_of_ble_eq_true rfl⟩) hK hP hD hS (fb_recv hK hP (fb_memM (k := 0) rfl) rfl rfl) rfl hl.1 rfl (lv_room (Nat.le_of_ble_eq_true rfl)) zd_M_arrive_28 ⟨Nat.zero_le _, Nat.zero_le _⟩ (fun rx sx H locs hp hP hD hS => ?_)
  obtain ⟨hr9, hs, hok9⟩ := hp
  rw [hr9]
  rw [hs] at hP hD
  refine lv_icmp_ne (tgt := 66) hx hb zd_M_arrive_31 (by decide) (fun h1 => ?_) (fun h1 => ?_)
  · skip
    refine pw_cut (ls := ls) (X := fb_b (mf_much st fr k u v)) (rest := []) 111 (fun H locs => va_P D fb_cl (fb_wl (fb_cM cA) ad st fb_LM) H ∧ va_D (fb_A ad fb_LM s.heap.size) (fb_wl (fb_cM cA) ad st fb_LM) ∧ va_S (fb_A ad fb_LM s.heap.size) s.heap H locs) ?_ (fun kj111 => ?_)
    · skip
      rintro x9 H locs h9 ⟨hP, hD, hS⟩
      subst h9
      refine lv_istore (lv' := [(6, .int (fb_b (mf_much st fr k u v))), (5, .int (st 9 (fb_n (st 16 k)))), (4, .int (st 16 k)), (0, .ref (ad 0 0)), (1, .int (nI k)), (2, .int u), (3, .int v)]) hx hb zd_M_arrive_111 hl (by decide) rfl (fun ls hl => ?_)
      refine lv_aload_n hx hb zd_M_arrive_113 rfl (lv_at hl 3 rfl) ?_
      refine pw_get (C := "PausedFabricModel") (T := zT_M) (N := 28) hx hb hT zin_M hown hK hP (fb_memM (k := 0) rfl) rfl rfl 19 (by decide) (hT _ zi_455) (fun _ h9 => h9) rfl zd_M_arrive_114 ?_
      refine lv_iload_n hx hb zd_M_arrive_117 rfl (lv_at hl 4 rfl) ?_
      refine lv_aload_n hx hb zd_M_arrive_118 rfl (lv_at hl 3 rfl) ?_
      refine pw_get (C := "PausedFabricModel") (T := zT_M) (N := 28) hx hb hT zin_M hown hK hP (fb_memM (k := 0) rfl) rfl rfl 19 (by decide) (hT _ zi_455) (fun _ h9 => h9) rfl zd_M_arrive_119 ?_
      refine lv_iload_n hx hb zd_M_arrive_122 rfl (lv_at hl 4 rfl) ?_
      refine pw_iald (v := st 19 k) hx hb hK hP (fb_memM (k := 19) rfl) 0 rfl rfl (vp_in_nI (by omega) (by decide)) (congrArg (st 19) (nI_clamp (by omega))) zd_M_arrive_123 ?_
      refine lv_iconst (v := 1) hx hb zd_M_arrive_124 (by decide) ?_
      refine lv_iadd hx hb zd_M_arrive_125 ?_
      refine pw_iast hx hb hK hP hD hS (fb_memM (k := 19) rfl) 0 rfl rfl (vp_in_nI (by omega) (by decide)) (fb_up st 19 k ((st 19 k) + 1)) (by rw [nI_clamp (by omega)]; exact (pa_M19 _ _ _)) (fb_hoM _ 19 _ _ owM_19) zd_M_arrive_126 (fun H locs hP hD hS => ?_)
      obtain ⟨s2, es2⟩ : ∃ z, z = fb_up st 19 k ((st 19 k) + 1) := ⟨_, rfl⟩
      have oks2 : fb_okM fl fr T s2 := es2 ▸ (fb_okM_up hok trivial)
      rw [← es2] at hP hD
      refine lv_iload hx hb zd_M_arrive_127 (lv_at hl 0 rfl) ?_
      refine lv_if_eq (tgt := 140) hx hb zd_M_arrive_129 (by decide) (fun h3 => ?_) (fun h3 => ?_)
      · skip
        have h3b := fb_b0 h3
        refine lv_aload_n hx hb zd_M_arrive_140 rfl (lv_at hl 3 rfl) ?_
        refine lv_iload_n hx hb zd_M_arrive_141 rfl (lv_at hl 4 rfl) ?_
        refine pw_Vv (bytes := zb_M_enqueue) (maxL := 2) (ret := none) (As := [.int (nI k)]) (rest := []) ⟨hx, hb, hml, hown, hT⟩ (c_M_enqueue l D cA ad fl fr T s2 hflr oks2 (nI k) (vp_in_nI (by omega) (by decide))) (cwV 1 hT (fb_gV zi_538 zi_540 zs_M_enqueue zi_5 zc_M_enqueue) rfl rfl rfl (by decide +kernel) ⟨Nat.le_of_ble_eq_true rfl, Nat.le_of_ble_eq_true rfl⟩) hK hP hD hS (fb_recv hK hP (fb_memM (k := 0) rfl) rfl rfl) rfl hl.1 rfl (lv_room (Nat.le_of_ble_eq_true rfl)) zd_M_arrive_142 ⟨Nat.zero_le _, Nat.zero_le _⟩ (fun s4 H locs hp hP hD hS => ?_)
        obtain ⟨hs, hok9⟩ := hp
        have es4 : s4 = mf_enq (fb_n (nI k)) s2 := hs
        have oks4 : fb_okM fl fr T s4 := hok9
        rw [show fb_n (nI k) = k from nI_clamp (by omega)] at es4
        refine lv_aload_n hx hb zd_M_arrive_145 rfl (lv_at hl 3 rfl) ?_
        refine lv_iload hx hb zd_M_arrive_146 (lv_at hl 2 rfl) ?_
        refine lv_aload_n hx hb zd_M_arrive_148 rfl (lv_at hl 3 rfl) ?_
        refine pw_get (C := "PausedFabricModel") (T := zT_M) (N := 28) hx hb hT zin_M hown hK hP (fb_memM (k := 0) rfl) rfl rfl 19 (by decide) (hT _ zi_455) (fun _ h9 => h9) rfl zd_M_arrive_149 ?_
        refine lv_iload_n hx hb zd_M_arrive_152 rfl (lv_at hl 4 rfl) ?_
        refine pw_iald (v := s4 19 k) hx hb hK hP (fb_memM (k := 19) rfl) 0 rfl rfl (vp_in_nI (by omega) (by decide)) (congrArg (s4 19) (nI_clamp (by omega))) zd_M_arrive_153 ?_
        refine lv_iconst (v := 1) hx hb zd_M_arrive_154 (by decide) ?_
        refine lv_iadd hx hb zd_M_arrive_155 ?_
        refine pw_Vi (bytes := zb_M_nodeAt) (maxL := 4) (ret := (some .int)) (As := [.int (st 16 k), .int ((s4 19 k) + 1)]) (rest := []) ⟨hx, hb, hml, hown, hT⟩ (c_M_nodeAt l D cA ad fl fr T s4 hflr oks4 (st 16 k) ((s4 19 k) + 1) (hok 16 _).1) (cwV 2 hT (fb_gV zi_554 zi_556 zs_M_nodeAt zi_5 zc_M_nodeAt) rfl rfl rfl (by decide +kernel) ⟨Nat.le_of_ble_eq_true rfl, Nat.le_of_ble_eq_true rfl⟩) hK hP hD hS (fb_recv hK hP (fb_memM (k := 0) rfl) rfl rfl) rfl hl.1 rfl (lv_room (Nat.le_of_ble_eq_true rfl)) zd_M_arrive_156 ⟨Nat.zero_le _, Nat.zero_le _⟩ (fun rx sx H locs hp hP hD hS => ?_)
        obtain ⟨hr9, hs, hok9⟩ := hp
        rw [hr9]
        rw [hs] at hP hD
        refine lv_istore (lv' := [(7, .int (mf_node s4 (st 16 k) ((s4 19 k) + 1))), (6, .int (fb_b (mf_much st fr k u v))), (5, .int (st 9 (fb_n (st 16 k)))), (4, .int (st 16 k)), (0, .ref (ad 0 0)), (1, .int (nI k)), (2, .int u), (3, .int v)]) hx hb zd_M_arrive_159 hl (by decide) rfl (fun ls hl => ?_)
        refine lv_aload_n hx hb zd_M_arrive_161 rfl (lv_at hl 4 rfl) ?_
        refine pw_get (C := "PausedFabricModel") (T := zT_M) (N := 28) hx hb hT zin_M hown hK hP (fb_memM (k := 0) rfl) rfl rfl 22 (by decide) (hT _ zi_458) (fun _ h9 => h9) rfl zd_M_arrive_162 ?_
        refine lv_iload_n hx hb zd_M_arrive_165 rfl (lv_at hl 5 rfl) ?_
        refine pw_cut (ls := ls) (X := fb_b (mf_mark s4 fr k v (mf_node s4 (st 16 k) (s4 19 k + 1)) (st 9 (fb_n (st 16 k))))) (rest := [.int (nI k), .ref (ad 22 0)]) 196 (fun H locs => va_P D fb_cl (fb_wl (fb_cM cA) ad s4 fb_LM) H ∧ va_D (fb_A ad fb_LM s.heap.size) (fb_wl (fb_cM cA) ad s4 fb_LM) ∧ va_S (fb_A ad fb_LM s.heap.size) s.heap H locs) ?_ (fun kj196 => ?_)
        · skip
          rintro x9 H locs h9 ⟨hP, hD, hS⟩
          subst h9
          refine pw_zast hx hb hK hP hD hS (fb_memM (k := 22) rfl) 5 rfl rfl (vp_in_nI (by omega) (by decide)) (fb_up s4 22 k (fb_b (mf_mark s4 fr k v (mf_node s4 (st 16 k) (s4 19 k + 1)) (st 9 (fb_n (st 16 k)))))) (by rw [nI_clamp (by omega)]; exact (pz_M22 _ _ (fb_b01 _))) (fb_hoM _ 22 _ _ owM_22) zd_M_arrive_196 (fun H locs hP hD hS => ?_)
          obtain ⟨s5, es5⟩ : ∃ z, z = fb_up s4 22 k (fb_b (mf_mark s4 fr k v (mf_node s4 (st 16 k) (s4 19 k + 1)) (st 9 (fb_n (st 16 k))))) := ⟨_, rfl⟩
          have oks5 : fb_okM fl fr T s5 := es5 ▸ (fb_okM_up oks4 (fb_b01 _))
          rw [← es5] at hP hD
          refine lv_aload_n hx hb zd_M_arrive_197 rfl (lv_at hl 4 rfl) ?_
          refine pw_get (C := "PausedFabricModel") (T := zT_M) (N := 28) hx hb hT zin_M hown hK hP (fb_memM (k := 0) rfl) rfl rfl 26 (by decide) (hT _ zi_462) (fun _ h9 => h9) rfl zd_M_arrive_198 ?_
          refine lv_bipush (v := 14) hx hb zd_M_arrive_201 (by decide) ?_
          refine lv_iload_n hx hb zd_M_arrive_203 rfl (lv_at hl 6 rfl) ?_
          refine lv_imul hx hb zd_M_arrive_204 ?_
          refine lv_iload_n hx hb zd_M_arrive_205 rfl (lv_at hl 7 rfl) ?_
          refine lv_iadd hx hb zd_M_arrive_206 ?_
          refine pw_cut (ls := ls) (X := fb_b (mf_ask s5 fr u v (st 9 (fb_n (st 16 k))))) (rest := [.int ((14 * u) + v), .ref (ad 26 0)]) 245 (fun H locs => va_P D fb_cl (fb_wl (fb_cM cA) ad s5 fb_LM) H ∧ va_D (fb_A ad fb_LM s.heap.size) (fb_wl (fb_cM cA) ad s5 fb_LM) ∧ va_S (fb_A ad fb_LM s.heap.size) s.heap H locs) ?_ (fun kj245 => ?_)
          · skip
            rintro x9 H locs h9 ⟨hP, hD, hS⟩
            subst h9
            refine pw_zast hx hb hK hP hD hS (fb_memM (k := 26) rfl) 5 rfl rfl (fb_in14 hu hv) (fb_up s5 26 (fb_n ((14 * u) + v)) (fb_b (mf_ask s5 fr u v (st 9 (fb_n (st 16 k)))))) (pz_M26 _ _ (fb_b01 _)) (fb_hoM _ 26 _ _ owM_26) zd_M_arrive_245 (fun H locs hP hD hS => ?_)
            obtain ⟨s6, es6⟩ : ∃ z, z = fb_up s5 26 (fb_n ((14 * u) + v)) (fb_b (mf_ask s5 fr u v (st 9 (fb_n (st 16 k))))) := ⟨_, rfl⟩
            have oks6 : fb_okM fl fr T s6 := es6 ▸ (fb_okM_up oks5 (fb_b01 _))
            rw [← es6] at hP hD
            exact W.vret hx hb hr (fun t ht hW => ⟨⟨s6, rfl, ⟨(by subst es6 es5 es4 es2; simp only [mf_arrive, if_neg h1, if_neg h3b, fb_b_t, fb_b_f]), oks6⟩, by rw [ht]; exact hP, va_K.moved hW.alike hK, hD⟩, hS.F ht⟩) hS.2.2 zd_M_arrive_246
          · skip
            refine lv_aload_n hx hb zd_M_arrive_207 rfl (lv_at hl 4 rfl) ?_
            refine pw_get (C := "PausedFabricModel") (T := zT_M) (N := 28) hx hb hT zin_M hown hK hP (fb_memM (k := 0) rfl) rfl rfl 26 (by decide) (hT _ zi_462) (fun _ h9 => h9) rfl zd_M_arrive_208 ?_
            refine lv_bipush (v := 14) hx hb zd_M_arrive_211 (by decide) ?_
            refine lv_iload_n hx hb zd_M_arrive_213 rfl (lv_at hl 6 rfl) ?_
            refine lv_imul hx hb zd_M_arrive_214 ?_
            refine lv_iload_n hx hb zd_M_arrive_215 rfl (lv_at hl 7 rfl) ?_
            refine lv_iadd hx hb zd_M_arrive_216 ?_
            refine pw_zald (v := s5 26 (fb_n ((14 * u) + v))) hx hb hK hP (fb_memM (k := 26) rfl) 5 rfl rfl (fb_in14 hu hv) rfl zd_M_arrive_217 ?_
            refine lv_if_ne (tgt := 240) hx hb zd_M_arrive_218 (by decide) (fun h7 => ?_) (fun h7 => ?_)
            · skip
              refine lv_iconst (v := 1) hx hb zd_M_arrive_240 (by decide) ?_
              refine lv_goto (tgt := 245) hx hb zd_M_arrive_241 (by decide) ?_
              exact kj245 _ _ _ (show 1 = fb_b (mf_ask s5 fr u v (st 9 (fb_n (st 16 k)))) from (by simp only [mf_ask, if_neg h1, if_neg h3b, if_neg h7, fb_b_t, fb_b_f])) ⟨hP, hD, hS⟩
            · skip
              refine lv_iload hx hb zd_M_arrive_221 (lv_at hl 2 rfl) ?_
              refine lv_if_ne (tgt := 244) hx hb zd_M_arrive_223 (by decide) (fun h8 => ?_) (fun h8 => ?_)
              · skip
                refine lv_iconst (v := 0) hx hb zd_M_arrive_244 (by decide) ?_
                exact kj245 _ _ _ (show 0 = fb_b (mf_ask s5 fr u v (st 9 (fb_n (st 16 k)))) from (by simp only [mf_ask, if_neg h1, if_neg h3b, if_pos h7, if_neg h8, fb_b_t, fb_b_f])) ⟨hP, hD, hS⟩
              · skip
                refine lv_aload_n hx hb zd_M_arrive_226 rfl (lv_at hl 4 rfl) ?_
                refine lv_iload_n hx hb zd_M_arrive_227 rfl (lv_at hl 6 rfl) ?_
                refine lv_iload_n hx hb zd_M_arrive_228 rfl (lv_at hl 7 rfl) ?_
                refine lv_iconst (v := 0) hx hb zd_M_arrive_229 (by decide) ?_
                refine pw_Vi (bytes := zb_M_holds) (maxL := 9) (ret := (some .int)) (As := [.int u, .int v, .int 0]) (rest := [.int ((14 * u) + v), .ref (ad 26 0)]) ⟨hx, hb, hml, hown, hT⟩ (c_M_holds l D cA ad fl fr T s5 hflr oks5 u v 0) (cwV 3 hT (fb_gV zi_562 zi_564 zs_M_holds zi_5 zc_M_holds) rfl rfl rfl (by decide +kernel) ⟨Nat.le_of_ble_eq_true rfl, Nat.le_of_ble_eq_true rfl⟩) hK hP hD hS (fb_recv hK hP (fb_memM (k := 0) rfl) rfl rfl) rfl hl.1 rfl (lv_room (Nat.le_of_ble_eq_true rfl)) zd_M_arrive_230 ⟨Nat.zero_le _, Nat.zero_le _⟩ (fun rx sx H locs hp hP hD hS => ?_)
                obtain ⟨hr9, hs, hok9⟩ := hp
                rw [hr9]
                rw [hs] at hP hD
                refine lv_aload_n hx hb zd_M_arrive_233 rfl (lv_at hl 4 rfl) ?_
                refine pw_get (C := "PausedFabricModel") (T := zT_M) (N := 28) hx hb hT zin_M hown hK hP (fb_memM (k := 0) rfl) rfl rfl 1 (by decide) (hT _ zi_437) (fun _ h9 => h9) rfl zd_M_arrive_234 ?_
                refine lv_icmp_lt (tgt := 244) hx hb zd_M_arrive_237 (by decide) (fun h9 => ?_) (fun h9 => ?_)
                · skip
                  refine lv_iconst (v := 0) hx hb zd_M_arrive_244 (by decide) ?_
                  exact kj245 _ _ _ (show 0 = fb_b (mf_ask s5 fr u v (st 9 (fb_n (st 16 k)))) from (by simp only [mf_ask, if_neg h1, if_neg h3b, if_pos h7, if_pos h8, if_pos h9, fb_b_t, fb_b_f])) ⟨hP, hD, hS⟩
                · skip
                  refine lv_iconst (v := 1) hx hb zd_M_arrive_240 (by decide) ?_
                  refine lv_goto (tgt := 245) hx hb zd_M_arrive_241 (by decide) ?_
                  exact kj245 _ _ _ (show 1 = fb_b (mf_ask s5 fr u v (st 9 (fb_n (st 16 k)))) from (by simp only [mf_ask, if_neg h1, if_neg h3b, if_pos h7, if_pos h8, if_neg h9, fb_b_t, fb_b_f])) ⟨hP, hD, hS⟩
        · skip
          refine lv_aload_n hx hb zd_M_arrive_166 rfl (lv_at hl 4 rfl) ?_
          refine pw_get (C := "PausedFabricModel") (T := zT_M) (N := 28) hx hb hT zin_M hown hK hP (fb_memM (k := 0) rfl) rfl rfl 22 (by decide) (hT _ zi_458) (fun _ h9 => h9) rfl zd_M_arrive_167 ?_
          refine lv_iload_n hx hb zd_M_arrive_170 rfl (lv_at hl 5 rfl) ?_
          refine pw_zald (v := s4 22 k) hx hb hK hP (fb_memM (k := 22) rfl) 5 rfl rfl (vp_in_nI (by omega) (by decide)) (congrArg (s4 22) (nI_clamp (by omega))) zd_M_arrive_171 ?_
          refine lv_if_ne (tgt := 191) hx hb zd_M_arrive_172 (by decide) (fun h10 => ?_) (fun h10 => ?_)
          · skip
            refine lv_iconst (v := 1) hx hb zd_M_arrive_191 (by decide) ?_
            refine lv_goto (tgt := 196) hx hb zd_M_arrive_192 (by decide) ?_
            exact kj196 _ _ _ (show 1 = fb_b (mf_mark s4 fr k v (mf_node s4 (st 16 k) (s4 19 k + 1)) (st 9 (fb_n (st 16 k)))) from (by simp only [mf_mark, if_neg h1, if_neg h3b, if_neg h10, fb_b_t, fb_b_f])) ⟨hP, hD, hS⟩
          · skip
            refine lv_aload_n hx hb zd_M_arrive_175 rfl (lv_at hl 4 rfl) ?_
            refine lv_iload_n hx hb zd_M_arrive_176 rfl (lv_at hl 7 rfl) ?_
            refine lv_iload hx hb zd_M_arrive_177 (lv_at hl 0 rfl) ?_
            refine lv_iload hx hb zd_M_arrive_179 (lv_at hl 2 rfl) ?_
            refine pw_Vi (bytes := zb_M_queueLength) (maxL := 7) (ret := (some .int)) (As := [.int v, .int (mf_node s4 (st 16 k) ((s4 19 k) + 1)), .int (st 9 (fb_n (st 16 k)))]) (rest := [.int (nI k), .ref (ad 22 0)]) ⟨hx, hb, hml, hown, hT⟩ (c_M_queueLength l D cA ad fl fr T s4 hflr oks4 v (mf_node s4 (st 16 k) ((s4 19 k) + 1)) (st 9 (fb_n (st 16 k)))) (cwV 3 hT (fb_gV zi_589 zi_591 zs_M_queueLength zi_5 zc_M_queueLength) rfl rfl rfl (by decide +kernel) ⟨Nat.le_of_ble_eq_true rfl, Nat.le_of_ble_eq_true rfl⟩) hK hP hD hS (fb_recv hK hP (fb_memM (k := 0) rfl) rfl rfl) rfl hl.1 rfl (lv_room (Nat.le_of_ble_eq_true rfl)) zd_M_arrive_181 ⟨Nat.zero_le _, Nat.zero_le _⟩ (fun rx sx H locs hp hP hD hS => ?_)
            obtain ⟨hr9, hs, hok9⟩ := hp
            rw [hr9]
            rw [hs] at hP hD
            refine lv_aload_n hx hb zd_M_arrive_184 rfl (lv_at hl 4 rfl) ?_
            refine pw_get (C := "PausedFabricModel") (T := zT_M) (N := 28) hx hb hT zin_M hown hK hP (fb_memM (k := 0) rfl) rfl rfl 3 (by decide) (hT _ zi_439) (fun _ h9 => h9) rfl zd_M_arrive_185 ?_
            refine lv_icmp_le (tgt := 195) hx hb zd_M_arrive_188 (by decide) (fun h11 => ?_) (fun h11 => ?_)
            · skip
              refine lv_iconst (v := 0) hx hb zd_M_arrive_195 (by decide) ?_
              exact kj196 _ _ _ (show 0 = fb_b (mf_mark s4 fr k v (mf_node s4 (st 16 k) (s4 19 k + 1)) (st 9 (fb_n (st 16 k)))) from (by simp only [mf_mark, if_neg h1, if_neg h3b, if_pos h10, if_pos h11, fb_b_t, fb_b_f])) ⟨hP, hD, hS⟩
            · skip
              refine lv_iconst (v := 1) hx hb zd_M_arrive_191 (by decide) ?_
              refine lv_goto (tgt := 196) hx hb zd_M_arrive_192 (by decide) ?_
              exact kj196 _ _ _ (show 1 = fb_b (mf_mark s4 fr k v (mf_node s4 (st 16 k) (s4 19 k + 1)) (st 9 (fb_n (st 16 k)))) from (by simp only [mf_mark, if_neg h1, if_neg h3b, if_pos h10, if_neg h11, fb_b_t, fb_b_f])) ⟨hP, hD, hS⟩
      · skip
        have h3b := fb_b1 h3
        refine lv_aload_n hx hb zd_M_arrive_132 rfl (lv_at hl 3 rfl) ?_
        refine pw_get (C := "PausedFabricModel") (T := zT_M) (N := 28) hx hb hT zin_M hown hK hP (fb_memM (k := 0) rfl) rfl rfl 18 (by decide) (hT _ zi_454) (fun _ h9 => h9) rfl zd_M_arrive_133 ?_
        refine lv_iload_n hx hb zd_M_arrive_136 rfl (lv_at hl 4 rfl) ?_
        refine lv_iconst (v := 5) hx hb zd_M_arrive_137 (by decide) ?_
        refine pw_iast hx hb hK hP hD hS (fb_memM (k := 18) rfl) 0 rfl rfl (vp_in_nI (by omega) (by decide)) (fb_up s2 18 k 5) (by rw [nI_clamp (by omega)]; exact (pa_M18 _ _ _)) (fb_hoM _ 18 _ _ owM_18) zd_M_arrive_138 (fun H locs hP hD hS => ?_)
        obtain ⟨s12, es12⟩ : ∃ z, z = fb_up s2 18 k 5 := ⟨_, rfl⟩
        have oks12 : fb_okM fl fr T s12 := es12 ▸ (fb_okM_up oks2 trivial)
        rw [← es12] at hP hD
        exact W.vret hx hb hr (fun t ht hW => ⟨⟨s12, rfl, ⟨(by subst es12 es2; simp only [mf_arrive, if_neg h1, if_pos h3b, fb_b_t, fb_b_f]), oks12⟩, by rw [ht]; exact hP, va_K.moved hW.alike hK, hD⟩, hS.F ht⟩) hS.2.2 zd_M_arrive_139
    · skip
      refine lv_aload_n hx hb zd_M_arrive_66 rfl (lv_at hl 2 rfl) ?_
      refine lv_iload_n hx hb zd_M_arrive_67 rfl (lv_at hl 4 rfl) ?_
      refine lv_iload_n hx hb zd_M_arrive_68 rfl (lv_at hl 5 rfl) ?_
      refine lv_iload hx hb zd_M_arrive_69 (lv_at hl 0 rfl) ?_
      refine pw_Vi (bytes := zb_M_holds) (maxL := 9) (ret := (some .int)) (As := [.int u, .int v, .int (st 9 (fb_n (st 16 k)))]) (rest := []) ⟨hx, hb, hml, hown, hT⟩ (c_M_holds l D cA ad fl fr T st hflr hok u v (st 9 (fb_n (st 16 k)))) (cwV 3 hT (fb_gV zi_562 zi_564 zs_M_holds zi_5 zc_M_holds) rfl rfl rfl (by decide +kernel) ⟨Nat.le_of_ble_eq_true rfl, Nat.le_of_ble_eq_true rfl⟩) hK hP hD hS (fb_recv hK hP (fb_memM (k := 0) rfl) rfl rfl) rfl hl.1 rfl (lv_room (Nat.le_of_ble_eq_true rfl)) zd_M_arrive_71 ⟨Nat.zero_le _, Nat.zero_le _⟩ (fun rx sx H locs hp hP hD hS => ?_)
      obtain ⟨hr9, hs, hok9⟩ := hp
      rw [hr9]
      rw [hs] at hP hD
      refine lv_aload_n hx hb zd_M_arrive_74 rfl (lv_at hl 2 rfl) ?_
      refine pw_get (C := "PausedFabricModel") (T := zT_M) (N := 28) hx hb hT zin_M hown hK hP (fb_memM (k := 0) rfl) rfl rfl 17 (by decide) (hT _ zi_453) (fun _ h9 => h9) rfl zd_M_arrive_75 ?_
      refine lv_iload_n hx hb zd_M_arrive_78 rfl (lv_at hl 3 rfl) ?_
      refine pw_iald (v := st 17 k) hx hb hK hP (fb_memM (k := 17) rfl) 0 rfl rfl (vp_in_nI (by omega) (by decide)) (congrArg (st 17) (nI_clamp (by omega))) zd_M_arrive_79 ?_
      refine lv_iadd hx hb zd_M_arrive_80 ?_
      refine lv_iload hx hb zd_M_arrive_81 (lv_at hl 0 rfl) ?_
      refine lv_iconst (v := 1) hx hb zd_M_arrive_83 (by decide) ?_
      refine lv_icmp_ne (tgt := 94) hx hb zd_M_arrive_84 (by decide) (fun h13 => ?_) (fun h13 => ?_)
      · skip
        refine lv_aload_n hx hb zd_M_arrive_94 rfl (lv_at hl 2 rfl) ?_
        refine pw_get (C := "PausedFabricModel") (T := zT_M) (N := 28) hx hb hT zin_M hown hK hP (fb_memM (k := 0) rfl) rfl rfl 1 (by decide) (hT _ zi_437) (fun _ h9 => h9) rfl zd_M_arrive_95 ?_
        refine lv_aload_n hx hb zd_M_arrive_98 rfl (lv_at hl 2 rfl) ?_
        refine pw_get (C := "PausedFabricModel") (T := zT_M) (N := 28) hx hb hT zin_M hown hK hP (fb_memM (k := 0) rfl) rfl rfl 2 (by decide) (hT _ zi_438) (fun _ h9 => h9) rfl zd_M_arrive_99 ?_
        refine lv_iadd hx hb zd_M_arrive_102 ?_
        refine lv_icmp_le (tgt := 110) hx hb zd_M_arrive_103 (by decide) (fun h14 => ?_) (fun h14 => ?_)
        · skip
          refine lv_iconst (v := 0) hx hb zd_M_arrive_110 (by decide) ?_
          exact kj111 _ _ _ (show 0 = fb_b (mf_much st fr k u v) from (by simp only [mf_much, if_neg h1, if_neg h13, if_pos h14, fb_b_t, fb_b_f])) ⟨hP, hD, hS⟩
        · skip
          refine lv_iconst (v := 1) hx hb zd_M_arrive_106 (by decide) ?_
          refine lv_goto (tgt := 111) hx hb zd_M_arrive_107 (by decide) ?_
          exact kj111 _ _ _ (show 1 = fb_b (mf_much st fr k u v) from (by simp only [mf_much, if_neg h1, if_neg h13, if_neg h14, fb_b_t, fb_b_f])) ⟨hP, hD, hS⟩
      · skip
        refine lv_aload_n hx hb zd_M_arrive_87 rfl (lv_at hl 2 rfl) ?_
        refine pw_get (C := "PausedFabricModel") (T := zT_M) (N := 28) hx hb hT zin_M hown hK hP (fb_memM (k := 0) rfl) rfl rfl 1 (by decide) (hT _ zi_437) (fun _ h9 => h9) rfl zd_M_arrive_88 ?_
        refine lv_goto (tgt := 103) hx hb zd_M_arrive_91 (by decide) ?_
        refine lv_icmp_le (tgt := 110) hx hb zd_M_arrive_103 (by decide) (fun h15 => ?_) (fun h15 => ?_)
        · skip
          refine lv_iconst (v := 0) hx hb zd_M_arrive_110 (by decide) ?_
          exact kj111 _ _ _ (show 0 = fb_b (mf_much st fr k u v) from (by simp only [mf_much, if_neg h1, if_pos h13, if_pos h15, fb_b_t, fb_b_f])) ⟨hP, hD, hS⟩
        · skip
          refine lv_iconst (v := 1) hx hb zd_M_arrive_106 (by decide) ?_
          refine lv_goto (tgt := 111) hx hb zd_M_arrive_107 (by decide) ?_
          exact kj111 _ _ _ (show 1 = fb_b (mf_much st fr k u v) from (by simp only [mf_much, if_neg h1, if_pos h13, if_neg h15, fb_b_t, fb_b_f])) ⟨hP, hD, hS⟩
  · skip
    refine lv_aload_n hx hb zd_M_arrive_34 rfl (lv_at hl 2 rfl) ?_
    refine pw_get (C := "PausedFabricModel") (T := zT_M) (N := 28) hx hb hT zin_M hown hK hP (fb_memM (k := 0) rfl) rfl rfl 19 (by decide) (hT _ zi_455) (fun _ h9 => h9) rfl zd_M_arrive_35 ?_
    refine lv_iload_n hx hb zd_M_arrive_38 rfl (lv_at hl 3 rfl) ?_
    refine lv_aload_n hx hb zd_M_arrive_39 rfl (lv_at hl 2 rfl) ?_
    refine pw_get (C := "PausedFabricModel") (T := zT_M) (N := 28) hx hb hT zin_M hown hK hP (fb_memM (k := 0) rfl) rfl rfl 19 (by decide) (hT _ zi_455) (fun _ h9 => h9) rfl zd_M_arrive_40 ?_
    refine lv_iload_n hx hb zd_M_arrive_43 rfl (lv_at hl 3 rfl) ?_
    refine pw_iald (v := st 19 k) hx hb hK hP (fb_memM (k := 19) rfl) 0 rfl rfl (vp_in_nI (by omega) (by decide)) (congrArg (st 19) (nI_clamp (by omega))) zd_M_arrive_44 ?_
    refine lv_iconst (v := 1) hx hb zd_M_arrive_45 (by decide) ?_
    refine lv_iadd hx hb zd_M_arrive_46 ?_
    refine pw_iast hx hb hK hP hD hS (fb_memM (k := 19) rfl) 0 rfl rfl (vp_in_nI (by omega) (by decide)) (fb_up st 19 k ((st 19 k) + 1)) (by rw [nI_clamp (by omega)]; exact (pa_M19 _ _ _)) (fb_hoM _ 19 _ _ owM_19) zd_M_arrive_47 (fun H locs hP hD hS => ?_)
    obtain ⟨s16, es16⟩ : ∃ z, z = fb_up st 19 k ((st 19 k) + 1) := ⟨_, rfl⟩
    have oks16 : fb_okM fl fr T s16 := es16 ▸ (fb_okM_up hok trivial)
    rw [← es16] at hP hD
    refine lv_aload_n hx hb zd_M_arrive_48 rfl (lv_at hl 2 rfl) ?_
    refine pw_get (C := "PausedFabricModel") (T := zT_M) (N := 28) hx hb hT zin_M hown hK hP (fb_memM (k := 0) rfl) rfl rfl 18 (by decide) (hT _ zi_454) (fun _ h9 => h9) rfl zd_M_arrive_49 ?_
    refine lv_iload_n hx hb zd_M_arrive_52 rfl (lv_at hl 3 rfl) ?_
    refine lv_iconst (v := 4) hx hb zd_M_arrive_53 (by decide) ?_
    refine pw_iast hx hb hK hP hD hS (fb_memM (k := 18) rfl) 0 rfl rfl (vp_in_nI (by omega) (by decide)) (fb_up s16 18 k 4) (by rw [nI_clamp (by omega)]; exact (pa_M18 _ _ _)) (fb_hoM _ 18 _ _ owM_18) zd_M_arrive_54 (fun H locs hP hD hS => ?_)
    obtain ⟨s17, es17⟩ : ∃ z, z = fb_up s16 18 k 4 := ⟨_, rfl⟩
    have oks17 : fb_okM fl fr T s17 := es17 ▸ (fb_okM_up oks16 trivial)
    rw [← es17] at hP hD
    refine lv_aload_n hx hb zd_M_arrive_55 rfl (lv_at hl 2 rfl) ?_
    refine pw_get (C := "PausedFabricModel") (T := zT_M) (N := 28) hx hb hT zin_M hown hK hP (fb_memM (k := 0) rfl) rfl rfl 21 (by decide) (hT _ zi_457) (fun _ h9 => h9) rfl zd_M_arrive_56 ?_
    refine lv_iload_n hx hb zd_M_arrive_59 rfl (lv_at hl 3 rfl) ?_
    refine lv_aload_n hx hb zd_M_arrive_60 rfl (lv_at hl 2 rfl) ?_
    refine pw_get (C := "PausedFabricModel") (T := zT_M) (N := 28) hx hb hT zin_M hown hK hP (fb_memM (k := 0) rfl) rfl rfl 4 (by decide) (hT _ zi_440) (fun _ h9 => h9) rfl zd_M_arrive_61 ?_
    refine pw_iast hx hb hK hP hD hS (fb_memM (k := 21) rfl) 0 rfl rfl (vp_in_nI (by omega) (by decide)) (fb_up s17 21 k (s17 4 0)) (by rw [nI_clamp (by omega)]; exact (pa_M21 _ _ _)) (fb_hoM _ 21 _ _ owM_21) zd_M_arrive_64 (fun H locs hP hD hS => ?_)
    obtain ⟨s18, es18⟩ : ∃ z, z = fb_up s17 21 k (s17 4 0) := ⟨_, rfl⟩
    have oks18 : fb_okM fl fr T s18 := es18 ▸ (fb_okM_up oks17 trivial)
    rw [← es18] at hP hD
    exact W.vret hx hb hr (fun t ht hW => ⟨⟨s18, rfl, ⟨(by subst es18 es17 es16; simp only [mf_arrive, if_pos h1, fb_b_t, fb_b_f]), oks18⟩, by rw [ht]; exact hP, va_K.moved hW.alike hK, hD⟩, hS.F ht⟩) hS.2.2 zd_M_arrive_65

set_option maxHeartbeats 4000000 in
set_option maxRecDepth 100000 in
theorem c_M_arrivals (l : Launch) (D : va_G) (cA : Nat → ClassId) (ad : Nat → Nat → Nat) (fl fr T : Nat) (st : fb_S) (hflr : fl ≤ 12 ∧ fr ≤ 100 ∧ T ≤ 30000) (hok : fb_okM fl fr T st) : fb_Mv l zy_M_arrivals (zw_M_arrivals :: lw_gd) { frames := 5, cells := 0, slots := 0, locals := 122 } (fb_cM cA) D fb_cl (fb_tys cA) ad fb_LM st [.ref (ad 0 0)] (fun st1 => st1 = mf_arrivals fr st ∧ fb_okM fl fr T st1) := by
  have hfl : fl ≤ 12 := hflr.1
  have hfr : fr ≤ 100 := hflr.2.1
  have hTb : T ≤ 30000 := hflr.2.2
  intro sz
  refine Met.ofW (cc := zb_M_arrivals) (maxL := 4) (ret := none) (by decide) rfl ?_
  intro p e s m args below meth c s₁ B hml hv
  obtain ⟨rfl, hsz, hP, hK, hD0⟩ := hv
  have hx := B.exec
  have hb := B.bytes
  have hr := B.returns
  have hts := atoms_spec (ws := zw_M_arrivals :: lw_gd) B.pre
  have hT : ∀ w ∈ lw_gd, w.before _ s = true := fun w h => hts w (List.mem_cons_of_mem _ h)
  have hown : s.vm.findClass "PausedFabricModel" = some m.cls := findClass_of_methodNamed B.named
  have hlocks := B.notSynchronized
  subst hsz
  have hD := fb_D_self (sz := s.heap.size) hD0
  have hS : va_S (fb_A ad fb_LM s.heap.size) s.heap s.heap [] := va_S.rf
  have hl := lv_entry ([.ref (ad 0 0)]) (n := 4) (Nat.le_of_ble_eq_true rfl)
  rw [lg_entry_eq]
  generalize (lg_sl ([.ref (ad 0 0)]) ++ List.replicate (4 - (lg_sl ([.ref (ad 0 0)])).length) Slot.unset).toArray = ls at hl ⊢
  have hl : lv_has ls 4 [(0, .ref (ad 0 0))] := hl
  refine lv_iconst (v := 0) hx hb zd_M_arrivals_0 (by decide) ?_
  refine lv_istore_n (lv' := [(1, .int 0), (0, .ref (ad 0 0))]) hx hb zd_M_arrivals_1 rfl hl (by decide) rfl (fun ls hl => ?_)
  refine pw_loop (n := 14) (Inv := fun (a : Nat) (H : Heap) (locs : List Loc) (ls : Array Slot) => ∃ (S1 : fb_S), (S1 = fb_it (mf_arrV fr) a st) ∧ fb_okM fl fr T S1 ∧ lv_has ls 4 [(0, .ref (ad 0 0)), (1, .int (nI a))] ∧ va_P D fb_cl (fb_wl (fb_cM cA) ad S1 fb_LM) H ∧ va_D (fb_A ad fb_LM s.heap.size) (fb_wl (fb_cM cA) ad S1 fb_LM) ∧ va_S (fb_A ad fb_LM s.heap.size) s.heap H locs) ?_ ?_ ?_
  · skip
    intro a hia H locs ls hI iha
    obtain ⟨S1, hIa, okS1, hl, hP, hD, hS⟩ := hI
    refine lv_iload_n hx hb zd_M_arrivals_2 rfl (lv_at hl 1 rfl) ?_
    refine lv_bipush (v := 14) hx hb zd_M_arrivals_3 (by decide) ?_
    refine lv_icmp_ge (tgt := 97) hx hb zd_M_arrivals_5 (by decide) (fun h9 => absurd h9 (fb_lge (by decide) hia (by omega))) (fun _ => ?_)
    refine lv_iconst (v := 0) hx hb zd_M_arrivals_8 (by decide) ?_
    refine lv_istore_n (lv' := [(2, .int 0), (0, .ref (ad 0 0)), (1, .int (nI a))]) hx hb zd_M_arrivals_9 rfl hl (by decide) rfl (fun ls hl => ?_)
    refine pw_loop (n := 14) (Inv := fun (b : Nat) (H : Heap) (locs : List Loc) (ls : Array Slot) => ∃ (S2 : fb_S), (S2 = fb_it (mf_arrU fr a) b S1) ∧ fb_okM fl fr T S2 ∧ lv_has ls 4 [(0, .ref (ad 0 0)), (1, .int (nI a)), (2, .int (nI b))] ∧ va_P D fb_cl (fb_wl (fb_cM cA) ad S2 fb_LM) H ∧ va_D (fb_A ad fb_LM s.heap.size) (fb_wl (fb_cM cA) ad S2 fb_LM) ∧ va_S (fb_A ad fb_LM s.heap.size) s.heap H locs) ?_ ?_ ?_
    · skip
      intro b hib H locs ls hI ihb
      obtain ⟨S2, hIb, okS2, hl, hP, hD, hS⟩ := hI
      refine lv_iload_n hx hb zd_M_arrivals_10 rfl (lv_at hl 2 rfl) ?_
      refine lv_bipush (v := 14) hx hb zd_M_arrivals_11 (by decide) ?_
      refine lv_icmp_ge (tgt := 91) hx hb zd_M_arrivals_13 (by decide) (fun h9 => absurd h9 (fb_lge (by decide) hib (by omega))) (fun _ => ?_)
      refine lv_iconst (v := 0) hx hb zd_M_arrivals_16 (by decide) ?_
      refine lv_istore_n (lv' := [(3, .int 0), (0, .ref (ad 0 0)), (1, .int (nI a)), (2, .int (nI b))]) hx hb zd_M_arrivals_17 rfl hl (by decide) rfl (fun ls hl => ?_)
      refine pw_loop (n := fr) (Inv := fun (c1 : Nat) (H : Heap) (locs : List Loc) (ls : Array Slot) => ∃ (S3 : fb_S), (S3 = fb_it (mf_arrK fr (nI b) (nI a)) c1 S2) ∧ fb_okM fl fr T S3 ∧ lv_has ls 4 [(0, .ref (ad 0 0)), (1, .int (nI a)), (2, .int (nI b)), (3, .int (nI c1))] ∧ va_P D fb_cl (fb_wl (fb_cM cA) ad S3 fb_LM) H ∧ va_D (fb_A ad fb_LM s.heap.size) (fb_wl (fb_cM cA) ad S3 fb_LM) ∧ va_S (fb_A ad fb_LM s.heap.size) s.heap H locs) ?_ ?_ ?_
      · skip
        intro c1 hic1 H locs ls hI ihc1
        obtain ⟨S3, hIc1, okS3, hl, hP, hD, hS⟩ := hI
        refine lv_iload_n hx hb zd_M_arrivals_18 rfl (lv_at hl 3 rfl) ?_
        refine lv_aload_n hx hb zd_M_arrivals_19 rfl (lv_at hl 0 rfl) ?_
        refine pw_get (C := "PausedFabricModel") (T := zT_M) (N := 28) hx hb hT zin_M hown hK hP (fb_memM (k := 0) rfl) rfl rfl 15 (by decide) (hT _ zi_451) (fun _ h9 => h9) rfl zd_M_arrivals_20 ?_
        refine lv_icmp_ge (tgt := 85) hx hb zd_M_arrivals_23 (by decide) (fun h9 => absurd h9 (fb_lge (okS3 15 0 rfl) hic1 (by omega))) (fun _ => ?_)
        refine lv_iload_n hx hb zd_M_arrivals_26 rfl (lv_at hl 2 rfl) ?_
        refine lv_iload_n hx hb zd_M_arrivals_27 rfl (lv_at hl 1 rfl) ?_
        refine pw_Si (bytes := zb_M_isPort) (maxL := 4) (ret := (some .boolean)) (As := [.int (nI b), .int (nI a)]) (rest := []) ⟨hx, hb, hml, hown, hT⟩ (c_M_isPort l D cA (fb_cM cA) ad fb_LM S3 (nI b) (nI a)) (cwS 2 hT (fb_gS zi_578 zi_579 zi_5 zc_M_isPort) rfl rfl rfl (by decide +kernel) ⟨Nat.le_of_ble_eq_true rfl, Nat.le_of_ble_eq_true rfl⟩) hK hP hD hS rfl hl.1 rfl (lv_room (Nat.le_of_ble_eq_true rfl)) zd_M_arrivals_28 ⟨Nat.zero_le _, Nat.zero_le _⟩ (fun rx sx H locs hp hP hD hS => ?_)
        obtain ⟨hr9, hs, hok9⟩ := hp
        rw [hr9]
        rw [hs] at hP hD
        refine lv_if_eq (tgt := 85) hx hb zd_M_arrivals_31 (by decide) (fun h1 => ?_) (fun h1 => ?_)
        · skip
          have h1b := fb_b0 h1
          have hIk2 : S3 = fb_it (mf_arrK fr (nI b) (nI a)) fr S2 := hIc1.trans (fb_noport h1b _ _ _)
          refine lv_iinc (k := 2) (v := nI (b + 1)) (lv' := [(2, .int (nI (b + 1))), (0, .ref (ad 0 0)), (1, .int (nI a)), (3, .int (nI c1))]) hx hb zd_M_arrivals_85 hl rfl (nI_succ _).symm (by decide) rfl (fun ls hl => ?_)
          refine lv_goto (tgt := 10) hx hb zd_M_arrivals_88 (by decide) ?_
          exact ihb _ _ _ ⟨S3, ((show S3 = mf_arrU fr a b S2 from by subst hIk2; first | (simp only [mf_arrU, if_neg h1b]; done) | rfl).trans (congrArg (mf_arrU fr a b) hIb)), okS3, (lv_sub hl [1, 2, 0] rfl), hP, hD, hS⟩
        · skip
          have h1b := fb_b1 h1
          refine lv_aload_n hx hb zd_M_arrivals_34 rfl (lv_at hl 0 rfl) ?_
          refine pw_get (C := "PausedFabricModel") (T := zT_M) (N := 28) hx hb hT zin_M hown hK hP (fb_memM (k := 0) rfl) rfl rfl 18 (by decide) (hT _ zi_454) (fun _ h9 => h9) rfl zd_M_arrivals_35 ?_
          refine lv_iload_n hx hb zd_M_arrivals_38 rfl (lv_at hl 3 rfl) ?_
          refine pw_iald (v := S3 18 c1) hx hb hK hP (fb_memM (k := 18) rfl) 0 rfl rfl (vp_in_nI (by omega) (by decide)) (congrArg (S3 18) (nI_clamp (by omega))) zd_M_arrivals_39 ?_
          refine lv_iconst (v := 3) hx hb zd_M_arrivals_40 (by decide) ?_
          refine lv_icmp_ne (tgt := 79) hx hb zd_M_arrivals_41 (by decide) (fun h2 => ?_) (fun h2 => ?_)
          · skip
            refine lv_iinc (k := 3) (v := nI (c1 + 1)) (lv' := [(3, .int (nI (c1 + 1))), (0, .ref (ad 0 0)), (1, .int (nI a)), (2, .int (nI b))]) hx hb zd_M_arrivals_79 hl rfl (nI_succ _).symm (by decide) rfl (fun ls hl => ?_)
            refine lv_goto (tgt := 18) hx hb zd_M_arrivals_82 (by decide) ?_
            exact ihc1 _ _ _ ⟨S3, ((show S3 = mf_arrK fr (nI b) (nI a) c1 S3 from by first | (simp only [mf_arrK, if_pos h1b, if_neg h2]; done) | rfl).trans (congrArg (mf_arrK fr (nI b) (nI a) c1) hIc1)), okS3, (lv_sub hl [1, 2, 3, 0] rfl), hP, hD, hS⟩
          · skip
            refine lv_aload_n hx hb zd_M_arrivals_44 rfl (lv_at hl 0 rfl) ?_
            refine pw_get (C := "PausedFabricModel") (T := zT_M) (N := 28) hx hb hT zin_M hown hK hP (fb_memM (k := 0) rfl) rfl rfl 21 (by decide) (hT _ zi_457) (fun _ h9 => h9) rfl zd_M_arrivals_45 ?_
            refine lv_iload_n hx hb zd_M_arrivals_48 rfl (lv_at hl 3 rfl) ?_
            refine pw_iald (v := S3 21 c1) hx hb hK hP (fb_memM (k := 21) rfl) 0 rfl rfl (vp_in_nI (by omega) (by decide)) (congrArg (S3 21) (nI_clamp (by omega))) zd_M_arrivals_49 ?_
            refine lv_aload_n hx hb zd_M_arrivals_50 rfl (lv_at hl 0 rfl) ?_
            refine pw_get (C := "PausedFabricModel") (T := zT_M) (N := 28) hx hb hT zin_M hown hK hP (fb_memM (k := 0) rfl) rfl rfl 0 (by decide) (hT _ zi_436) (fun _ h9 => h9) rfl zd_M_arrivals_51 ?_
            refine lv_iadd hx hb zd_M_arrivals_54 ?_
            refine lv_aload_n hx hb zd_M_arrivals_55 rfl (lv_at hl 0 rfl) ?_
            refine pw_get (C := "PausedFabricModel") (T := zT_M) (N := 28) hx hb hT zin_M hown hK hP (fb_memM (k := 0) rfl) rfl rfl 4 (by decide) (hT _ zi_440) (fun _ h9 => h9) rfl zd_M_arrivals_56 ?_
            refine lv_icmp_ne (tgt := 79) hx hb zd_M_arrivals_59 (by decide) (fun h3 => ?_) (fun h3 => ?_)
            · skip
              refine lv_iinc (k := 3) (v := nI (c1 + 1)) (lv' := [(3, .int (nI (c1 + 1))), (0, .ref (ad 0 0)), (1, .int (nI a)), (2, .int (nI b))]) hx hb zd_M_arrivals_79 hl rfl (nI_succ _).symm (by decide) rfl (fun ls hl => ?_)
              refine lv_goto (tgt := 18) hx hb zd_M_arrivals_82 (by decide) ?_
              exact ihc1 _ _ _ ⟨S3, ((show S3 = mf_arrK fr (nI b) (nI a) c1 S3 from by first | (simp only [mf_arrK, if_pos h1b, if_pos h2, if_neg h3]; done) | rfl).trans (congrArg (mf_arrK fr (nI b) (nI a) c1) hIc1)), okS3, (lv_sub hl [1, 2, 3, 0] rfl), hP, hD, hS⟩
            · skip
              refine lv_aload_n hx hb zd_M_arrivals_62 rfl (lv_at hl 0 rfl) ?_
              refine lv_iload_n hx hb zd_M_arrivals_63 rfl (lv_at hl 3 rfl) ?_
              refine lv_iload_n hx hb zd_M_arrivals_64 rfl (lv_at hl 2 rfl) ?_
              refine lv_iload_n hx hb zd_M_arrivals_65 rfl (lv_at hl 1 rfl) ?_
              refine pw_Vi (bytes := zb_M_between) (maxL := 6) (ret := (some .boolean)) (As := [.int (nI c1), .int (nI b), .int (nI a)]) (rest := []) ⟨hx, hb, hml, hown, hT⟩ (c_M_between l D cA ad fl fr T S3 hflr okS3 c1 (nI b) (nI a) (by omega)) (cwV 3 hT (fb_gV zi_581 zi_583 zs_M_between zi_5 zc_M_between) rfl rfl rfl (by decide +kernel) ⟨Nat.le_of_ble_eq_true rfl, Nat.le_of_ble_eq_true rfl⟩) hK hP hD hS (fb_recv hK hP (fb_memM (k := 0) rfl) rfl rfl) rfl hl.1 rfl (lv_room (Nat.le_of_ble_eq_true rfl)) zd_M_arrivals_66 ⟨Nat.zero_le _, Nat.zero_le _⟩ (fun rx sx H locs hp hP hD hS => ?_)
              obtain ⟨hr9, hs, hok9⟩ := hp
              rw [hr9]
              rw [hs] at hP hD
              refine lv_if_eq (tgt := 79) hx hb zd_M_arrivals_69 (by decide) (fun h4 => ?_) (fun h4 => ?_)
              · skip
                have h4b := fb_b0 h4
                refine lv_iinc (k := 3) (v := nI (c1 + 1)) (lv' := [(3, .int (nI (c1 + 1))), (0, .ref (ad 0 0)), (1, .int (nI a)), (2, .int (nI b))]) hx hb zd_M_arrivals_79 hl rfl (nI_succ _).symm (by decide) rfl (fun ls hl => ?_)
                refine lv_goto (tgt := 18) hx hb zd_M_arrivals_82 (by decide) ?_
                exact ihc1 _ _ _ ⟨S3, ((show S3 = mf_arrK fr (nI b) (nI a) c1 S3 from by first | (simp only [mf_arrK, if_pos h1b, if_pos h2, if_pos h3, if_neg h4b]; done) | rfl).trans (congrArg (mf_arrK fr (nI b) (nI a) c1) hIc1)), okS3, (lv_sub hl [1, 2, 3, 0] rfl), hP, hD, hS⟩
              · skip
                have h4b := fb_b1 h4
                refine lv_aload_n hx hb zd_M_arrivals_72 rfl (lv_at hl 0 rfl) ?_
                refine lv_iload_n hx hb zd_M_arrivals_73 rfl (lv_at hl 3 rfl) ?_
                refine lv_iload_n hx hb zd_M_arrivals_74 rfl (lv_at hl 2 rfl) ?_
                refine lv_iload_n hx hb zd_M_arrivals_75 rfl (lv_at hl 1 rfl) ?_
                refine pw_Vv (bytes := zb_M_arrive) (maxL := 8) (ret := none) (As := [.int (nI c1), .int (nI b), .int (nI a)]) (rest := []) ⟨hx, hb, hml, hown, hT⟩ (c_M_arrive l D cA ad fl fr T S3 hflr okS3 c1 (nI b) (nI a) (by omega) (vp_in_nI (by omega) (by decide)) (vp_in_nI (by omega) (by decide))) (cwV 3 hT (fb_gV zi_585 zi_587 zs_M_arrive zi_5 zc_M_arrive) rfl rfl rfl (by decide +kernel) ⟨Nat.le_of_ble_eq_true rfl, Nat.le_of_ble_eq_true rfl⟩) hK hP hD hS (fb_recv hK hP (fb_memM (k := 0) rfl) rfl rfl) rfl hl.1 rfl (lv_room (Nat.le_of_ble_eq_true rfl)) zd_M_arrivals_76 ⟨Nat.zero_le _, Nat.zero_le _⟩ (fun s5 H locs hp hP hD hS => ?_)
                obtain ⟨hs, hok9⟩ := hp
                have es5 : s5 = mf_arrive fr c1 (nI b) (nI a) S3 := hs
                have oks5 : fb_okM fl fr T s5 := hok9
                refine lv_iinc (k := 3) (v := nI (c1 + 1)) (lv' := [(3, .int (nI (c1 + 1))), (0, .ref (ad 0 0)), (1, .int (nI a)), (2, .int (nI b))]) hx hb zd_M_arrivals_79 hl rfl (nI_succ _).symm (by decide) rfl (fun ls hl => ?_)
                refine lv_goto (tgt := 18) hx hb zd_M_arrivals_82 (by decide) ?_
                exact ihc1 _ _ _ ⟨s5, ((show s5 = mf_arrK fr (nI b) (nI a) c1 S3 from by subst es5; first | (simp only [mf_arrK, if_pos h1b, if_pos h2, if_pos h3, if_pos h4b]; done) | rfl).trans (congrArg (mf_arrK fr (nI b) (nI a) c1) hIc1)), oks5, (lv_sub hl [1, 2, 3, 0] rfl), hP, hD, hS⟩
      · skip
        intro H locs ls hI
        obtain ⟨S3, hIc1, okS3, hl, hP, hD, hS⟩ := hI
        refine lv_iload_n hx hb zd_M_arrivals_18 rfl (lv_at hl 3 rfl) ?_
        refine lv_aload_n hx hb zd_M_arrivals_19 rfl (lv_at hl 0 rfl) ?_
        refine pw_get (C := "PausedFabricModel") (T := zT_M) (N := 28) hx hb hT zin_M hown hK hP (fb_memM (k := 0) rfl) rfl rfl 15 (by decide) (hT _ zi_451) (fun _ h9 => h9) rfl zd_M_arrivals_20 ?_
        refine lv_icmp_ge (tgt := 85) hx hb zd_M_arrivals_23 (by decide) (fun _ => ?_) (fun h9 => absurd (fb_lle (okS3 15 0 rfl) (by omega)) h9)
        refine lv_iinc (k := 2) (v := nI (b + 1)) (lv' := [(2, .int (nI (b + 1))), (0, .ref (ad 0 0)), (1, .int (nI a)), (3, .int (nI fr))]) hx hb zd_M_arrivals_85 hl rfl (nI_succ _).symm (by decide) rfl (fun ls hl => ?_)
        refine lv_goto (tgt := 10) hx hb zd_M_arrivals_88 (by decide) ?_
        exact ihb _ _ _ ⟨S3, ((show S3 = mf_arrU fr a b S2 from by subst hIc1; rfl).trans (congrArg (mf_arrU fr a b) hIb)), okS3, (lv_sub hl [1, 2, 0] rfl), hP, hD, hS⟩
      · skip
        exact ⟨S2, rfl, okS2, (lv_sub hl [1, 2, 3, 0] rfl), hP, hD, hS⟩
    · skip
      intro H locs ls hI
      obtain ⟨S2, hIb, okS2, hl, hP, hD, hS⟩ := hI
      refine lv_iload_n hx hb zd_M_arrivals_10 rfl (lv_at hl 2 rfl) ?_
      refine lv_bipush (v := 14) hx hb zd_M_arrivals_11 (by decide) ?_
      refine lv_icmp_ge (tgt := 91) hx hb zd_M_arrivals_13 (by decide) (fun _ => ?_) (fun h9 => absurd (fb_lle (by decide) (by omega)) h9)
      refine lv_iinc (k := 1) (v := nI (a + 1)) (lv' := [(1, .int (nI (a + 1))), (0, .ref (ad 0 0)), (2, .int (nI 14))]) hx hb zd_M_arrivals_91 hl rfl (nI_succ _).symm (by decide) rfl (fun ls hl => ?_)
      refine lv_goto (tgt := 2) hx hb zd_M_arrivals_94 (by decide) ?_
      exact iha _ _ _ ⟨S2, ((show S2 = mf_arrV fr a S1 from by subst hIb; rfl).trans (congrArg (mf_arrV fr a) hIa)), okS2, (lv_sub hl [1, 0] rfl), hP, hD, hS⟩
    · skip
      exact ⟨S1, rfl, okS1, (lv_sub hl [1, 2, 0] rfl), hP, hD, hS⟩
  · skip
    intro H locs ls hI
    obtain ⟨S1, hIa, okS1, hl, hP, hD, hS⟩ := hI
    refine lv_iload_n hx hb zd_M_arrivals_2 rfl (lv_at hl 1 rfl) ?_
    refine lv_bipush (v := 14) hx hb zd_M_arrivals_3 (by decide) ?_
    refine lv_icmp_ge (tgt := 97) hx hb zd_M_arrivals_5 (by decide) (fun _ => ?_) (fun h9 => absurd (fb_lle (by decide) (by omega)) h9)
    exact W.vret hx hb hr (fun t ht hW => ⟨⟨S1, rfl, ⟨(by subst hIa; simp only [mf_arrivals, fb_b_t, fb_b_f]), okS1⟩, by rw [ht]; exact hP, va_K.moved hW.alike hK, hD⟩, hS.F ht⟩) hS.2.2 zd_M_arrivals_97
  · skip
    exact ⟨st, rfl, hok, (lv_sub hl [1, 0] rfl), hP, hD, hS⟩
