/-! contracts (by program) -/
set_option maxHeartbeats 4000000 in
set_option maxRecDepth 100000 in
theorem c_M_tick (l : Launch) (D : va_G) (cA : Nat → ClassId) (ad : Nat → Nat → Nat) (fl fr T : Nat) (st : fb_S) (hflr : fl ≤ 12 ∧ fr ≤ 100 ∧ T ≤ 30000) (hok : fb_okM fl fr T st) (n : Int32) (htk : T + 20 ≤ 30000) : fb_Mi l zy_M_tick (zw_M_tick :: lw_gd) { frames := 6, cells := 0, slots := 0, locals := 151 } (fb_cM cA) D fb_cl (fb_tys cA) ad fb_LM st [.ref (ad 0 0), .int n] (fun rr st1 => rr = mf_tickA fl fr n st ∧ st1 = mf_tickS fl fr n st ∧ fb_okM fl fr (mf_T T n) st1) := by
  have hfl : fl ≤ 12 := hflr.1
  have hfr : fr ≤ 100 := hflr.2.1
  have hTb : T ≤ 30000 := hflr.2.2
  intro sz
  refine Met.ofW (cc := zb_M_tick) (maxL := 5) (ret := (some .int)) (by decide) rfl ?_
  intro p e s m args below meth c s₁ B hml hv
  obtain ⟨rfl, hsz, hP, hK, hD0⟩ := hv
  have hx := B.exec
  have hb := B.bytes
  have hr := B.returns
  have hts := atoms_spec (ws := zw_M_tick :: lw_gd) B.pre
  have hT : ∀ w ∈ lw_gd, w.before _ s = true := fun w h => hts w (List.mem_cons_of_mem _ h)
  have hown : s.vm.findClass "PausedFabricModel" = some m.cls := findClass_of_methodNamed B.named
  have hlocks := B.notSynchronized
  subst hsz
  have hD := fb_D_self (sz := s.heap.size) hD0
  have hS : va_S (fb_A ad fb_LM s.heap.size) s.heap s.heap [] := va_S.rf
  have hl := lv_entry ([.ref (ad 0 0), .int n]) (n := 5) (Nat.le_of_ble_eq_true rfl)
  rw [lg_entry_eq]
  generalize (lg_sl ([.ref (ad 0 0), .int n]) ++ List.replicate (5 - (lg_sl ([.ref (ad 0 0), .int n])).length) Slot.unset).toArray = ls at hl ⊢
  have hl : lv_has ls 5 [(0, .ref (ad 0 0)), (1, .int n)] := hl
  refine lv_iload_n hx hb zd_M_tick_0 rfl (lv_at hl 1 rfl) ?_
  refine lv_iconst (v := 1) hx hb zd_M_tick_1 (by decide) ?_
  refine lv_icmp_lt (tgt := 11) hx hb zd_M_tick_2 (by decide) (fun h1 => ?_) (fun h1 => ?_)
  · skip
    refine lv_iconst (v := (-1)) hx hb zd_M_tick_11 (by decide) ?_
    exact W.iret (v := (-1)) hx hb hr (fun t ht hW => ⟨⟨(-1), st, rfl, ⟨(by simp only [mf_tickA, mf_tickS, if_pos h1, fb_b_t, fb_b_f]), (by simp only [mf_tickA, mf_tickS, if_pos h1, fb_b_t, fb_b_f]), (by simp only [mf_T, if_pos h1]; exact hok)⟩, by rw [ht]; exact hP, va_K.moved hW.alike hK, hD⟩, hS.F ht⟩) hS.2.2 zd_M_tick_12
  · skip
    refine lv_iload_n hx hb zd_M_tick_5 rfl (lv_at hl 1 rfl) ?_
    refine lv_bipush (v := 20) hx hb zd_M_tick_6 (by decide) ?_
    refine lv_icmp_le (tgt := 13) hx hb zd_M_tick_8 (by decide) (fun h2 => ?_) (fun h2 => ?_)
    · skip
      obtain ⟨t1, ht1, ht2⟩ := fb_to20 h1 h2
      have hl : lv_has ls 5 [(0, .ref (ad 0 0)), (1, .int (nI t1))] := ht2 ▸ hl
      have ht3 : fb_n n = t1 := ht2 ▸ nI_clamp (by omega)
      refine lv_aload_n hx hb zd_M_tick_13 rfl (lv_at hl 0 rfl) ?_
      refine pw_Vi (bytes := zb_M_arrived) (maxL := 3) (ret := (some .int)) (As := []) (rest := []) ⟨hx, hb, hml, hown, hT⟩ (c_M_arrived l D cA ad fl fr T st hflr hok ) (cwV 0 hT (fb_gV zi_546 zi_548 zs_M_arrived zi_5 zc_M_arrived) rfl rfl rfl (by decide +kernel) ⟨Nat.le_of_ble_eq_true rfl, Nat.le_of_ble_eq_true rfl⟩) hK hP hD hS (fb_recv hK hP (fb_memM (k := 0) rfl) rfl rfl) rfl hl.1 rfl (lv_room (Nat.le_of_ble_eq_true rfl)) zd_M_tick_14 ⟨Nat.zero_le _, Nat.zero_le _⟩ (fun rx sx H locs hp hP hD hS => ?_)
      obtain ⟨hr9, hs, hok9⟩ := hp
      rw [hr9]
      rw [hs] at hP hD
      refine lv_istore_n (lv' := [(2, .int (mf_arrived st fr)), (0, .ref (ad 0 0)), (1, .int (nI t1))]) hx hb zd_M_tick_17 rfl hl (by decide) rfl (fun ls hl => ?_)
      refine lv_iconst (v := 0) hx hb zd_M_tick_18 (by decide) ?_
      refine lv_istore_n (lv' := [(3, .int 0), (2, .int (mf_arrived st fr)), (0, .ref (ad 0 0)), (1, .int (nI t1))]) hx hb zd_M_tick_19 rfl hl (by decide) rfl (fun ls hl => ?_)
      refine pw_loop (n := t1) (Inv := fun (a : Nat) (H : Heap) (locs : List Loc) (ls : Array Slot) => ∃ (S1 : fb_S), (S1 = mf_ticks fl fr a st) ∧ fb_okM fl fr (T + a) S1 ∧ lv_has ls 5 [(0, .ref (ad 0 0)), (1, .int (nI t1)), (2, .int (mf_arrived st fr)), (3, .int (nI a))] ∧ va_P D fb_cl (fb_wl (fb_cM cA) ad S1 fb_LM) H ∧ va_D (fb_A ad fb_LM s.heap.size) (fb_wl (fb_cM cA) ad S1 fb_LM) ∧ va_S (fb_A ad fb_LM s.heap.size) s.heap H locs) ?_ ?_ ?_
      · skip
        intro a hia H locs ls hI iha
        obtain ⟨S1, hIa, okS1, hl, hP, hD, hS⟩ := hI
        refine lv_iload_n hx hb zd_M_tick_20 rfl (lv_at hl 3 rfl) ?_
        refine lv_iload_n hx hb zd_M_tick_21 rfl (lv_at hl 1 rfl) ?_
        refine lv_icmp_ge (tgt := 180) hx hb zd_M_tick_22 (by decide) (fun h9 => absurd h9 (fb_lge rfl hia (by omega))) (fun _ => ?_)
        refine lv_aload_n hx hb zd_M_tick_25 rfl (lv_at hl 0 rfl) ?_
        refine lv_aload_n hx hb zd_M_tick_26 rfl (lv_at hl 0 rfl) ?_
        refine pw_get (C := "PausedFabricModel") (T := zT_M) (N := 28) hx hb hT zin_M hown hK hP (fb_memM (k := 0) rfl) rfl rfl 4 (by decide) (hT _ zi_440) (fun _ h9 => h9) rfl zd_M_tick_27 ?_
        refine lv_iconst (v := 1) hx hb zd_M_tick_30 (by decide) ?_
        refine lv_iadd hx hb zd_M_tick_31 ?_
        refine pw_put (C := "PausedFabricModel") (T := zT_M) (N := 28) (ty := .int) (v := .int ((S1 4 0) + 1)) hx hb hT zin_M zt_M ztok_M znm_M hown hK hP hD hS (fb_memM (k := 0) rfl) rfl rfl 4 (by decide) (hT _ zi_440) (fun _ h9 => h9) rfl (by decide +kernel) rfl rfl (Nat.le_of_ble_eq_true rfl) (fb_up S1 4 0 ((S1 4 0) + 1)) (ps_M4 _ _) (fb_hoM _ 4 _ _ owM_4) zd_M_tick_32 (fun H locs hP hD hS => ?_)
        obtain ⟨s3, es3⟩ : ∃ z, z = fb_up S1 4 0 ((S1 4 0) + 1) := ⟨_, rfl⟩
        have oks3 : fb_okM fl fr (T + a + 1) s3 := es3 ▸ (fb_okM_T okS1)
        rw [← es3] at hP hD
        refine lv_aload_n hx hb zd_M_tick_35 rfl (lv_at hl 0 rfl) ?_
        refine pw_Vv (bytes := zb_M_endSending) (maxL := 5) (ret := none) (As := []) (rest := []) ⟨hx, hb, hml, hown, hT⟩ (c_M_endSending l D cA ad fl fr (T + a + 1) s3 ⟨hfl, hfr, by omega⟩ oks3 ) (cwV 0 hT (fb_gV zi_550 zi_552 zs_M_endSending zi_5 zc_M_endSending) rfl rfl rfl (by decide +kernel) ⟨Nat.le_of_ble_eq_true rfl, Nat.le_of_ble_eq_true rfl⟩) hK hP hD hS (fb_recv hK hP (fb_memM (k := 0) rfl) rfl rfl) rfl hl.1 rfl (lv_room (Nat.le_of_ble_eq_true rfl)) zd_M_tick_36 ⟨Nat.zero_le _, Nat.zero_le _⟩ (fun s4 H locs hp hP hD hS => ?_)
        obtain ⟨hs, hok9⟩ := hp
        have es4 : s4 = fb_it (mf_endOne fr) fr s3 := hs
        have oks4 : fb_okM fl fr (T + a + 1) s4 := hok9
        refine lv_iconst (v := 0) hx hb zd_M_tick_39 (by decide) ?_
        refine lv_istore (lv' := [(4, .int 0), (0, .ref (ad 0 0)), (1, .int (nI t1)), (2, .int (mf_arrived st fr)), (3, .int (nI a))]) hx hb zd_M_tick_40 hl (by decide) rfl (fun ls hl => ?_)
        refine pw_loop (n := fl) (Inv := fun (b : Nat) (H : Heap) (locs : List Loc) (ls : Array Slot) => ∃ (S2 : fb_S), (S2 = fb_it (mf_slow fr) b s4) ∧ fb_okM fl fr (T + a + 1) S2 ∧ lv_has ls 5 [(0, .ref (ad 0 0)), (1, .int (nI t1)), (2, .int (mf_arrived st fr)), (3, .int (nI a)), (4, .int (nI b))] ∧ va_P D fb_cl (fb_wl (fb_cM cA) ad S2 fb_LM) H ∧ va_D (fb_A ad fb_LM s.heap.size) (fb_wl (fb_cM cA) ad S2 fb_LM) ∧ va_S (fb_A ad fb_LM s.heap.size) s.heap H locs) ?_ ?_ ?_
        · skip
          intro b hib H locs ls hI ihb
          obtain ⟨S2, hIb, okS2, hl, hP, hD, hS⟩ := hI
          refine lv_iload hx hb zd_M_tick_42 (lv_at hl 4 rfl) ?_
          refine lv_aload_n hx hb zd_M_tick_44 rfl (lv_at hl 0 rfl) ?_
          refine pw_get (C := "PausedFabricModel") (T := zT_M) (N := 28) hx hb hT zin_M hown hK hP (fb_memM (k := 0) rfl) rfl rfl 6 (by decide) (hT _ zi_442) (fun _ h9 => h9) rfl zd_M_tick_45 ?_
          refine lv_icmp_ge (tgt := 63) hx hb zd_M_tick_48 (by decide) (fun h9 => absurd h9 (fb_lge (okS2 6 0 rfl) hib (by omega))) (fun _ => ?_)
          refine lv_aload_n hx hb zd_M_tick_51 rfl (lv_at hl 0 rfl) ?_
          refine lv_iload hx hb zd_M_tick_52 (lv_at hl 4 rfl) ?_
          refine pw_Vv (bytes := zb_M_slow) (maxL := 3) (ret := none) (As := [.int (nI b)]) (rest := []) ⟨hx, hb, hml, hown, hT⟩ (c_M_slow l D cA ad fl fr (T + a + 1) S2 ⟨hfl, hfr, by omega⟩ okS2 b (by omega)) (cwV 1 hT (fb_gV zi_566 zi_568 zs_M_slow zi_5 zc_M_slow) rfl rfl rfl (by decide +kernel) ⟨Nat.le_of_ble_eq_true rfl, Nat.le_of_ble_eq_true rfl⟩) hK hP hD hS (fb_recv hK hP (fb_memM (k := 0) rfl) rfl rfl) rfl hl.1 rfl (lv_room (Nat.le_of_ble_eq_true rfl)) zd_M_tick_54 ⟨Nat.zero_le _, Nat.zero_le _⟩ (fun s5 H locs hp hP hD hS => ?_)
          obtain ⟨hs, hok9⟩ := hp
          have es5 : s5 = mf_slow fr b S2 := hs
          have oks5 : fb_okM fl fr (T + a + 1) s5 := hok9
          refine lv_iinc (k := 4) (v := nI (b + 1)) (lv' := [(4, .int (nI (b + 1))), (0, .ref (ad 0 0)), (1, .int (nI t1)), (2, .int (mf_arrived st fr)), (3, .int (nI a))]) hx hb zd_M_tick_57 hl rfl (nI_succ _).symm (by decide) rfl (fun ls hl => ?_)
          refine lv_goto (tgt := 42) hx hb zd_M_tick_60 (by decide) ?_
          exact ihb _ _ _ ⟨s5, ((show s5 = mf_slow fr b S2 from by subst es5; first | (simp only [mf_slow, if_neg h1, if_pos h2, ht3]; done) | rfl).trans (congrArg (mf_slow fr b) hIb)), oks5, (lv_sub hl [1, 2, 3, 4, 0] rfl), hP, hD, hS⟩
        · skip
          intro H locs ls hI
          obtain ⟨S2, hIb, okS2, hl, hP, hD, hS⟩ := hI
          refine lv_iload hx hb zd_M_tick_42 (lv_at hl 4 rfl) ?_
          refine lv_aload_n hx hb zd_M_tick_44 rfl (lv_at hl 0 rfl) ?_
          refine pw_get (C := "PausedFabricModel") (T := zT_M) (N := 28) hx hb hT zin_M hown hK hP (fb_memM (k := 0) rfl) rfl rfl 6 (by decide) (hT _ zi_442) (fun _ h9 => h9) rfl zd_M_tick_45 ?_
          refine lv_icmp_ge (tgt := 63) hx hb zd_M_tick_48 (by decide) (fun _ => ?_) (fun h9 => absurd (fb_lle (okS2 6 0 rfl) (by omega)) h9)
          refine lv_aload_n hx hb zd_M_tick_63 rfl (lv_at hl 0 rfl) ?_
          refine pw_Vv (bytes := zb_M_arrivals) (maxL := 4) (ret := none) (As := []) (rest := []) ⟨hx, hb, hml, hown, hT⟩ (c_M_arrivals l D cA ad fl fr (T + a + 1) S2 ⟨hfl, hfr, by omega⟩ okS2 ) (cwV 0 hT (fb_gV zi_574 zi_576 zs_M_arrivals zi_5 zc_M_arrivals) rfl rfl rfl (by decide +kernel) ⟨Nat.le_of_ble_eq_true rfl, Nat.le_of_ble_eq_true rfl⟩) hK hP hD hS (fb_recv hK hP (fb_memM (k := 0) rfl) rfl rfl) rfl hl.1 rfl (lv_room (Nat.le_of_ble_eq_true rfl)) zd_M_tick_64 ⟨Nat.zero_le _, Nat.zero_le _⟩ (fun s6 H locs hp hP hD hS => ?_)
          obtain ⟨hs, hok9⟩ := hp
          have es6 : s6 = mf_arrivals fr S2 := hs
          have oks6 : fb_okM fl fr (T + a + 1) s6 := hok9
          refine lv_iconst (v := 0) hx hb zd_M_tick_67 (by decide) ?_
          refine lv_istore (lv' := [(4, .int 0), (0, .ref (ad 0 0)), (1, .int (nI t1)), (2, .int (mf_arrived st fr)), (3, .int (nI a))]) hx hb zd_M_tick_68 hl (by decide) rfl (fun ls hl => ?_)
          refine pw_loop (n := 196) (Inv := fun (c1 : Nat) (H : Heap) (locs : List Loc) (ls : Array Slot) => ∃ (S3 : fb_S), (S3 = fb_it (mf_ch1 fr) c1 s6) ∧ fb_okM fl fr (T + a + 1) S3 ∧ lv_has ls 5 [(0, .ref (ad 0 0)), (1, .int (nI t1)), (2, .int (mf_arrived st fr)), (3, .int (nI a)), (4, .int (nI c1))] ∧ va_P D fb_cl (fb_wl (fb_cM cA) ad S3 fb_LM) H ∧ va_D (fb_A ad fb_LM s.heap.size) (fb_wl (fb_cM cA) ad S3 fb_LM) ∧ va_S (fb_A ad fb_LM s.heap.size) s.heap H locs) ?_ ?_ ?_
          · skip
            intro c1 hic1 H locs ls hI ihc1
            obtain ⟨S3, hIc1, okS3, hl, hP, hD, hS⟩ := hI
            refine lv_iload hx hb zd_M_tick_70 (lv_at hl 4 rfl) ?_
            refine lv_sipush (v := 196) hx hb zd_M_tick_72 (by decide) ?_
            refine lv_icmp_ge (tgt := 131) hx hb zd_M_tick_75 (by decide) (fun h9 => absurd h9 (fb_lge (by decide) hic1 (by omega))) (fun _ => ?_)
            refine lv_iload hx hb zd_M_tick_78 (lv_at hl 4 rfl) ?_
            refine lv_bipush (v := 14) hx hb zd_M_tick_80 (by decide) ?_
            refine lv_idiv hx hb zd_M_tick_82 (by decide) ?_
            refine lv_iload hx hb zd_M_tick_83 (lv_at hl 4 rfl) ?_
            refine lv_bipush (v := 14) hx hb zd_M_tick_85 (by decide) ?_
            refine lv_irem hx hb zd_M_tick_87 (by decide) ?_
            refine pw_Si (bytes := zb_M_isPort) (maxL := 4) (ret := (some .boolean)) (As := [.int ((nI c1) / 14), .int ((nI c1) - (nI c1) / 14 * 14)]) (rest := []) ⟨hx, hb, hml, hown, hT⟩ (c_M_isPort l D cA (fb_cM cA) ad fb_LM S3 ((nI c1) / 14) ((nI c1) - (nI c1) / 14 * 14)) (cwS 2 hT (fb_gS zi_578 zi_579 zi_5 zc_M_isPort) rfl rfl rfl (by decide +kernel) ⟨Nat.le_of_ble_eq_true rfl, Nat.le_of_ble_eq_true rfl⟩) hK hP hD hS rfl hl.1 rfl (lv_room (Nat.le_of_ble_eq_true rfl)) zd_M_tick_88 ⟨Nat.zero_le _, Nat.zero_le _⟩ (fun rx sx H locs hp hP hD hS => ?_)
            obtain ⟨hr9, hs, hok9⟩ := hp
            rw [hr9]
            rw [hs] at hP hD
            refine lv_if_eq (tgt := 125) hx hb zd_M_tick_91 (by decide) (fun h7 => ?_) (fun h7 => ?_)
            · skip
              have h7b := fb_b0 h7
              refine lv_iinc (k := 4) (v := nI (c1 + 1)) (lv' := [(4, .int (nI (c1 + 1))), (0, .ref (ad 0 0)), (1, .int (nI t1)), (2, .int (mf_arrived st fr)), (3, .int (nI a))]) hx hb zd_M_tick_125 hl rfl (nI_succ _).symm (by decide) rfl (fun ls hl => ?_)
              refine lv_goto (tgt := 70) hx hb zd_M_tick_128 (by decide) ?_
              exact ihc1 _ _ _ ⟨S3, ((show S3 = mf_ch1 fr c1 S3 from by first | (simp only [mf_ch1, if_neg h1, if_pos h2, ht3, if_neg h7b]; done) | rfl).trans (congrArg (mf_ch1 fr c1) hIc1)), okS3, (lv_sub hl [1, 2, 3, 4, 0] rfl), hP, hD, hS⟩
            · skip
              have h7b := fb_b1 h7
              refine lv_aload_n hx hb zd_M_tick_94 rfl (lv_at hl 0 rfl) ?_
              refine lv_iload hx hb zd_M_tick_95 (lv_at hl 4 rfl) ?_
              refine lv_bipush (v := 14) hx hb zd_M_tick_97 (by decide) ?_
              refine lv_idiv hx hb zd_M_tick_99 (by decide) ?_
              refine lv_iload hx hb zd_M_tick_100 (lv_at hl 4 rfl) ?_
              refine lv_bipush (v := 14) hx hb zd_M_tick_102 (by decide) ?_
              refine lv_irem hx hb zd_M_tick_104 (by decide) ?_
              refine pw_Vi (bytes := zb_M_sends) (maxL := 5) (ret := (some .boolean)) (As := [.int ((nI c1) / 14), .int ((nI c1) - (nI c1) / 14 * 14)]) (rest := []) ⟨hx, hb, hml, hown, hT⟩ (c_M_sends l D cA ad fl fr (T + a + 1) S3 ⟨hfl, hfr, by omega⟩ okS3 ((nI c1) / 14) ((nI c1) - (nI c1) / 14 * 14)) (cwV 2 hT (fb_gV zi_593 zi_595 zs_M_sends zi_5 zc_M_sends) rfl rfl rfl (by decide +kernel) ⟨Nat.le_of_ble_eq_true rfl, Nat.le_of_ble_eq_true rfl⟩) hK hP hD hS (fb_recv hK hP (fb_memM (k := 0) rfl) rfl rfl) rfl hl.1 rfl (lv_room (Nat.le_of_ble_eq_true rfl)) zd_M_tick_105 ⟨Nat.zero_le _, Nat.zero_le _⟩ (fun rx sx H locs hp hP hD hS => ?_)
              obtain ⟨hr9, hs, hok9⟩ := hp
              rw [hr9]
              rw [hs] at hP hD
              refine lv_if_ne (tgt := 125) hx hb zd_M_tick_108 (by decide) (fun h8 => ?_) (fun h8 => ?_)
              · skip
                have h8b := fb_b1 h8
                refine lv_iinc (k := 4) (v := nI (c1 + 1)) (lv' := [(4, .int (nI (c1 + 1))), (0, .ref (ad 0 0)), (1, .int (nI t1)), (2, .int (mf_arrived st fr)), (3, .int (nI a))]) hx hb zd_M_tick_125 hl rfl (nI_succ _).symm (by decide) rfl (fun ls hl => ?_)
                refine lv_goto (tgt := 70) hx hb zd_M_tick_128 (by decide) ?_
                exact ihc1 _ _ _ ⟨S3, ((show S3 = mf_ch1 fr c1 S3 from by first | (simp only [mf_ch1, if_neg h1, if_pos h2, ht3, if_pos h7b, if_pos h8b]; done) | rfl).trans (congrArg (mf_ch1 fr c1) hIc1)), okS3, (lv_sub hl [1, 2, 3, 4, 0] rfl), hP, hD, hS⟩
              · skip
                have h8b := fb_b0 h8
                refine lv_aload_n hx hb zd_M_tick_111 rfl (lv_at hl 0 rfl) ?_
                refine lv_iload hx hb zd_M_tick_112 (lv_at hl 4 rfl) ?_
                refine lv_bipush (v := 14) hx hb zd_M_tick_114 (by decide) ?_
                refine lv_idiv hx hb zd_M_tick_116 (by decide) ?_
                refine lv_iload hx hb zd_M_tick_117 (lv_at hl 4 rfl) ?_
                refine lv_bipush (v := 14) hx hb zd_M_tick_119 (by decide) ?_
                refine lv_irem hx hb zd_M_tick_121 (by decide) ?_
                refine pw_Vv (bytes := zb_M_choose) (maxL := 13) (ret := none) (As := [.int ((nI c1) / 14), .int ((nI c1) - (nI c1) / 14 * 14)]) (rest := []) ⟨hx, hb, hml, hown, hT⟩ (c_M_choose l D cA ad fl fr (T + a + 1) S3 ⟨hfl, hfr, by omega⟩ okS3 ((nI c1) / 14) ((nI c1) - (nI c1) / 14 * 14) (fb_d14 (by omega)) (fb_r14 (by omega))) (cwV 2 hT (fb_gV zi_597 zi_599 zs_M_choose zi_5 zc_M_choose) rfl rfl rfl (by decide +kernel) ⟨Nat.le_of_ble_eq_true rfl, Nat.le_of_ble_eq_true rfl⟩) hK hP hD hS (fb_recv hK hP (fb_memM (k := 0) rfl) rfl rfl) rfl hl.1 rfl (lv_room (Nat.le_of_ble_eq_true rfl)) zd_M_tick_122 ⟨Nat.zero_le _, Nat.zero_le _⟩ (fun s9 H locs hp hP hD hS => ?_)
                obtain ⟨hs, hok9⟩ := hp
                have es9 : s9 = mf_choose fr ((nI c1) / 14) ((nI c1) - (nI c1) / 14 * 14) S3 := hs
                have oks9 : fb_okM fl fr (T + a + 1) s9 := hok9
                refine lv_iinc (k := 4) (v := nI (c1 + 1)) (lv' := [(4, .int (nI (c1 + 1))), (0, .ref (ad 0 0)), (1, .int (nI t1)), (2, .int (mf_arrived st fr)), (3, .int (nI a))]) hx hb zd_M_tick_125 hl rfl (nI_succ _).symm (by decide) rfl (fun ls hl => ?_)
                refine lv_goto (tgt := 70) hx hb zd_M_tick_128 (by decide) ?_
                exact ihc1 _ _ _ ⟨s9, ((show s9 = mf_ch1 fr c1 S3 from by subst es9; first | (simp only [mf_ch1, if_neg h1, if_pos h2, ht3, if_pos h7b, if_neg h8b]; done) | rfl).trans (congrArg (mf_ch1 fr c1) hIc1)), oks9, (lv_sub hl [1, 2, 3, 4, 0] rfl), hP, hD, hS⟩
          · skip
            intro H locs ls hI
            obtain ⟨S3, hIc1, okS3, hl, hP, hD, hS⟩ := hI
            refine lv_iload hx hb zd_M_tick_70 (lv_at hl 4 rfl) ?_
            refine lv_sipush (v := 196) hx hb zd_M_tick_72 (by decide) ?_
            refine lv_icmp_ge (tgt := 131) hx hb zd_M_tick_75 (by decide) (fun _ => ?_) (fun h9 => absurd (fb_lle (by decide) (by omega)) h9)
            refine lv_iconst (v := 0) hx hb zd_M_tick_131 (by decide) ?_
            refine lv_istore (lv' := [(4, .int 0), (0, .ref (ad 0 0)), (1, .int (nI t1)), (2, .int (mf_arrived st fr)), (3, .int (nI a))]) hx hb zd_M_tick_132 hl (by decide) rfl (fun ls hl => ?_)
            refine pw_loop (n := 196) (Inv := fun (d1 : Nat) (H : Heap) (locs : List Loc) (ls : Array Slot) => ∃ (S4 : fb_S), (S4 = fb_it mf_rec1 d1 S3) ∧ fb_okM fl fr (T + a + 1) S4 ∧ lv_has ls 5 [(0, .ref (ad 0 0)), (1, .int (nI t1)), (2, .int (mf_arrived st fr)), (3, .int (nI a)), (4, .int (nI d1))] ∧ va_P D fb_cl (fb_wl (fb_cM cA) ad S4 fb_LM) H ∧ va_D (fb_A ad fb_LM s.heap.size) (fb_wl (fb_cM cA) ad S4 fb_LM) ∧ va_S (fb_A ad fb_LM s.heap.size) s.heap H locs) ?_ ?_ ?_
            · skip
              intro d1 hid1 H locs ls hI ihd1
              obtain ⟨S4, hId1, okS4, hl, hP, hD, hS⟩ := hI
              refine lv_iload hx hb zd_M_tick_134 (lv_at hl 4 rfl) ?_
              refine lv_sipush (v := 196) hx hb zd_M_tick_136 (by decide) ?_
              refine lv_icmp_ge (tgt := 174) hx hb zd_M_tick_139 (by decide) (fun h9 => absurd h9 (fb_lge (by decide) hid1 (by omega))) (fun _ => ?_)
              refine lv_aload_n hx hb zd_M_tick_142 rfl (lv_at hl 0 rfl) ?_
              refine pw_get (C := "PausedFabricModel") (T := zT_M) (N := 28) hx hb hT zin_M hown hK hP (fb_memM (k := 0) rfl) rfl rfl 27 (by decide) (hT _ zi_463) (fun _ h9 => h9) rfl zd_M_tick_143 ?_
              refine lv_aload_n hx hb zd_M_tick_146 rfl (lv_at hl 0 rfl) ?_
              refine pw_get (C := "PausedFabricModel") (T := zT_M) (N := 28) hx hb hT zin_M hown hK hP (fb_memM (k := 0) rfl) rfl rfl 4 (by decide) (hT _ zi_440) (fun _ h9 => h9) rfl zd_M_tick_147 ?_
              refine lv_bipush (v := 9) hx hb zd_M_tick_150 (by decide) ?_
              refine lv_irem hx hb zd_M_tick_152 (by decide) ?_
              refine lv_sipush (v := 196) hx hb zd_M_tick_153 (by decide) ?_
              refine lv_imul hx hb zd_M_tick_156 ?_
              refine lv_iload hx hb zd_M_tick_157 (lv_at hl 4 rfl) ?_
              refine lv_iadd hx hb zd_M_tick_159 ?_
              refine lv_aload_n hx hb zd_M_tick_160 rfl (lv_at hl 0 rfl) ?_
              refine pw_get (C := "PausedFabricModel") (T := zT_M) (N := 28) hx hb hT zin_M hown hK hP (fb_memM (k := 0) rfl) rfl rfl 26 (by decide) (hT _ zi_462) (fun _ h9 => h9) rfl zd_M_tick_161 ?_
              refine lv_iload hx hb zd_M_tick_164 (lv_at hl 4 rfl) ?_
              refine pw_zald (v := S4 26 d1) hx hb hK hP (fb_memM (k := 26) rfl) 5 rfl rfl (vp_in_nI (by omega) (by decide)) (congrArg (S4 26) (nI_clamp (by omega))) zd_M_tick_166 ?_
              refine pw_zast hx hb hK hP hD hS (fb_memM (k := 27) rfl) 5 rfl rfl (fb_rin (okS4 4 0 rfl) (by omega) (by omega)) (fb_up S4 27 (fb_n ((((S4 4 0) - (S4 4 0) / 9 * 9) * 196) + (nI d1))) (S4 26 d1)) (pz_M27 _ _ (okS4 26 _)) (fb_hoM _ 27 _ _ owM_27) zd_M_tick_167 (fun H locs hP hD hS => ?_)
              obtain ⟨s10, es10⟩ : ∃ z, z = fb_up S4 27 (fb_n ((((S4 4 0) - (S4 4 0) / 9 * 9) * 196) + (nI d1))) (S4 26 d1) := ⟨_, rfl⟩
              have oks10 : fb_okM fl fr (T + a + 1) s10 := es10 ▸ (fb_okM_up okS4 (okS4 26 _))
              rw [← es10] at hP hD
              refine lv_iinc (k := 4) (v := nI (d1 + 1)) (lv' := [(4, .int (nI (d1 + 1))), (0, .ref (ad 0 0)), (1, .int (nI t1)), (2, .int (mf_arrived st fr)), (3, .int (nI a))]) hx hb zd_M_tick_168 hl rfl (nI_succ _).symm (by decide) rfl (fun ls hl => ?_)
              refine lv_goto (tgt := 134) hx hb zd_M_tick_171 (by decide) ?_
              exact ihd1 _ _ _ ⟨s10, ((show s10 = mf_rec1 d1 S4 from by subst es10; first | (simp only [mf_rec1, if_neg h1, if_pos h2, ht3]; done) | rfl).trans (congrArg (mf_rec1 d1) hId1)), oks10, (lv_sub hl [1, 2, 3, 4, 0] rfl), hP, hD, hS⟩
            · skip
              intro H locs ls hI
              obtain ⟨S4, hId1, okS4, hl, hP, hD, hS⟩ := hI
              refine lv_iload hx hb zd_M_tick_134 (lv_at hl 4 rfl) ?_
              refine lv_sipush (v := 196) hx hb zd_M_tick_136 (by decide) ?_
              refine lv_icmp_ge (tgt := 174) hx hb zd_M_tick_139 (by decide) (fun _ => ?_) (fun h9 => absurd (fb_lle (by decide) (by omega)) h9)
              refine lv_iinc (k := 3) (v := nI (a + 1)) (lv' := [(3, .int (nI (a + 1))), (0, .ref (ad 0 0)), (1, .int (nI t1)), (2, .int (mf_arrived st fr)), (4, .int (nI 196))]) hx hb zd_M_tick_174 hl rfl (nI_succ _).symm (by decide) rfl (fun ls hl => ?_)
              refine lv_goto (tgt := 20) hx hb zd_M_tick_177 (by decide) ?_
              exact iha _ _ _ ⟨S4, ((show S4 = mf_tick1 fl fr S1 from by subst hId1 hIc1 es6 hIb es4 es3; first | (simp only [mf_tick1, if_neg h1, if_pos h2, ht3]; done) | rfl).trans (congrArg (mf_tick1 fl fr) hIa)), okS4, (lv_sub hl [1, 2, 3, 0] rfl), hP, hD, hS⟩
            · skip
              exact ⟨S3, rfl, okS3, (lv_sub hl [1, 2, 3, 4, 0] rfl), hP, hD, hS⟩
          · skip
            exact ⟨s6, rfl, oks6, (lv_sub hl [1, 2, 3, 4, 0] rfl), hP, hD, hS⟩
        · skip
          exact ⟨s4, rfl, oks4, (lv_sub hl [1, 2, 3, 4, 0] rfl), hP, hD, hS⟩
      · skip
        intro H locs ls hI
        obtain ⟨S1, hIa, okS1, hl, hP, hD, hS⟩ := hI
        refine lv_iload_n hx hb zd_M_tick_20 rfl (lv_at hl 3 rfl) ?_
        refine lv_iload_n hx hb zd_M_tick_21 rfl (lv_at hl 1 rfl) ?_
        refine lv_icmp_ge (tgt := 180) hx hb zd_M_tick_22 (by decide) (fun _ => ?_) (fun h9 => absurd (fb_lle rfl (by omega)) h9)
        refine lv_aload_n hx hb zd_M_tick_180 rfl (lv_at hl 0 rfl) ?_
        refine pw_Vi (bytes := zb_M_arrived) (maxL := 3) (ret := (some .int)) (As := []) (rest := []) ⟨hx, hb, hml, hown, hT⟩ (c_M_arrived l D cA ad fl fr (T + t1) S1 ⟨hfl, hfr, by omega⟩ okS1 ) (cwV 0 hT (fb_gV zi_546 zi_548 zs_M_arrived zi_5 zc_M_arrived) rfl rfl rfl (by decide +kernel) ⟨Nat.le_of_ble_eq_true rfl, Nat.le_of_ble_eq_true rfl⟩) hK hP hD hS (fb_recv hK hP (fb_memM (k := 0) rfl) rfl rfl) rfl hl.1 rfl (lv_room (Nat.le_of_ble_eq_true rfl)) zd_M_tick_181 ⟨Nat.zero_le _, Nat.zero_le _⟩ (fun rx sx H locs hp hP hD hS => ?_)
        obtain ⟨hr9, hs, hok9⟩ := hp
        rw [hr9]
        rw [hs] at hP hD
        refine lv_iload_n hx hb zd_M_tick_184 rfl (lv_at hl 2 rfl) ?_
        refine lv_isub hx hb zd_M_tick_185 ?_
        exact W.iret (v := (mf_arrived S1 fr) - (mf_arrived st fr)) hx hb hr (fun t ht hW => ⟨⟨(mf_arrived S1 fr) - (mf_arrived st fr), S1, rfl, ⟨(by subst hIa; simp only [mf_tickA, mf_tickS, if_neg h1, if_pos h2, ht3, fb_b_t, fb_b_f]), (by subst hIa; simp only [mf_tickA, mf_tickS, if_neg h1, if_pos h2, ht3, fb_b_t, fb_b_f]), (by simp only [mf_T, if_neg h1, if_pos h2, ht3]; exact okS1)⟩, by rw [ht]; exact hP, va_K.moved hW.alike hK, hD⟩, hS.F ht⟩) hS.2.2 zd_M_tick_186
      · skip
        exact ⟨st, rfl, hok, (lv_sub hl [2, 3, 1, 0] rfl), hP, hD, hS⟩
    · skip
      refine lv_iconst (v := (-1)) hx hb zd_M_tick_11 (by decide) ?_
      exact W.iret (v := (-1)) hx hb hr (fun t ht hW => ⟨⟨(-1), st, rfl, ⟨(by simp only [mf_tickA, mf_tickS, if_neg h1, if_neg h2, fb_b_t, fb_b_f]), (by simp only [mf_tickA, mf_tickS, if_neg h1, if_neg h2, fb_b_t, fb_b_f]), (by simp only [mf_T, if_neg h1, if_neg h2]; exact hok)⟩, by rw [ht]; exact hP, va_K.moved hW.alike hK, hD⟩, hS.F ht⟩) hS.2.2 zd_M_tick_12
