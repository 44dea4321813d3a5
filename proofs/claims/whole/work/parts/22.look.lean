/-! contracts (by program) -/
set_option maxHeartbeats 4000000 in
set_option maxRecDepth 100000 in
theorem c_M_isPaused (l : Launch) (D : va_G) (cA : Nat → ClassId) (ad : Nat → Nat → Nat) (fl fr T : Nat) (st : fb_S) (hflr : fl ≤ 12 ∧ fr ≤ 100 ∧ T ≤ 30000) (hok : fb_okM fl fr T st) (u : Int32) (v : Int32) (hu : vp_in u 14) (hv : vp_in v 14) : fb_Mi l zy_M_isPaused (zw_M_isPaused :: lw_gd) { frames := 0, cells := 0, slots := 0, locals := 0 } (fb_cM cA) D fb_cl (fb_tys cA) ad fb_LM st [.ref (ad 0 0), .int u, .int v] (fun rr st1 => rr = fb_b (mf_paused st u v) ∧ st1 = st ∧ fb_okM fl fr T st1) := by
  have hfl : fl ≤ 12 := hflr.1
  have hfr : fr ≤ 100 := hflr.2.1
  have hTb : T ≤ 30000 := hflr.2.2
  intro sz
  refine Met.ofW (cc := zb_M_isPaused) (maxL := 3) (ret := (some .boolean)) (by decide) rfl ?_
  intro p e s m args below meth c s₁ B hml hv
  obtain ⟨rfl, hsz, hP, hK, hD0⟩ := hv
  have hx := B.exec
  have hb := B.bytes
  have hr := B.returns
  have hts := atoms_spec (ws := zw_M_isPaused :: lw_gd) B.pre
  have hT : ∀ w ∈ lw_gd, w.before _ s = true := fun w h => hts w (List.mem_cons_of_mem _ h)
  have hown : s.vm.findClass "PausedFabricModel" = some m.cls := findClass_of_methodNamed B.named
  have hlocks := B.notSynchronized
  subst hsz
  have hD := fb_D_self (sz := s.heap.size) hD0
  have hS : va_S (fb_A ad fb_LM s.heap.size) s.heap s.heap [] := va_S.rf
  have hl := lv_entry ([.ref (ad 0 0), .int u, .int v]) (n := 3) (Nat.le_of_ble_eq_true rfl)
  rw [lg_entry_eq]
  generalize (lg_sl ([.ref (ad 0 0), .int u, .int v]) ++ List.replicate (3 - (lg_sl ([.ref (ad 0 0), .int u, .int v])).length) Slot.unset).toArray = ls at hl ⊢
  have hl : lv_has ls 3 [(0, .ref (ad 0 0)), (1, .int u), (2, .int v)] := hl
  refine lv_aload_n hx hb zd_M_isPaused_0 rfl (lv_at hl 0 rfl) ?_
  refine pw_get (C := "PausedFabricModel") (T := zT_M) (N := 28) hx hb hT zin_M hown hK hP (fb_memM (k := 0) rfl) rfl rfl 4 (by decide) (hT _ zi_440) (fun _ h9 => h9) rfl zd_M_isPaused_1 ?_
  refine lv_aload_n hx hb zd_M_isPaused_4 rfl (lv_at hl 0 rfl) ?_
  refine pw_get (C := "PausedFabricModel") (T := zT_M) (N := 28) hx hb hT zin_M hown hK hP (fb_memM (k := 0) rfl) rfl rfl 0 (by decide) (hT _ zi_436) (fun _ h9 => h9) rfl zd_M_isPaused_5 ?_
  refine lv_icmp_le (tgt := 46) hx hb zd_M_isPaused_8 (by decide) (fun h1 => ?_) (fun h1 => ?_)
  · skip
    refine lv_iconst (v := 0) hx hb zd_M_isPaused_46 (by decide) ?_
    exact W.zret (v := 0) hx hb hr rfl (fun t ht hW => ⟨⟨0, st, rfl, ⟨(by simp only [mf_paused, mf_pidx, if_pos h1, fb_b_t, fb_b_f]), rfl, hok⟩, by rw [ht]; exact hP, va_K.moved hW.alike hK, hD⟩, hS.F ht⟩) hS.2.2 zd_M_isPaused_47
  · skip
    refine lv_aload_n hx hb zd_M_isPaused_11 rfl (lv_at hl 0 rfl) ?_
    refine pw_get (C := "PausedFabricModel") (T := zT_M) (N := 28) hx hb hT zin_M hown hK hP (fb_memM (k := 0) rfl) rfl rfl 27 (by decide) (hT _ zi_463) (fun _ h9 => h9) rfl zd_M_isPaused_12 ?_
    refine lv_aload_n hx hb zd_M_isPaused_15 rfl (lv_at hl 0 rfl) ?_
    refine pw_get (C := "PausedFabricModel") (T := zT_M) (N := 28) hx hb hT zin_M hown hK hP (fb_memM (k := 0) rfl) rfl rfl 4 (by decide) (hT _ zi_440) (fun _ h9 => h9) rfl zd_M_isPaused_16 ?_
    refine lv_aload_n hx hb zd_M_isPaused_19 rfl (lv_at hl 0 rfl) ?_
    refine pw_get (C := "PausedFabricModel") (T := zT_M) (N := 28) hx hb hT zin_M hown hK hP (fb_memM (k := 0) rfl) rfl rfl 0 (by decide) (hT _ zi_436) (fun _ h9 => h9) rfl zd_M_isPaused_20 ?_
    refine lv_isub hx hb zd_M_isPaused_23 ?_
    refine lv_bipush (v := 9) hx hb zd_M_isPaused_24 (by decide) ?_
    refine lv_irem hx hb zd_M_isPaused_26 (by decide) ?_
    refine lv_sipush (v := 196) hx hb zd_M_isPaused_27 (by decide) ?_
    refine lv_imul hx hb zd_M_isPaused_30 ?_
    refine lv_bipush (v := 14) hx hb zd_M_isPaused_31 (by decide) ?_
    refine lv_iload_n hx hb zd_M_isPaused_33 rfl (lv_at hl 1 rfl) ?_
    refine lv_imul hx hb zd_M_isPaused_34 ?_
    refine lv_iadd hx hb zd_M_isPaused_35 ?_
    refine lv_iload_n hx hb zd_M_isPaused_36 rfl (lv_at hl 2 rfl) ?_
    refine lv_iadd hx hb zd_M_isPaused_37 ?_
    refine pw_zald (v := st 27 (fb_n ((((((st 4 0) - (st 0 0)) - ((st 4 0) - (st 0 0)) / 9 * 9) * 196) + (14 * u)) + v))) hx hb hK hP (fb_memM (k := 27) rfl) 5 rfl rfl (fb_pin hfr hTb hok h1 hu hv) rfl zd_M_isPaused_38 ?_
    refine lv_if_eq (tgt := 46) hx hb zd_M_isPaused_39 (by decide) (fun h2 => ?_) (fun h2 => ?_)
    · skip
      refine lv_iconst (v := 0) hx hb zd_M_isPaused_46 (by decide) ?_
      exact W.zret (v := 0) hx hb hr rfl (fun t ht hW => ⟨⟨0, st, rfl, ⟨(by simp only [mf_paused, mf_pidx, if_neg h1, if_pos h2, fb_b_t, fb_b_f]), rfl, hok⟩, by rw [ht]; exact hP, va_K.moved hW.alike hK, hD⟩, hS.F ht⟩) hS.2.2 zd_M_isPaused_47
    · skip
      refine lv_iconst (v := 1) hx hb zd_M_isPaused_42 (by decide) ?_
      refine lv_goto (tgt := 47) hx hb zd_M_isPaused_43 (by decide) ?_
      exact W.zret (v := 1) hx hb hr rfl (fun t ht hW => ⟨⟨1, st, rfl, ⟨(by simp only [mf_paused, mf_pidx, if_neg h1, if_neg h2, fb_b_t, fb_b_f]), rfl, hok⟩, by rw [ht]; exact hP, va_K.moved hW.alike hK, hD⟩, hS.F ht⟩) hS.2.2 zd_M_isPaused_47

set_option maxHeartbeats 4000000 in
set_option maxRecDepth 100000 in
theorem c_M_queued (l : Launch) (D : va_G) (cA : Nat → ClassId) (ad : Nat → Nat → Nat) (fl fr T : Nat) (st : fb_S) (hflr : fl ≤ 12 ∧ fr ≤ 100 ∧ T ≤ 30000) (hok : fb_okM fl fr T st) (u : Int32) (v : Int32) (q : Int32) : fb_Mi l zy_M_queued (zw_M_queued :: lw_gd) { frames := 4, cells := 0, slots := 0, locals := 95 } (fb_cM cA) D fb_cl (fb_tys cA) ad fb_LM st [.ref (ad 0 0), .int u, .int v, .int q] (fun rr st1 => rr = mf_queued st fr u v q ∧ st1 = st ∧ fb_okM fl fr T st1) := by
  have hfl : fl ≤ 12 := hflr.1
  have hfr : fr ≤ 100 := hflr.2.1
  have hTb : T ≤ 30000 := hflr.2.2
  intro sz
  refine Met.ofW (cc := zb_M_queued) (maxL := 4) (ret := (some .int)) (by decide) rfl ?_
  intro p e s m args below meth c s₁ B hml hv
  obtain ⟨rfl, hsz, hP, hK, hD0⟩ := hv
  have hx := B.exec
  have hb := B.bytes
  have hr := B.returns
  have hts := atoms_spec (ws := zw_M_queued :: lw_gd) B.pre
  have hT : ∀ w ∈ lw_gd, w.before _ s = true := fun w h => hts w (List.mem_cons_of_mem _ h)
  have hown : s.vm.findClass "PausedFabricModel" = some m.cls := findClass_of_methodNamed B.named
  have hlocks := B.notSynchronized
  subst hsz
  have hD := fb_D_self (sz := s.heap.size) hD0
  have hS : va_S (fb_A ad fb_LM s.heap.size) s.heap s.heap [] := va_S.rf
  have hl := lv_entry ([.ref (ad 0 0), .int u, .int v, .int q]) (n := 4) (Nat.le_of_ble_eq_true rfl)
  rw [lg_entry_eq]
  generalize (lg_sl ([.ref (ad 0 0), .int u, .int v, .int q]) ++ List.replicate (4 - (lg_sl ([.ref (ad 0 0), .int u, .int v, .int q])).length) Slot.unset).toArray = ls at hl ⊢
  have hl : lv_has ls 4 [(0, .ref (ad 0 0)), (1, .int u), (2, .int v), (3, .int q)] := hl
  refine lv_iload_n hx hb zd_M_queued_0 rfl (lv_at hl 1 rfl) ?_
  refine lv_iload_n hx hb zd_M_queued_1 rfl (lv_at hl 2 rfl) ?_
  refine pw_Si (bytes := zb_M_isPort) (maxL := 4) (ret := (some .boolean)) (As := [.int u, .int v]) (rest := []) ⟨hx, hb, hml, hown, hT⟩ (c_M_isPort l D cA (fb_cM cA) ad fb_LM st u v) (cwS 2 hT (fb_gS zi_578 zi_579 zi_5 zc_M_isPort) rfl rfl rfl (by decide +kernel) ⟨Nat.le_of_ble_eq_true rfl, Nat.le_of_ble_eq_true rfl⟩) hK hP hD hS rfl hl.1 rfl (lv_room (Nat.le_of_ble_eq_true rfl)) zd_M_queued_2 ⟨Nat.zero_le _, Nat.zero_le _⟩ (fun rx sx H locs hp hP hD hS => ?_)
  obtain ⟨hr9, hs, hok9⟩ := hp
  rw [hr9]
  rw [hs] at hP hD
  refine lv_if_eq (tgt := 27) hx hb zd_M_queued_5 (by decide) (fun h1 => ?_) (fun h1 => ?_)
  · skip
    have h1b := fb_b0 h1
    refine lv_iconst (v := (-1)) hx hb zd_M_queued_27 (by decide) ?_
    exact W.iret (v := (-1)) hx hb hr (fun t ht hW => ⟨⟨(-1), st, rfl, ⟨(by simp only [mf_queued, if_neg h1b, fb_b_t, fb_b_f]), rfl, hok⟩, by rw [ht]; exact hP, va_K.moved hW.alike hK, hD⟩, hS.F ht⟩) hS.2.2 zd_M_queued_28
  · skip
    have h1b := fb_b1 h1
    refine lv_iload_n hx hb zd_M_queued_8 rfl (lv_at hl 3 rfl) ?_
    refine lv_if_eq (tgt := 17) hx hb zd_M_queued_9 (by decide) (fun h2 => ?_) (fun h2 => ?_)
    · skip
      refine lv_aload_n hx hb zd_M_queued_17 rfl (lv_at hl 0 rfl) ?_
      refine lv_iload_n hx hb zd_M_queued_18 rfl (lv_at hl 1 rfl) ?_
      refine lv_iload_n hx hb zd_M_queued_19 rfl (lv_at hl 2 rfl) ?_
      refine lv_iload_n hx hb zd_M_queued_20 rfl (lv_at hl 3 rfl) ?_
      refine pw_Vi (bytes := zb_M_queueLength) (maxL := 7) (ret := (some .int)) (As := [.int u, .int v, .int q]) (rest := []) ⟨hx, hb, hml, hown, hT⟩ (c_M_queueLength l D cA ad fl fr T st hflr hok u v q) (cwV 3 hT (fb_gV zi_589 zi_591 zs_M_queueLength zi_5 zc_M_queueLength) rfl rfl rfl (by decide +kernel) ⟨Nat.le_of_ble_eq_true rfl, Nat.le_of_ble_eq_true rfl⟩) hK hP hD hS (fb_recv hK hP (fb_memM (k := 0) rfl) rfl rfl) rfl hl.1 rfl (lv_room (Nat.le_of_ble_eq_true rfl)) zd_M_queued_21 ⟨Nat.zero_le _, Nat.zero_le _⟩ (fun rx sx H locs hp hP hD hS => ?_)
      obtain ⟨hr9, hs, hok9⟩ := hp
      rw [hr9]
      rw [hs] at hP hD
      refine lv_goto (tgt := 28) hx hb zd_M_queued_24 (by decide) ?_
      exact W.iret (v := mf_qlen st u v q fr) hx hb hr (fun t ht hW => ⟨⟨mf_qlen st u v q fr, st, rfl, ⟨(by simp only [mf_queued, if_pos h1b, if_pos h2, fb_b_t, fb_b_f]), rfl, hok⟩, by rw [ht]; exact hP, va_K.moved hW.alike hK, hD⟩, hS.F ht⟩) hS.2.2 zd_M_queued_28
    · skip
      refine lv_iload_n hx hb zd_M_queued_12 rfl (lv_at hl 3 rfl) ?_
      refine lv_iconst (v := 1) hx hb zd_M_queued_13 (by decide) ?_
      refine lv_icmp_ne (tgt := 27) hx hb zd_M_queued_14 (by decide) (fun h3 => ?_) (fun h3 => ?_)
      · skip
        refine lv_iconst (v := (-1)) hx hb zd_M_queued_27 (by decide) ?_
        exact W.iret (v := (-1)) hx hb hr (fun t ht hW => ⟨⟨(-1), st, rfl, ⟨(by simp only [mf_queued, if_pos h1b, if_neg h2, if_neg h3, fb_b_t, fb_b_f]), rfl, hok⟩, by rw [ht]; exact hP, va_K.moved hW.alike hK, hD⟩, hS.F ht⟩) hS.2.2 zd_M_queued_28
      · skip
        refine lv_aload_n hx hb zd_M_queued_17 rfl (lv_at hl 0 rfl) ?_
        refine lv_iload_n hx hb zd_M_queued_18 rfl (lv_at hl 1 rfl) ?_
        refine lv_iload_n hx hb zd_M_queued_19 rfl (lv_at hl 2 rfl) ?_
        refine lv_iload_n hx hb zd_M_queued_20 rfl (lv_at hl 3 rfl) ?_
        refine pw_Vi (bytes := zb_M_queueLength) (maxL := 7) (ret := (some .int)) (As := [.int u, .int v, .int q]) (rest := []) ⟨hx, hb, hml, hown, hT⟩ (c_M_queueLength l D cA ad fl fr T st hflr hok u v q) (cwV 3 hT (fb_gV zi_589 zi_591 zs_M_queueLength zi_5 zc_M_queueLength) rfl rfl rfl (by decide +kernel) ⟨Nat.le_of_ble_eq_true rfl, Nat.le_of_ble_eq_true rfl⟩) hK hP hD hS (fb_recv hK hP (fb_memM (k := 0) rfl) rfl rfl) rfl hl.1 rfl (lv_room (Nat.le_of_ble_eq_true rfl)) zd_M_queued_21 ⟨Nat.zero_le _, Nat.zero_le _⟩ (fun rx sx H locs hp hP hD hS => ?_)
        obtain ⟨hr9, hs, hok9⟩ := hp
        rw [hr9]
        rw [hs] at hP hD
        refine lv_goto (tgt := 28) hx hb zd_M_queued_24 (by decide) ?_
        exact W.iret (v := mf_qlen st u v q fr) hx hb hr (fun t ht hW => ⟨⟨mf_qlen st u v q fr, st, rfl, ⟨(by simp only [mf_queued, if_pos h1b, if_neg h2, if_pos h3, fb_b_t, fb_b_f]), rfl, hok⟩, by rw [ht]; exact hP, va_K.moved hW.alike hK, hD⟩, hS.F ht⟩) hS.2.2 zd_M_queued_28

set_option maxHeartbeats 4000000 in
set_option maxRecDepth 100000 in
theorem c_M_held (l : Launch) (D : va_G) (cA : Nat → ClassId) (ad : Nat → Nat → Nat) (fl fr T : Nat) (st : fb_S) (hflr : fl ≤ 12 ∧ fr ≤ 100 ∧ T ≤ 30000) (hok : fb_okM fl fr T st) (u : Int32) (v : Int32) (q : Int32) : fb_Mi l zy_M_held (zw_M_held :: lw_gd) { frames := 3, cells := 0, slots := 0, locals := 72 } (fb_cM cA) D fb_cl (fb_tys cA) ad fb_LM st [.ref (ad 0 0), .int u, .int v, .int q] (fun rr st1 => rr = mf_held st fr u v q ∧ st1 = st ∧ fb_okM fl fr T st1) := by
  have hfl : fl ≤ 12 := hflr.1
  have hfr : fr ≤ 100 := hflr.2.1
  have hTb : T ≤ 30000 := hflr.2.2
  intro sz
  refine Met.ofW (cc := zb_M_held) (maxL := 4) (ret := (some .int)) (by decide) rfl ?_
  intro p e s m args below meth c s₁ B hml hv
  obtain ⟨rfl, hsz, hP, hK, hD0⟩ := hv
  have hx := B.exec
  have hb := B.bytes
  have hr := B.returns
  have hts := atoms_spec (ws := zw_M_held :: lw_gd) B.pre
  have hT : ∀ w ∈ lw_gd, w.before _ s = true := fun w h => hts w (List.mem_cons_of_mem _ h)
  have hown : s.vm.findClass "PausedFabricModel" = some m.cls := findClass_of_methodNamed B.named
  have hlocks := B.notSynchronized
  subst hsz
  have hD := fb_D_self (sz := s.heap.size) hD0
  have hS : va_S (fb_A ad fb_LM s.heap.size) s.heap s.heap [] := va_S.rf
  have hl := lv_entry ([.ref (ad 0 0), .int u, .int v, .int q]) (n := 4) (Nat.le_of_ble_eq_true rfl)
  rw [lg_entry_eq]
  generalize (lg_sl ([.ref (ad 0 0), .int u, .int v, .int q]) ++ List.replicate (4 - (lg_sl ([.ref (ad 0 0), .int u, .int v, .int q])).length) Slot.unset).toArray = ls at hl ⊢
  have hl : lv_has ls 4 [(0, .ref (ad 0 0)), (1, .int u), (2, .int v), (3, .int q)] := hl
  refine lv_iload_n hx hb zd_M_held_0 rfl (lv_at hl 1 rfl) ?_
  refine lv_iload_n hx hb zd_M_held_1 rfl (lv_at hl 2 rfl) ?_
  refine pw_Si (bytes := zb_M_isPort) (maxL := 4) (ret := (some .boolean)) (As := [.int u, .int v]) (rest := []) ⟨hx, hb, hml, hown, hT⟩ (c_M_isPort l D cA (fb_cM cA) ad fb_LM st u v) (cwS 2 hT (fb_gS zi_578 zi_579 zi_5 zc_M_isPort) rfl rfl rfl (by decide +kernel) ⟨Nat.le_of_ble_eq_true rfl, Nat.le_of_ble_eq_true rfl⟩) hK hP hD hS rfl hl.1 rfl (lv_room (Nat.le_of_ble_eq_true rfl)) zd_M_held_2 ⟨Nat.zero_le _, Nat.zero_le _⟩ (fun rx sx H locs hp hP hD hS => ?_)
  obtain ⟨hr9, hs, hok9⟩ := hp
  rw [hr9]
  rw [hs] at hP hD
  refine lv_if_eq (tgt := 17) hx hb zd_M_held_5 (by decide) (fun h1 => ?_) (fun h1 => ?_)
  · skip
    have h1b := fb_b0 h1
    refine lv_iconst (v := (-1)) hx hb zd_M_held_17 (by decide) ?_
    exact W.iret (v := (-1)) hx hb hr (fun t ht hW => ⟨⟨(-1), st, rfl, ⟨(by simp only [mf_held, if_neg h1b, fb_b_t, fb_b_f]), rfl, hok⟩, by rw [ht]; exact hP, va_K.moved hW.alike hK, hD⟩, hS.F ht⟩) hS.2.2 zd_M_held_18
  · skip
    have h1b := fb_b1 h1
    refine lv_iload_n hx hb zd_M_held_8 rfl (lv_at hl 3 rfl) ?_
    refine lv_if_lt (tgt := 17) hx hb zd_M_held_9 (by decide) (fun h2 => ?_) (fun h2 => ?_)
    · skip
      refine lv_iconst (v := (-1)) hx hb zd_M_held_17 (by decide) ?_
      exact W.iret (v := (-1)) hx hb hr (fun t ht hW => ⟨⟨(-1), st, rfl, ⟨(by simp only [mf_held, if_pos h1b, if_pos h2, fb_b_t, fb_b_f]), rfl, hok⟩, by rw [ht]; exact hP, va_K.moved hW.alike hK, hD⟩, hS.F ht⟩) hS.2.2 zd_M_held_18
    · skip
      refine lv_iload_n hx hb zd_M_held_12 rfl (lv_at hl 3 rfl) ?_
      refine lv_iconst (v := 1) hx hb zd_M_held_13 (by decide) ?_
      refine lv_icmp_le (tgt := 19) hx hb zd_M_held_14 (by decide) (fun h3 => ?_) (fun h3 => ?_)
      · skip
        refine lv_iload_n hx hb zd_M_held_19 rfl (lv_at hl 2 rfl) ?_
        refine lv_bipush (v := 8) hx hb zd_M_held_20 (by decide) ?_
        refine lv_icmp_ge (tgt := 29) hx hb zd_M_held_22 (by decide) (fun h4 => ?_) (fun h4 => ?_)
        · skip
          refine lv_aload_n hx hb zd_M_held_29 rfl (lv_at hl 0 rfl) ?_
          refine lv_iload_n hx hb zd_M_held_30 rfl (lv_at hl 1 rfl) ?_
          refine lv_iload_n hx hb zd_M_held_31 rfl (lv_at hl 2 rfl) ?_
          refine lv_iload_n hx hb zd_M_held_32 rfl (lv_at hl 3 rfl) ?_
          refine pw_Vi (bytes := zb_M_holds) (maxL := 9) (ret := (some .int)) (As := [.int u, .int v, .int q]) (rest := []) ⟨hx, hb, hml, hown, hT⟩ (c_M_holds l D cA ad fl fr T st hflr hok u v q) (cwV 3 hT (fb_gV zi_562 zi_564 zs_M_holds zi_5 zc_M_holds) rfl rfl rfl (by decide +kernel) ⟨Nat.le_of_ble_eq_true rfl, Nat.le_of_ble_eq_true rfl⟩) hK hP hD hS (fb_recv hK hP (fb_memM (k := 0) rfl) rfl rfl) rfl hl.1 rfl (lv_room (Nat.le_of_ble_eq_true rfl)) zd_M_held_33 ⟨Nat.zero_le _, Nat.zero_le _⟩ (fun rx sx H locs hp hP hD hS => ?_)
          obtain ⟨hr9, hs, hok9⟩ := hp
          rw [hr9]
          rw [hs] at hP hD
          exact W.iret (v := mf_holds st u v q fr) hx hb hr (fun t ht hW => ⟨⟨mf_holds st u v q fr, st, rfl, ⟨(by simp only [mf_held, if_pos h1b, if_neg h2, if_pos h3, if_pos h4, fb_b_t, fb_b_f]), rfl, hok⟩, by rw [ht]; exact hP, va_K.moved hW.alike hK, hD⟩, hS.F ht⟩) hS.2.2 zd_M_held_36
        · skip
          refine lv_iconst (v := 0) hx hb zd_M_held_25 (by decide) ?_
          refine lv_goto (tgt := 36) hx hb zd_M_held_26 (by decide) ?_
          exact W.iret (v := 0) hx hb hr (fun t ht hW => ⟨⟨0, st, rfl, ⟨(by simp only [mf_held, if_pos h1b, if_neg h2, if_pos h3, if_neg h4, fb_b_t, fb_b_f]), rfl, hok⟩, by rw [ht]; exact hP, va_K.moved hW.alike hK, hD⟩, hS.F ht⟩) hS.2.2 zd_M_held_36
      · skip
        refine lv_iconst (v := (-1)) hx hb zd_M_held_17 (by decide) ?_
        exact W.iret (v := (-1)) hx hb hr (fun t ht hW => ⟨⟨(-1), st, rfl, ⟨(by simp only [mf_held, if_pos h1b, if_neg h2, if_neg h3, fb_b_t, fb_b_f]), rfl, hok⟩, by rw [ht]; exact hP, va_K.moved hW.alike hK, hD⟩, hS.F ht⟩) hS.2.2 zd_M_held_18

set_option maxHeartbeats 4000000 in
set_option maxRecDepth 100000 in
theorem c_M_asks (l : Launch) (D : va_G) (cA : Nat → ClassId) (ad : Nat → Nat → Nat) (fl fr T : Nat) (st : fb_S) (hflr : fl ≤ 12 ∧ fr ≤ 100 ∧ T ≤ 30000) (hok : fb_okM fl fr T st) (u : Int32) (v : Int32) : fb_Mi l zy_M_asks (zw_M_asks :: lw_gd) { frames := 1, cells := 0, slots := 0, locals := 23 } (fb_cM cA) D fb_cl (fb_tys cA) ad fb_LM st [.ref (ad 0 0), .int u, .int v] (fun rr st1 => rr = mf_asks st u v ∧ st1 = st ∧ fb_okM fl fr T st1) := by
  have hfl : fl ≤ 12 := hflr.1
  have hfr : fr ≤ 100 := hflr.2.1
  have hTb : T ≤ 30000 := hflr.2.2
  intro sz
  refine Met.ofW (cc := zb_M_asks) (maxL := 3) (ret := (some .boolean)) (by decide) rfl ?_
  intro p e s m args below meth c s₁ B hml hv
  obtain ⟨rfl, hsz, hP, hK, hD0⟩ := hv
  have hx := B.exec
  have hb := B.bytes
  have hr := B.returns
  have hts := atoms_spec (ws := zw_M_asks :: lw_gd) B.pre
  have hT : ∀ w ∈ lw_gd, w.before _ s = true := fun w h => hts w (List.mem_cons_of_mem _ h)
  have hown : s.vm.findClass "PausedFabricModel" = some m.cls := findClass_of_methodNamed B.named
  have hlocks := B.notSynchronized
  subst hsz
  have hD := fb_D_self (sz := s.heap.size) hD0
  have hS : va_S (fb_A ad fb_LM s.heap.size) s.heap s.heap [] := va_S.rf
  have hl := lv_entry ([.ref (ad 0 0), .int u, .int v]) (n := 3) (Nat.le_of_ble_eq_true rfl)
  rw [lg_entry_eq]
  generalize (lg_sl ([.ref (ad 0 0), .int u, .int v]) ++ List.replicate (3 - (lg_sl ([.ref (ad 0 0), .int u, .int v])).length) Slot.unset).toArray = ls at hl ⊢
  have hl : lv_has ls 3 [(0, .ref (ad 0 0)), (1, .int u), (2, .int v)] := hl
  refine lv_iload_n hx hb zd_M_asks_0 rfl (lv_at hl 1 rfl) ?_
  refine lv_iload_n hx hb zd_M_asks_1 rfl (lv_at hl 2 rfl) ?_
  refine pw_Si (bytes := zb_M_isPort) (maxL := 4) (ret := (some .boolean)) (As := [.int u, .int v]) (rest := []) ⟨hx, hb, hml, hown, hT⟩ (c_M_isPort l D cA (fb_cM cA) ad fb_LM st u v) (cwS 2 hT (fb_gS zi_578 zi_579 zi_5 zc_M_isPort) rfl rfl rfl (by decide +kernel) ⟨Nat.le_of_ble_eq_true rfl, Nat.le_of_ble_eq_true rfl⟩) hK hP hD hS rfl hl.1 rfl (lv_room (Nat.le_of_ble_eq_true rfl)) zd_M_asks_2 ⟨Nat.zero_le _, Nat.zero_le _⟩ (fun rx sx H locs hp hP hD hS => ?_)
  obtain ⟨hr9, hs, hok9⟩ := hp
  rw [hr9]
  rw [hs] at hP hD
  refine lv_if_eq (tgt := 26) hx hb zd_M_asks_5 (by decide) (fun h1 => ?_) (fun h1 => ?_)
  · skip
    have h1b := fb_b0 h1
    refine lv_iconst (v := 0) hx hb zd_M_asks_26 (by decide) ?_
    exact W.zret (v := 0) hx hb hr rfl (fun t ht hW => ⟨⟨0, st, rfl, ⟨(by simp only [mf_asks, if_neg h1b, fb_b_t, fb_b_f]), rfl, hok⟩, by rw [ht]; exact hP, va_K.moved hW.alike hK, hD⟩, hS.F ht⟩) hS.2.2 zd_M_asks_27
  · skip
    have h1b := fb_b1 h1
    refine lv_aload_n hx hb zd_M_asks_8 rfl (lv_at hl 0 rfl) ?_
    refine pw_get (C := "PausedFabricModel") (T := zT_M) (N := 28) hx hb hT zin_M hown hK hP (fb_memM (k := 0) rfl) rfl rfl 26 (by decide) (hT _ zi_462) (fun _ h9 => h9) rfl zd_M_asks_9 ?_
    refine lv_bipush (v := 14) hx hb zd_M_asks_12 (by decide) ?_
    refine lv_iload_n hx hb zd_M_asks_14 rfl (lv_at hl 1 rfl) ?_
    refine lv_imul hx hb zd_M_asks_15 ?_
    refine lv_iload_n hx hb zd_M_asks_16 rfl (lv_at hl 2 rfl) ?_
    refine lv_iadd hx hb zd_M_asks_17 ?_
    refine pw_zald (v := st 26 (fb_n ((14 * u) + v))) hx hb hK hP (fb_memM (k := 26) rfl) 5 rfl rfl (fb_in14 (fb_prt h1b).1 (fb_prt h1b).2) rfl zd_M_asks_18 ?_
    refine lv_if_eq (tgt := 26) hx hb zd_M_asks_19 (by decide) (fun h2 => ?_) (fun h2 => ?_)
    · skip
      refine lv_iconst (v := 0) hx hb zd_M_asks_26 (by decide) ?_
      exact W.zret (v := 0) hx hb hr rfl (fun t ht hW => ⟨⟨0, st, rfl, ⟨(by simp only [mf_asks, if_pos h1b, if_pos h2, fb_b_t, fb_b_f]), rfl, hok⟩, by rw [ht]; exact hP, va_K.moved hW.alike hK, hD⟩, hS.F ht⟩) hS.2.2 zd_M_asks_27
    · skip
      refine lv_iconst (v := 1) hx hb zd_M_asks_22 (by decide) ?_
      refine lv_goto (tgt := 27) hx hb zd_M_asks_23 (by decide) ?_
      exact W.zret (v := 1) hx hb hr rfl (fun t ht hW => ⟨⟨1, st, rfl, ⟨(by simp only [mf_asks, if_pos h1b, if_neg h2, fb_b_t, fb_b_f]), rfl, hok⟩, by rw [ht]; exact hP, va_K.moved hW.alike hK, hD⟩, hS.F ht⟩) hS.2.2 zd_M_asks_27

set_option maxHeartbeats 4000000 in
set_option maxRecDepth 100000 in
theorem c_M_paused (l : Launch) (D : va_G) (cA : Nat → ClassId) (ad : Nat → Nat → Nat) (fl fr T : Nat) (st : fb_S) (hflr : fl ≤ 12 ∧ fr ≤ 100 ∧ T ≤ 30000) (hok : fb_okM fl fr T st) (u : Int32) (v : Int32) : fb_Mi l zy_M_paused (zw_M_paused :: lw_gd) { frames := 1, cells := 0, slots := 0, locals := 23 } (fb_cM cA) D fb_cl (fb_tys cA) ad fb_LM st [.ref (ad 0 0), .int u, .int v] (fun rr st1 => rr = mf_pausedQ st u v ∧ st1 = st ∧ fb_okM fl fr T st1) := by
  have hfl : fl ≤ 12 := hflr.1
  have hfr : fr ≤ 100 := hflr.2.1
  have hTb : T ≤ 30000 := hflr.2.2
  intro sz
  refine Met.ofW (cc := zb_M_paused) (maxL := 3) (ret := (some .boolean)) (by decide) rfl ?_
  intro p e s m args below meth c s₁ B hml hv
  obtain ⟨rfl, hsz, hP, hK, hD0⟩ := hv
  have hx := B.exec
  have hb := B.bytes
  have hr := B.returns
  have hts := atoms_spec (ws := zw_M_paused :: lw_gd) B.pre
  have hT : ∀ w ∈ lw_gd, w.before _ s = true := fun w h => hts w (List.mem_cons_of_mem _ h)
  have hown : s.vm.findClass "PausedFabricModel" = some m.cls := findClass_of_methodNamed B.named
  have hlocks := B.notSynchronized
  subst hsz
  have hD := fb_D_self (sz := s.heap.size) hD0
  have hS : va_S (fb_A ad fb_LM s.heap.size) s.heap s.heap [] := va_S.rf
  have hl := lv_entry ([.ref (ad 0 0), .int u, .int v]) (n := 3) (Nat.le_of_ble_eq_true rfl)
  rw [lg_entry_eq]
  generalize (lg_sl ([.ref (ad 0 0), .int u, .int v]) ++ List.replicate (3 - (lg_sl ([.ref (ad 0 0), .int u, .int v])).length) Slot.unset).toArray = ls at hl ⊢
  have hl : lv_has ls 3 [(0, .ref (ad 0 0)), (1, .int u), (2, .int v)] := hl
  refine lv_iload_n hx hb zd_M_paused_0 rfl (lv_at hl 1 rfl) ?_
  refine lv_iload_n hx hb zd_M_paused_1 rfl (lv_at hl 2 rfl) ?_
  refine pw_Si (bytes := zb_M_isPort) (maxL := 4) (ret := (some .boolean)) (As := [.int u, .int v]) (rest := []) ⟨hx, hb, hml, hown, hT⟩ (c_M_isPort l D cA (fb_cM cA) ad fb_LM st u v) (cwS 2 hT (fb_gS zi_578 zi_579 zi_5 zc_M_isPort) rfl rfl rfl (by decide +kernel) ⟨Nat.le_of_ble_eq_true rfl, Nat.le_of_ble_eq_true rfl⟩) hK hP hD hS rfl hl.1 rfl (lv_room (Nat.le_of_ble_eq_true rfl)) zd_M_paused_2 ⟨Nat.zero_le _, Nat.zero_le _⟩ (fun rx sx H locs hp hP hD hS => ?_)
  obtain ⟨hr9, hs, hok9⟩ := hp
  rw [hr9]
  rw [hs] at hP hD
  refine lv_if_eq (tgt := 21) hx hb zd_M_paused_5 (by decide) (fun h1 => ?_) (fun h1 => ?_)
  · skip
    have h1b := fb_b0 h1
    refine lv_iconst (v := 0) hx hb zd_M_paused_21 (by decide) ?_
    exact W.zret (v := 0) hx hb hr rfl (fun t ht hW => ⟨⟨0, st, rfl, ⟨(by simp only [mf_pausedQ, if_neg h1b, fb_b_t, fb_b_f]), rfl, hok⟩, by rw [ht]; exact hP, va_K.moved hW.alike hK, hD⟩, hS.F ht⟩) hS.2.2 zd_M_paused_22
  · skip
    have h1b := fb_b1 h1
    refine lv_aload_n hx hb zd_M_paused_8 rfl (lv_at hl 0 rfl) ?_
    refine lv_iload_n hx hb zd_M_paused_9 rfl (lv_at hl 1 rfl) ?_
    refine lv_iload_n hx hb zd_M_paused_10 rfl (lv_at hl 2 rfl) ?_
    refine pw_Vi (bytes := zb_M_isPaused) (maxL := 3) (ret := (some .boolean)) (As := [.int u, .int v]) (rest := []) ⟨hx, hb, hml, hown, hT⟩ (c_M_isPaused l D cA ad fl fr T st hflr hok u v (fb_prt h1b).1 (fb_prt h1b).2) (cwV 2 hT (fb_gV zi_609 zi_611 zs_M_isPaused zi_5 zc_M_isPaused) rfl rfl rfl (by decide +kernel) ⟨Nat.le_of_ble_eq_true rfl, Nat.le_of_ble_eq_true rfl⟩) hK hP hD hS (fb_recv hK hP (fb_memM (k := 0) rfl) rfl rfl) rfl hl.1 rfl (lv_room (Nat.le_of_ble_eq_true rfl)) zd_M_paused_11 ⟨Nat.zero_le _, Nat.zero_le _⟩ (fun rx sx H locs hp hP hD hS => ?_)
    obtain ⟨hr9, hs, hok9⟩ := hp
    rw [hr9]
    rw [hs] at hP hD
    refine lv_if_eq (tgt := 21) hx hb zd_M_paused_14 (by decide) (fun h2 => ?_) (fun h2 => ?_)
    · skip
      have h2b := fb_b0 h2
      refine lv_iconst (v := 0) hx hb zd_M_paused_21 (by decide) ?_
      exact W.zret (v := 0) hx hb hr rfl (fun t ht hW => ⟨⟨0, st, rfl, ⟨(by simp only [mf_pausedQ, if_pos h1b, if_neg h2b, fb_b_t, fb_b_f]), rfl, hok⟩, by rw [ht]; exact hP, va_K.moved hW.alike hK, hD⟩, hS.F ht⟩) hS.2.2 zd_M_paused_22
    · skip
      have h2b := fb_b1 h2
      refine lv_iconst (v := 1) hx hb zd_M_paused_17 (by decide) ?_
      refine lv_goto (tgt := 22) hx hb zd_M_paused_18 (by decide) ?_
      exact W.zret (v := 1) hx hb hr rfl (fun t ht hW => ⟨⟨1, st, rfl, ⟨(by simp only [mf_pausedQ, if_pos h1b, if_pos h2b, fb_b_t, fb_b_f]), rfl, hok⟩, by rw [ht]; exact hP, va_K.moved hW.alike hK, hD⟩, hS.F ht⟩) hS.2.2 zd_M_paused_22

set_option maxHeartbeats 4000000 in
set_option maxRecDepth 100000 in
theorem c_M_received (l : Launch) (D : va_G) (cA : Nat → ClassId) (ad : Nat → Nat → Nat) (fl fr T : Nat) (st : fb_S) (hflr : fl ≤ 12 ∧ fr ≤ 100 ∧ T ≤ 30000) (hok : fb_okM fl fr T st) (f : Int32) : fb_Mi l zy_M_received (zw_M_received :: lw_gd) { frames := 1, cells := 0, slots := 0, locals := 24 } (fb_cM cA) D fb_cl (fb_tys cA) ad fb_LM st [.ref (ad 0 0), .int f] (fun rr st1 => rr = mf_cnt st fr f 4 ∧ st1 = st ∧ fb_okM fl fr T st1) := by
  have hfl : fl ≤ 12 := hflr.1
  have hfr : fr ≤ 100 := hflr.2.1
  have hTb : T ≤ 30000 := hflr.2.2
  intro sz
  refine Met.ofW (cc := zb_M_received) (maxL := 2) (ret := (some .int)) (by decide) rfl ?_
  intro p e s m args below meth c s₁ B hml hv
  obtain ⟨rfl, hsz, hP, hK, hD0⟩ := hv
  have hx := B.exec
  have hb := B.bytes
  have hr := B.returns
  have hts := atoms_spec (ws := zw_M_received :: lw_gd) B.pre
  have hT : ∀ w ∈ lw_gd, w.before _ s = true := fun w h => hts w (List.mem_cons_of_mem _ h)
  have hown : s.vm.findClass "PausedFabricModel" = some m.cls := findClass_of_methodNamed B.named
  have hlocks := B.notSynchronized
  subst hsz
  have hD := fb_D_self (sz := s.heap.size) hD0
  have hS : va_S (fb_A ad fb_LM s.heap.size) s.heap s.heap [] := va_S.rf
  have hl := lv_entry ([.ref (ad 0 0), .int f]) (n := 2) (Nat.le_of_ble_eq_true rfl)
  rw [lg_entry_eq]
  generalize (lg_sl ([.ref (ad 0 0), .int f]) ++ List.replicate (2 - (lg_sl ([.ref (ad 0 0), .int f])).length) Slot.unset).toArray = ls at hl ⊢
  have hl : lv_has ls 2 [(0, .ref (ad 0 0)), (1, .int f)] := hl
  refine lv_aload_n hx hb zd_M_received_0 rfl (lv_at hl 0 rfl) ?_
  refine lv_iload_n hx hb zd_M_received_1 rfl (lv_at hl 1 rfl) ?_
  refine pw_Vi (bytes := zb_M_isFlow) (maxL := 2) (ret := (some .boolean)) (As := [.int f]) (rest := []) ⟨hx, hb, hml, hown, hT⟩ (c_M_isFlow l D cA ad fl fr T st hflr hok f) (cwV 1 hT (fb_gV zi_534 zi_536 zs_M_isFlow zi_5 zc_M_isFlow) rfl rfl rfl (by decide +kernel) ⟨Nat.le_of_ble_eq_true rfl, Nat.le_of_ble_eq_true rfl⟩) hK hP hD hS (fb_recv hK hP (fb_memM (k := 0) rfl) rfl rfl) rfl hl.1 rfl (lv_room (Nat.le_of_ble_eq_true rfl)) zd_M_received_2 ⟨Nat.zero_le _, Nat.zero_le _⟩ (fun rx sx H locs hp hP hD hS => ?_)
  obtain ⟨hr9, hs, hok9⟩ := hp
  rw [hr9]
  rw [hs] at hP hD
  refine lv_if_eq (tgt := 17) hx hb zd_M_received_5 (by decide) (fun h1 => ?_) (fun h1 => ?_)
  · skip
    have h1b := fb_b0 h1
    refine lv_iconst (v := 0) hx hb zd_M_received_17 (by decide) ?_
    exact W.iret (v := 0) hx hb hr (fun t ht hW => ⟨⟨0, st, rfl, ⟨(by simp only [mf_cnt, if_neg h1b, fb_b_t, fb_b_f]), rfl, hok⟩, by rw [ht]; exact hP, va_K.moved hW.alike hK, hD⟩, hS.F ht⟩) hS.2.2 zd_M_received_18
  · skip
    have h1b := fb_b1 h1
    refine lv_aload_n hx hb zd_M_received_8 rfl (lv_at hl 0 rfl) ?_
    refine lv_iload_n hx hb zd_M_received_9 rfl (lv_at hl 1 rfl) ?_
    refine lv_iconst (v := 4) hx hb zd_M_received_10 (by decide) ?_
    refine pw_Vi (bytes := zb_M_countOf) (maxL := 5) (ret := (some .int)) (As := [.int f, .int 4]) (rest := []) ⟨hx, hb, hml, hown, hT⟩ (c_M_countOf l D cA ad fl fr T st hflr hok f 4) (cwV 2 hT (fb_gV zi_665 zi_667 zs_M_countOf zi_5 zc_M_countOf) rfl rfl rfl (by decide +kernel) ⟨Nat.le_of_ble_eq_true rfl, Nat.le_of_ble_eq_true rfl⟩) hK hP hD hS (fb_recv hK hP (fb_memM (k := 0) rfl) rfl rfl) rfl hl.1 rfl (lv_room (Nat.le_of_ble_eq_true rfl)) zd_M_received_11 ⟨Nat.zero_le _, Nat.zero_le _⟩ (fun rx sx H locs hp hP hD hS => ?_)
    obtain ⟨hr9, hs, hok9⟩ := hp
    rw [hr9]
    rw [hs] at hP hD
    refine lv_goto (tgt := 18) hx hb zd_M_received_14 (by decide) ?_
    exact W.iret (v := mf_count st f 4 fr) hx hb hr (fun t ht hW => ⟨⟨mf_count st f 4 fr, st, rfl, ⟨(by simp only [mf_cnt, if_pos h1b, fb_b_t, fb_b_f]), rfl, hok⟩, by rw [ht]; exact hP, va_K.moved hW.alike hK, hD⟩, hS.F ht⟩) hS.2.2 zd_M_received_18

set_option maxHeartbeats 4000000 in
set_option maxRecDepth 100000 in
theorem c_M_dropped (l : Launch) (D : va_G) (cA : Nat → ClassId) (ad : Nat → Nat → Nat) (fl fr T : Nat) (st : fb_S) (hflr : fl ≤ 12 ∧ fr ≤ 100 ∧ T ≤ 30000) (hok : fb_okM fl fr T st) (f : Int32) : fb_Mi l zy_M_dropped (zw_M_dropped :: lw_gd) { frames := 1, cells := 0, slots := 0, locals := 24 } (fb_cM cA) D fb_cl (fb_tys cA) ad fb_LM st [.ref (ad 0 0), .int f] (fun rr st1 => rr = mf_cnt st fr f 5 ∧ st1 = st ∧ fb_okM fl fr T st1) := by
  have hfl : fl ≤ 12 := hflr.1
  have hfr : fr ≤ 100 := hflr.2.1
  have hTb : T ≤ 30000 := hflr.2.2
  intro sz
  refine Met.ofW (cc := zb_M_dropped) (maxL := 2) (ret := (some .int)) (by decide) rfl ?_
  intro p e s m args below meth c s₁ B hml hv
  obtain ⟨rfl, hsz, hP, hK, hD0⟩ := hv
  have hx := B.exec
  have hb := B.bytes
  have hr := B.returns
  have hts := atoms_spec (ws := zw_M_dropped :: lw_gd) B.pre
  have hT : ∀ w ∈ lw_gd, w.before _ s = true := fun w h => hts w (List.mem_cons_of_mem _ h)
  have hown : s.vm.findClass "PausedFabricModel" = some m.cls := findClass_of_methodNamed B.named
  have hlocks := B.notSynchronized
  subst hsz
  have hD := fb_D_self (sz := s.heap.size) hD0
  have hS : va_S (fb_A ad fb_LM s.heap.size) s.heap s.heap [] := va_S.rf
  have hl := lv_entry ([.ref (ad 0 0), .int f]) (n := 2) (Nat.le_of_ble_eq_true rfl)
  rw [lg_entry_eq]
  generalize (lg_sl ([.ref (ad 0 0), .int f]) ++ List.replicate (2 - (lg_sl ([.ref (ad 0 0), .int f])).length) Slot.unset).toArray = ls at hl ⊢
  have hl : lv_has ls 2 [(0, .ref (ad 0 0)), (1, .int f)] := hl
  refine lv_aload_n hx hb zd_M_dropped_0 rfl (lv_at hl 0 rfl) ?_
  refine lv_iload_n hx hb zd_M_dropped_1 rfl (lv_at hl 1 rfl) ?_
  refine pw_Vi (bytes := zb_M_isFlow) (maxL := 2) (ret := (some .boolean)) (As := [.int f]) (rest := []) ⟨hx, hb, hml, hown, hT⟩ (c_M_isFlow l D cA ad fl fr T st hflr hok f) (cwV 1 hT (fb_gV zi_534 zi_536 zs_M_isFlow zi_5 zc_M_isFlow) rfl rfl rfl (by decide +kernel) ⟨Nat.le_of_ble_eq_true rfl, Nat.le_of_ble_eq_true rfl⟩) hK hP hD hS (fb_recv hK hP (fb_memM (k := 0) rfl) rfl rfl) rfl hl.1 rfl (lv_room (Nat.le_of_ble_eq_true rfl)) zd_M_dropped_2 ⟨Nat.zero_le _, Nat.zero_le _⟩ (fun rx sx H locs hp hP hD hS => ?_)
  obtain ⟨hr9, hs, hok9⟩ := hp
  rw [hr9]
  rw [hs] at hP hD
  refine lv_if_eq (tgt := 17) hx hb zd_M_dropped_5 (by decide) (fun h1 => ?_) (fun h1 => ?_)
  · skip
    have h1b := fb_b0 h1
    refine lv_iconst (v := 0) hx hb zd_M_dropped_17 (by decide) ?_
    exact W.iret (v := 0) hx hb hr (fun t ht hW => ⟨⟨0, st, rfl, ⟨(by simp only [mf_cnt, if_neg h1b, fb_b_t, fb_b_f]), rfl, hok⟩, by rw [ht]; exact hP, va_K.moved hW.alike hK, hD⟩, hS.F ht⟩) hS.2.2 zd_M_dropped_18
  · skip
    have h1b := fb_b1 h1
    refine lv_aload_n hx hb zd_M_dropped_8 rfl (lv_at hl 0 rfl) ?_
    refine lv_iload_n hx hb zd_M_dropped_9 rfl (lv_at hl 1 rfl) ?_
    refine lv_iconst (v := 5) hx hb zd_M_dropped_10 (by decide) ?_
    refine pw_Vi (bytes := zb_M_countOf) (maxL := 5) (ret := (some .int)) (As := [.int f, .int 5]) (rest := []) ⟨hx, hb, hml, hown, hT⟩ (c_M_countOf l D cA ad fl fr T st hflr hok f 5) (cwV 2 hT (fb_gV zi_665 zi_667 zs_M_countOf zi_5 zc_M_countOf) rfl rfl rfl (by decide +kernel) ⟨Nat.le_of_ble_eq_true rfl, Nat.le_of_ble_eq_true rfl⟩) hK hP hD hS (fb_recv hK hP (fb_memM (k := 0) rfl) rfl rfl) rfl hl.1 rfl (lv_room (Nat.le_of_ble_eq_true rfl)) zd_M_dropped_11 ⟨Nat.zero_le _, Nat.zero_le _⟩ (fun rx sx H locs hp hP hD hS => ?_)
    obtain ⟨hr9, hs, hok9⟩ := hp
    rw [hr9]
    rw [hs] at hP hD
    refine lv_goto (tgt := 18) hx hb zd_M_dropped_14 (by decide) ?_
    exact W.iret (v := mf_count st f 5 fr) hx hb hr (fun t ht hW => ⟨⟨mf_count st f 5 fr, st, rfl, ⟨(by simp only [mf_cnt, if_pos h1b, fb_b_t, fb_b_f]), rfl, hok⟩, by rw [ht]; exact hP, va_K.moved hW.alike hK, hD⟩, hS.F ht⟩) hS.2.2 zd_M_dropped_18

set_option maxHeartbeats 4000000 in
set_option maxRecDepth 100000 in
theorem c_M_enqueue (l : Launch) (D : va_G) (cA : Nat → ClassId) (ad : Nat → Nat → Nat) (fl fr T : Nat) (st : fb_S) (hflr : fl ≤ 12 ∧ fr ≤ 100 ∧ T ≤ 30000) (hok : fb_okM fl fr T st) (k : Int32) (hk : vp_in k 100) : fb_Mv l zy_M_enqueue (zw_M_enqueue :: lw_gd) { frames := 0, cells := 0, slots := 0, locals := 0 } (fb_cM cA) D fb_cl (fb_tys cA) ad fb_LM st [.ref (ad 0 0), .int k] (fun st1 => st1 = mf_enq (fb_n k) st ∧ fb_okM fl fr T st1) := by
  have hfl : fl ≤ 12 := hflr.1
  have hfr : fr ≤ 100 := hflr.2.1
  have hTb : T ≤ 30000 := hflr.2.2
  intro sz
  refine Met.ofW (cc := zb_M_enqueue) (maxL := 2) (ret := none) (by decide) rfl ?_
  intro p e s m args below meth c s₁ B hml hv
  obtain ⟨rfl, hsz, hP, hK, hD0⟩ := hv
  have hx := B.exec
  have hb := B.bytes
  have hr := B.returns
  have hts := atoms_spec (ws := zw_M_enqueue :: lw_gd) B.pre
  have hT : ∀ w ∈ lw_gd, w.before _ s = true := fun w h => hts w (List.mem_cons_of_mem _ h)
  have hown : s.vm.findClass "PausedFabricModel" = some m.cls := findClass_of_methodNamed B.named
  have hlocks := B.notSynchronized
  subst hsz
  have hD := fb_D_self (sz := s.heap.size) hD0
  have hS : va_S (fb_A ad fb_LM s.heap.size) s.heap s.heap [] := va_S.rf
  have hl := lv_entry ([.ref (ad 0 0), .int k]) (n := 2) (Nat.le_of_ble_eq_true rfl)
  rw [lg_entry_eq]
  generalize (lg_sl ([.ref (ad 0 0), .int k]) ++ List.replicate (2 - (lg_sl ([.ref (ad 0 0), .int k])).length) Slot.unset).toArray = ls at hl ⊢
  have hl : lv_has ls 2 [(0, .ref (ad 0 0)), (1, .int k)] := hl
  refine lv_aload_n hx hb zd_M_enqueue_0 rfl (lv_at hl 0 rfl) ?_
  refine pw_get (C := "PausedFabricModel") (T := zT_M) (N := 28) hx hb hT zin_M hown hK hP (fb_memM (k := 0) rfl) rfl rfl 18 (by decide) (hT _ zi_454) (fun _ h9 => h9) rfl zd_M_enqueue_1 ?_
  refine lv_iload_n hx hb zd_M_enqueue_4 rfl (lv_at hl 1 rfl) ?_
  refine lv_iconst (v := 1) hx hb zd_M_enqueue_5 (by decide) ?_
  refine pw_iast hx hb hK hP hD hS (fb_memM (k := 18) rfl) 0 rfl rfl hk (fb_up st 18 (fb_n k) 1) (pa_M18 _ _ _) (fb_hoM _ 18 _ _ owM_18) zd_M_enqueue_6 (fun H locs hP hD hS => ?_)
  obtain ⟨s1, es1⟩ : ∃ z, z = fb_up st 18 (fb_n k) 1 := ⟨_, rfl⟩
  have oks1 : fb_okM fl fr T s1 := es1 ▸ (fb_okM_up hok trivial)
  rw [← es1] at hP hD
  refine lv_aload_n hx hb zd_M_enqueue_7 rfl (lv_at hl 0 rfl) ?_
  refine pw_get (C := "PausedFabricModel") (T := zT_M) (N := 28) hx hb hT zin_M hown hK hP (fb_memM (k := 0) rfl) rfl rfl 20 (by decide) (hT _ zi_456) (fun _ h9 => h9) rfl zd_M_enqueue_8 ?_
  refine lv_iload_n hx hb zd_M_enqueue_11 rfl (lv_at hl 1 rfl) ?_
  refine lv_aload_n hx hb zd_M_enqueue_12 rfl (lv_at hl 0 rfl) ?_
  refine pw_get (C := "PausedFabricModel") (T := zT_M) (N := 28) hx hb hT zin_M hown hK hP (fb_memM (k := 0) rfl) rfl rfl 5 (by decide) (hT _ zi_441) (fun _ h9 => h9) rfl zd_M_enqueue_13 ?_
  refine pw_iast hx hb hK hP hD hS (fb_memM (k := 20) rfl) 0 rfl rfl hk (fb_up s1 20 (fb_n k) (s1 5 0)) (pa_M20 _ _ _) (fb_hoM _ 20 _ _ owM_20) zd_M_enqueue_16 (fun H locs hP hD hS => ?_)
  obtain ⟨s2, es2⟩ : ∃ z, z = fb_up s1 20 (fb_n k) (s1 5 0) := ⟨_, rfl⟩
  have oks2 : fb_okM fl fr T s2 := es2 ▸ (fb_okM_up oks1 trivial)
  rw [← es2] at hP hD
  refine lv_aload_n hx hb zd_M_enqueue_17 rfl (lv_at hl 0 rfl) ?_
  refine lv_aload_n hx hb zd_M_enqueue_18 rfl (lv_at hl 0 rfl) ?_
  refine pw_get (C := "PausedFabricModel") (T := zT_M) (N := 28) hx hb hT zin_M hown hK hP (fb_memM (k := 0) rfl) rfl rfl 5 (by decide) (hT _ zi_441) (fun _ h9 => h9) rfl zd_M_enqueue_19 ?_
  refine lv_iconst (v := 1) hx hb zd_M_enqueue_22 (by decide) ?_
  refine lv_iadd hx hb zd_M_enqueue_23 ?_
  refine pw_put (C := "PausedFabricModel") (T := zT_M) (N := 28) (ty := .int) (v := .int ((s2 5 0) + 1)) hx hb hT zin_M zt_M ztok_M znm_M hown hK hP hD hS (fb_memM (k := 0) rfl) rfl rfl 5 (by decide) (hT _ zi_441) (fun _ h9 => h9) rfl (by decide +kernel) rfl rfl (Nat.le_of_ble_eq_true rfl) (fb_up s2 5 0 ((s2 5 0) + 1)) (ps_M5 _ _) (fb_hoM _ 5 _ _ owM_5) zd_M_enqueue_24 (fun H locs hP hD hS => ?_)
  obtain ⟨s3, es3⟩ : ∃ z, z = fb_up s2 5 0 ((s2 5 0) + 1) := ⟨_, rfl⟩
  have oks3 : fb_okM fl fr T s3 := es3 ▸ (fb_okM_up oks2 trivial)
  rw [← es3] at hP hD
  exact W.vret hx hb hr (fun t ht hW => ⟨⟨s3, rfl, ⟨(by subst es3 es2 es1; simp only [mf_enq, fb_b_t, fb_b_f]), oks3⟩, by rw [ht]; exact hP, va_K.moved hW.alike hK, hD⟩, hS.F ht⟩) hS.2.2 zd_M_enqueue_27

set_option maxHeartbeats 4000000 in
set_option maxRecDepth 100000 in
theorem c_M_flow (l : Launch) (D : va_G) (cA : Nat → ClassId) (ad : Nat → Nat → Nat) (fl fr T : Nat) (st : fb_S) (hflr : fl ≤ 12 ∧ fr ≤ 100 ∧ T ≤ 30000) (hok : fb_okM fl fr T st) (u : Int32) (v : Int32) (q : Int32) : fb_Mi l zy_M_flow (zw_M_flow :: lw_gd) { frames := 0, cells := 0, slots := 0, locals := 0 } (fb_cM cA) D fb_cl (fb_tys cA) ad fb_LM st [.ref (ad 0 0), .int u, .int v, .int q] (fun rr st1 => rr = mf_flowA st u v q ∧ st1 = mf_flow fl u v q st ∧ fb_okM (mf_flC st fl u v q) fr T st1) := by
  have hfl : fl ≤ 12 := hflr.1
  have hfr : fr ≤ 100 := hflr.2.1
  have hTb : T ≤ 30000 := hflr.2.2
  intro sz
  refine Met.ofW (cc := zb_M_flow) (maxL := 4) (ret := (some .int)) (by decide) rfl ?_
  intro p e s m args below meth c s₁ B hml hv
  obtain ⟨rfl, hsz, hP, hK, hD0⟩ := hv
  have hx := B.exec
  have hb := B.bytes
  have hr := B.returns
  have hts := atoms_spec (ws := zw_M_flow :: lw_gd) B.pre
  have hT : ∀ w ∈ lw_gd, w.before _ s = true := fun w h => hts w (List.mem_cons_of_mem _ h)
  have hown : s.vm.findClass "PausedFabricModel" = some m.cls := findClass_of_methodNamed B.named
  have hlocks := B.notSynchronized
  subst hsz
  have hD := fb_D_self (sz := s.heap.size) hD0
  have hS : va_S (fb_A ad fb_LM s.heap.size) s.heap s.heap [] := va_S.rf
  have hl := lv_entry ([.ref (ad 0 0), .int u, .int v, .int q]) (n := 4) (Nat.le_of_ble_eq_true rfl)
  rw [lg_entry_eq]
  generalize (lg_sl ([.ref (ad 0 0), .int u, .int v, .int q]) ++ List.replicate (4 - (lg_sl ([.ref (ad 0 0), .int u, .int v, .int q])).length) Slot.unset).toArray = ls at hl ⊢
  have hl : lv_has ls 4 [(0, .ref (ad 0 0)), (1, .int u), (2, .int v), (3, .int q)] := hl
  refine lv_iload_n hx hb zd_M_flow_0 rfl (lv_at hl 1 rfl) ?_
  refine lv_if_lt (tgt := 43) hx hb zd_M_flow_1 (by decide) (fun h1 => ?_) (fun h1 => ?_)
  · skip
    refine lv_iconst (v := (-1)) hx hb zd_M_flow_43 (by decide) ?_
    exact W.iret (v := (-1)) hx hb hr (fun t ht hW => ⟨⟨(-1), st, rfl, ⟨(by simp only [mf_flowA, if_pos h1]), (by simp only [mf_flowA, mf_flow, mf_flowU, if_pos h1, fb_b_t, fb_b_f]), (by simp only [mf_flC, if_pos h1]; exact hok)⟩, by rw [ht]; exact hP, va_K.moved hW.alike hK, hD⟩, hS.F ht⟩) hS.2.2 zd_M_flow_44
  · skip
    refine lv_iload_n hx hb zd_M_flow_4 rfl (lv_at hl 1 rfl) ?_
    refine lv_bipush (v := 7) hx hb zd_M_flow_5 (by decide) ?_
    refine lv_icmp_gt (tgt := 43) hx hb zd_M_flow_7 (by decide) (fun h2 => ?_) (fun h2 => ?_)
    · skip
      refine lv_iconst (v := (-1)) hx hb zd_M_flow_43 (by decide) ?_
      exact W.iret (v := (-1)) hx hb hr (fun t ht hW => ⟨⟨(-1), st, rfl, ⟨(by simp only [mf_flowA, if_neg h1, if_pos h2]), (by simp only [mf_flowA, mf_flow, mf_flowU, if_neg h1, if_pos h2, fb_b_t, fb_b_f]), (by simp only [mf_flC, if_neg h1, if_pos h2]; exact hok)⟩, by rw [ht]; exact hP, va_K.moved hW.alike hK, hD⟩, hS.F ht⟩) hS.2.2 zd_M_flow_44
    · skip
      refine lv_iload_n hx hb zd_M_flow_10 rfl (lv_at hl 2 rfl) ?_
      refine lv_if_lt (tgt := 43) hx hb zd_M_flow_11 (by decide) (fun h3 => ?_) (fun h3 => ?_)
      · skip
        refine lv_iconst (v := (-1)) hx hb zd_M_flow_43 (by decide) ?_
        exact W.iret (v := (-1)) hx hb hr (fun t ht hW => ⟨⟨(-1), st, rfl, ⟨(by simp only [mf_flowA, if_neg h1, if_neg h2, if_pos h3]), (by simp only [mf_flowA, mf_flow, mf_flowU, if_neg h1, if_neg h2, if_pos h3, fb_b_t, fb_b_f]), (by simp only [mf_flC, if_neg h1, if_neg h2, if_pos h3]; exact hok)⟩, by rw [ht]; exact hP, va_K.moved hW.alike hK, hD⟩, hS.F ht⟩) hS.2.2 zd_M_flow_44
      · skip
        refine lv_iload_n hx hb zd_M_flow_14 rfl (lv_at hl 2 rfl) ?_
        refine lv_bipush (v := 7) hx hb zd_M_flow_15 (by decide) ?_
        refine lv_icmp_gt (tgt := 43) hx hb zd_M_flow_17 (by decide) (fun h4 => ?_) (fun h4 => ?_)
        · skip
          refine lv_iconst (v := (-1)) hx hb zd_M_flow_43 (by decide) ?_
          exact W.iret (v := (-1)) hx hb hr (fun t ht hW => ⟨⟨(-1), st, rfl, ⟨(by simp only [mf_flowA, if_neg h1, if_neg h2, if_neg h3, if_pos h4]), (by simp only [mf_flowA, mf_flow, mf_flowU, if_neg h1, if_neg h2, if_neg h3, if_pos h4, fb_b_t, fb_b_f]), (by simp only [mf_flC, if_neg h1, if_neg h2, if_neg h3, if_pos h4]; exact hok)⟩, by rw [ht]; exact hP, va_K.moved hW.alike hK, hD⟩, hS.F ht⟩) hS.2.2 zd_M_flow_44
        · skip
          refine lv_iload_n hx hb zd_M_flow_20 rfl (lv_at hl 1 rfl) ?_
          refine lv_iload_n hx hb zd_M_flow_21 rfl (lv_at hl 2 rfl) ?_
          refine lv_icmp_eq (tgt := 43) hx hb zd_M_flow_22 (by decide) (fun h5 => ?_) (fun h5 => ?_)
          · skip
            refine lv_iconst (v := (-1)) hx hb zd_M_flow_43 (by decide) ?_
            exact W.iret (v := (-1)) hx hb hr (fun t ht hW => ⟨⟨(-1), st, rfl, ⟨(by simp only [mf_flowA, if_neg h1, if_neg h2, if_neg h3, if_neg h4, if_pos h5]), (by simp only [mf_flowA, mf_flow, mf_flowU, if_neg h1, if_neg h2, if_neg h3, if_neg h4, if_pos h5, fb_b_t, fb_b_f]), (by simp only [mf_flC, if_neg h1, if_neg h2, if_neg h3, if_neg h4, if_pos h5]; exact hok)⟩, by rw [ht]; exact hP, va_K.moved hW.alike hK, hD⟩, hS.F ht⟩) hS.2.2 zd_M_flow_44
          · skip
            refine lv_iload_n hx hb zd_M_flow_25 rfl (lv_at hl 3 rfl) ?_
            refine lv_if_lt (tgt := 43) hx hb zd_M_flow_26 (by decide) (fun h6 => ?_) (fun h6 => ?_)
            · skip
              refine lv_iconst (v := (-1)) hx hb zd_M_flow_43 (by decide) ?_
              exact W.iret (v := (-1)) hx hb hr (fun t ht hW => ⟨⟨(-1), st, rfl, ⟨(by simp only [mf_flowA, if_neg h1, if_neg h2, if_neg h3, if_neg h4, if_neg h5, if_pos h6]), (by simp only [mf_flowA, mf_flow, mf_flowU, if_neg h1, if_neg h2, if_neg h3, if_neg h4, if_neg h5, if_pos h6, fb_b_t, fb_b_f]), (by simp only [mf_flC, if_neg h1, if_neg h2, if_neg h3, if_neg h4, if_neg h5, if_pos h6]; exact hok)⟩, by rw [ht]; exact hP, va_K.moved hW.alike hK, hD⟩, hS.F ht⟩) hS.2.2 zd_M_flow_44
            · skip
              refine lv_iload_n hx hb zd_M_flow_29 rfl (lv_at hl 3 rfl) ?_
              refine lv_iconst (v := 1) hx hb zd_M_flow_30 (by decide) ?_
              refine lv_icmp_gt (tgt := 43) hx hb zd_M_flow_31 (by decide) (fun h7 => ?_) (fun h7 => ?_)
              · skip
                refine lv_iconst (v := (-1)) hx hb zd_M_flow_43 (by decide) ?_
                exact W.iret (v := (-1)) hx hb hr (fun t ht hW => ⟨⟨(-1), st, rfl, ⟨(by simp only [mf_flowA, if_neg h1, if_neg h2, if_neg h3, if_neg h4, if_neg h5, if_neg h6, if_pos h7]), (by simp only [mf_flowA, mf_flow, mf_flowU, if_neg h1, if_neg h2, if_neg h3, if_neg h4, if_neg h5, if_neg h6, if_pos h7, fb_b_t, fb_b_f]), (by simp only [mf_flC, if_neg h1, if_neg h2, if_neg h3, if_neg h4, if_neg h5, if_neg h6, if_pos h7]; exact hok)⟩, by rw [ht]; exact hP, va_K.moved hW.alike hK, hD⟩, hS.F ht⟩) hS.2.2 zd_M_flow_44
              · skip
                refine lv_aload_n hx hb zd_M_flow_34 rfl (lv_at hl 0 rfl) ?_
                refine pw_get (C := "PausedFabricModel") (T := zT_M) (N := 28) hx hb hT zin_M hown hK hP (fb_memM (k := 0) rfl) rfl rfl 6 (by decide) (hT _ zi_442) (fun _ h9 => h9) rfl zd_M_flow_35 ?_
                refine lv_bipush (v := 12) hx hb zd_M_flow_38 (by decide) ?_
                refine lv_icmp_lt (tgt := 45) hx hb zd_M_flow_40 (by decide) (fun h8 => ?_) (fun h8 => ?_)
                · skip
                  have hf6 : st 6 0 = nI fl := hok 6 0 rfl
                  have hfl12 : fl < 12 := fb_lt12 hf6 hfl h8
                  refine lv_aload_n hx hb zd_M_flow_45 rfl (lv_at hl 0 rfl) ?_
                  refine pw_get (C := "PausedFabricModel") (T := zT_M) (N := 28) hx hb hT zin_M hown hK hP (fb_memM (k := 0) rfl) rfl rfl 7 (by decide) (hT _ zi_443) (fun _ h9 => h9) rfl zd_M_flow_46 ?_
                  refine lv_aload_n hx hb zd_M_flow_49 rfl (lv_at hl 0 rfl) ?_
                  refine pw_get (C := "PausedFabricModel") (T := zT_M) (N := 28) hx hb hT zin_M hown hK hP (fb_memM (k := 0) rfl) rfl rfl 6 (by decide) (hT _ zi_442) (fun _ h9 => h9) rfl zd_M_flow_50 ?_
                  refine lv_iload_n hx hb zd_M_flow_53 rfl (lv_at hl 1 rfl) ?_
                  refine pw_iast hx hb hK hP hD hS (fb_memM (k := 7) rfl) 0 rfl rfl (fb_eqin (hok 6 0 rfl) hfl12 (by decide)) (fb_up st 7 fl u) (by rw [fb_eqn (hok 6 0 rfl) (by omega)]; exact (pa_M7 _ _ _)) (fb_hoM _ 7 _ _ owM_7) zd_M_flow_54 (fun H locs hP hD hS => ?_)
                  obtain ⟨s9, es9⟩ : ∃ z, z = fb_up st 7 fl u := ⟨_, rfl⟩
                  have oks9 : fb_okM fl fr T s9 := es9 ▸ (fb_okM_up hok ⟨fb_nlt h1, fb_nlt h2⟩)
                  rw [← es9] at hP hD
                  refine lv_aload_n hx hb zd_M_flow_55 rfl (lv_at hl 0 rfl) ?_
                  refine pw_get (C := "PausedFabricModel") (T := zT_M) (N := 28) hx hb hT zin_M hown hK hP (fb_memM (k := 0) rfl) rfl rfl 8 (by decide) (hT _ zi_444) (fun _ h9 => h9) rfl zd_M_flow_56 ?_
                  refine lv_aload_n hx hb zd_M_flow_59 rfl (lv_at hl 0 rfl) ?_
                  refine pw_get (C := "PausedFabricModel") (T := zT_M) (N := 28) hx hb hT zin_M hown hK hP (fb_memM (k := 0) rfl) rfl rfl 6 (by decide) (hT _ zi_442) (fun _ h9 => h9) rfl zd_M_flow_60 ?_
                  refine lv_iload_n hx hb zd_M_flow_63 rfl (lv_at hl 2 rfl) ?_
                  refine pw_iast hx hb hK hP hD hS (fb_memM (k := 8) rfl) 0 rfl rfl (fb_eqin (oks9 6 0 rfl) hfl12 (by decide)) (fb_up s9 8 fl v) (by rw [fb_eqn (oks9 6 0 rfl) (by omega)]; exact (pa_M8 _ _ _)) (fb_hoM _ 8 _ _ owM_8) zd_M_flow_64 (fun H locs hP hD hS => ?_)
                  obtain ⟨s10, es10⟩ : ∃ z, z = fb_up s9 8 fl v := ⟨_, rfl⟩
                  have oks10 : fb_okM fl fr T s10 := es10 ▸ (fb_okM_up oks9 ⟨fb_nlt h3, fb_nlt h4⟩)
                  rw [← es10] at hP hD
                  refine lv_aload_n hx hb zd_M_flow_65 rfl (lv_at hl 0 rfl) ?_
                  refine pw_get (C := "PausedFabricModel") (T := zT_M) (N := 28) hx hb hT zin_M hown hK hP (fb_memM (k := 0) rfl) rfl rfl 9 (by decide) (hT _ zi_445) (fun _ h9 => h9) rfl zd_M_flow_66 ?_
                  refine lv_aload_n hx hb zd_M_flow_69 rfl (lv_at hl 0 rfl) ?_
                  refine pw_get (C := "PausedFabricModel") (T := zT_M) (N := 28) hx hb hT zin_M hown hK hP (fb_memM (k := 0) rfl) rfl rfl 6 (by decide) (hT _ zi_442) (fun _ h9 => h9) rfl zd_M_flow_70 ?_
                  refine lv_iload_n hx hb zd_M_flow_73 rfl (lv_at hl 3 rfl) ?_
                  refine pw_iast hx hb hK hP hD hS (fb_memM (k := 9) rfl) 0 rfl rfl (fb_eqin (oks10 6 0 rfl) hfl12 (by decide)) (fb_up s10 9 fl q) (by rw [fb_eqn (oks10 6 0 rfl) (by omega)]; exact (pa_M9 _ _ _)) (fb_hoM _ 9 _ _ owM_9) zd_M_flow_74 (fun H locs hP hD hS => ?_)
                  obtain ⟨s11, es11⟩ : ∃ z, z = fb_up s10 9 fl q := ⟨_, rfl⟩
                  have oks11 : fb_okM fl fr T s11 := es11 ▸ (fb_okM_up oks10 (fb_01 h6 h7))
                  rw [← es11] at hP hD
                  refine lv_aload_n hx hb zd_M_flow_75 rfl (lv_at hl 0 rfl) ?_
                  refine pw_get (C := "PausedFabricModel") (T := zT_M) (N := 28) hx hb hT zin_M hown hK hP (fb_memM (k := 0) rfl) rfl rfl 10 (by decide) (hT _ zi_446) (fun _ h9 => h9) rfl zd_M_flow_76 ?_
                  refine lv_aload_n hx hb zd_M_flow_79 rfl (lv_at hl 0 rfl) ?_
                  refine pw_get (C := "PausedFabricModel") (T := zT_M) (N := 28) hx hb hT zin_M hown hK hP (fb_memM (k := 0) rfl) rfl rfl 6 (by decide) (hT _ zi_442) (fun _ h9 => h9) rfl zd_M_flow_80 ?_
                  refine lv_bipush (v := 64) hx hb zd_M_flow_83 (by decide) ?_
                  refine pw_iast hx hb hK hP hD hS (fb_memM (k := 10) rfl) 0 rfl rfl (fb_eqin (oks11 6 0 rfl) hfl12 (by decide)) (fb_up s11 10 fl 64) (by rw [fb_eqn (oks11 6 0 rfl) (by omega)]; exact (pa_M10 _ _ _)) (fb_hoM _ 10 _ _ owM_10) zd_M_flow_85 (fun H locs hP hD hS => ?_)
                  obtain ⟨s12, es12⟩ : ∃ z, z = fb_up s11 10 fl 64 := ⟨_, rfl⟩
                  have oks12 : fb_okM fl fr T s12 := es12 ▸ (fb_okM_up oks11 (fun _ => ⟨by decide, by decide⟩))
                  rw [← es12] at hP hD
                  refine lv_aload_n hx hb zd_M_flow_86 rfl (lv_at hl 0 rfl) ?_
                  refine pw_get (C := "PausedFabricModel") (T := zT_M) (N := 28) hx hb hT zin_M hown hK hP (fb_memM (k := 0) rfl) rfl rfl 11 (by decide) (hT _ zi_447) (fun _ h9 => h9) rfl zd_M_flow_87 ?_
                  refine lv_aload_n hx hb zd_M_flow_90 rfl (lv_at hl 0 rfl) ?_
                  refine pw_get (C := "PausedFabricModel") (T := zT_M) (N := 28) hx hb hT zin_M hown hK hP (fb_memM (k := 0) rfl) rfl rfl 6 (by decide) (hT _ zi_442) (fun _ h9 => h9) rfl zd_M_flow_91 ?_
                  refine lv_bipush (v := 64) hx hb zd_M_flow_94 (by decide) ?_
                  refine pw_iast hx hb hK hP hD hS (fb_memM (k := 11) rfl) 0 rfl rfl (fb_eqin (oks12 6 0 rfl) hfl12 (by decide)) (fb_up s12 11 fl 64) (by rw [fb_eqn (oks12 6 0 rfl) (by omega)]; exact (pa_M11 _ _ _)) (fb_hoM _ 11 _ _ owM_11) zd_M_flow_96 (fun H locs hP hD hS => ?_)
                  obtain ⟨s13, es13⟩ : ∃ z, z = fb_up s12 11 fl 64 := ⟨_, rfl⟩
                  have oks13 : fb_okM fl fr T s13 := es13 ▸ (fb_okM_up oks12 (fun _ => ⟨by decide, by decide⟩))
                  rw [← es13] at hP hD
                  refine lv_aload_n hx hb zd_M_flow_97 rfl (lv_at hl 0 rfl) ?_
                  refine pw_get (C := "PausedFabricModel") (T := zT_M) (N := 28) hx hb hT zin_M hown hK hP (fb_memM (k := 0) rfl) rfl rfl 12 (by decide) (hT _ zi_448) (fun _ h9 => h9) rfl zd_M_flow_98 ?_
                  refine lv_aload_n hx hb zd_M_flow_101 rfl (lv_at hl 0 rfl) ?_
                  refine pw_get (C := "PausedFabricModel") (T := zT_M) (N := 28) hx hb hT zin_M hown hK hP (fb_memM (k := 0) rfl) rfl rfl 6 (by decide) (hT _ zi_442) (fun _ h9 => h9) rfl zd_M_flow_102 ?_
                  refine lv_bipush (v := 64) hx hb zd_M_flow_105 (by decide) ?_
                  refine pw_iast hx hb hK hP hD hS (fb_memM (k := 12) rfl) 0 rfl rfl (fb_eqin (oks13 6 0 rfl) hfl12 (by decide)) (fb_up s13 12 fl 64) (by rw [fb_eqn (oks13 6 0 rfl) (by omega)]; exact (pa_M12 _ _ _)) (fb_hoM _ 12 _ _ owM_12) zd_M_flow_107 (fun H locs hP hD hS => ?_)
                  obtain ⟨s14, es14⟩ : ∃ z, z = fb_up s13 12 fl 64 := ⟨_, rfl⟩
                  have oks14 : fb_okM fl fr T s14 := es14 ▸ (fb_okM_up oks13 (fun _ => ⟨by decide, by decide⟩))
                  rw [← es14] at hP hD
                  refine lv_aload_n hx hb zd_M_flow_108 rfl (lv_at hl 0 rfl) ?_
                  refine lv_aload_n hx hb zd_M_flow_109 rfl (lv_at hl 0 rfl) ?_
                  refine pw_get (C := "PausedFabricModel") (T := zT_M) (N := 28) hx hb hT zin_M hown hK hP (fb_memM (k := 0) rfl) rfl rfl 6 (by decide) (hT _ zi_442) (fun _ h9 => h9) rfl zd_M_flow_110 ?_
                  refine lv_iconst (v := 1) hx hb zd_M_flow_113 (by decide) ?_
                  refine lv_iadd hx hb zd_M_flow_114 ?_
                  refine pw_put (C := "PausedFabricModel") (T := zT_M) (N := 28) (ty := .int) (v := .int ((s14 6 0) + 1)) hx hb hT zin_M zt_M ztok_M znm_M hown hK hP hD hS (fb_memM (k := 0) rfl) rfl rfl 6 (by decide) (hT _ zi_442) (fun _ h9 => h9) rfl (by decide +kernel) rfl rfl (Nat.le_of_ble_eq_true rfl) (fb_up s14 6 0 ((s14 6 0) + 1)) (ps_M6 _ _) (fb_hoM _ 6 _ _ owM_6) zd_M_flow_115 (fun H locs hP hD hS => ?_)
                  obtain ⟨s15, es15⟩ : ∃ z, z = fb_up s14 6 0 ((s14 6 0) + 1) := ⟨_, rfl⟩
                  have oks15 : fb_okM (fl + 1) fr T s15 := es15 ▸ (fb_okM_fl oks14 hfl12 (by subst es14 es13 es12 es11 es10 es9; simp [fb_up]) (by subst es14 es13 es12 es11 es10 es9; simp [fb_up]) (by subst es14 es13 es12 es11 es10 es9; simp [fb_up]))
                  rw [← es15] at hP hD
                  refine lv_aload_n hx hb zd_M_flow_118 rfl (lv_at hl 0 rfl) ?_
                  refine pw_get (C := "PausedFabricModel") (T := zT_M) (N := 28) hx hb hT zin_M hown hK hP (fb_memM (k := 0) rfl) rfl rfl 6 (by decide) (hT _ zi_442) (fun _ h9 => h9) rfl zd_M_flow_119 ?_
                  refine lv_iconst (v := 1) hx hb zd_M_flow_122 (by decide) ?_
                  refine lv_isub hx hb zd_M_flow_123 ?_
                  exact W.iret (v := (s15 6 0) - 1) hx hb hr (fun t ht hW => ⟨⟨(s15 6 0) - 1, s15, rfl, ⟨(by rw [show s15 6 0 = nI (fl + 1) from oks15 6 0 rfl, nI_pred, ← hf6]; simp only [mf_flowA, if_neg h1, if_neg h2, if_neg h3, if_neg h4, if_neg h5, if_neg h6, if_neg h7, if_pos h8]), (by subst es15 es14 es13 es12 es11 es10 es9; simp only [mf_flowA, mf_flow, mf_flowU, if_neg h1, if_neg h2, if_neg h3, if_neg h4, if_neg h5, if_neg h6, if_neg h7, if_pos h8, fb_b_t, fb_b_f]), (by simp only [mf_flC, if_neg h1, if_neg h2, if_neg h3, if_neg h4, if_neg h5, if_neg h6, if_neg h7, if_pos h8]; exact oks15)⟩, by rw [ht]; exact hP, va_K.moved hW.alike hK, hD⟩, hS.F ht⟩) hS.2.2 zd_M_flow_124
                · skip
                  refine lv_iconst (v := (-1)) hx hb zd_M_flow_43 (by decide) ?_
                  exact W.iret (v := (-1)) hx hb hr (fun t ht hW => ⟨⟨(-1), st, rfl, ⟨(by simp only [mf_flowA, if_neg h1, if_neg h2, if_neg h3, if_neg h4, if_neg h5, if_neg h6, if_neg h7, if_neg h8]), (by simp only [mf_flowA, mf_flow, mf_flowU, if_neg h1, if_neg h2, if_neg h3, if_neg h4, if_neg h5, if_neg h6, if_neg h7, if_neg h8, fb_b_t, fb_b_f]), (by simp only [mf_flC, if_neg h1, if_neg h2, if_neg h3, if_neg h4, if_neg h5, if_neg h6, if_neg h7, if_neg h8]; exact hok)⟩, by rw [ht]; exact hP, va_K.moved hW.alike hK, hD⟩, hS.F ht⟩) hS.2.2 zd_M_flow_44

set_option maxHeartbeats 4000000 in
set_option maxRecDepth 100000 in
theorem c_M_inject (l : Launch) (D : va_G) (cA : Nat → ClassId) (ad : Nat → Nat → Nat) (fl fr T : Nat) (st : fb_S) (hflr : fl ≤ 12 ∧ fr ≤ 100 ∧ T ≤ 30000) (hok : fb_okM fl fr T st) (f : Int32) (n : Int32) : fb_Mi l zy_M_inject (zw_M_inject :: lw_gd) { frames := 1, cells := 0, slots := 0, locals := 21 } (fb_cM cA) D fb_cl (fb_tys cA) ad fb_LM st [.ref (ad 0 0), .int f, .int n] (fun rr st1 => rr = mf_injA st f n ∧ st1 = mf_inj fr f n st ∧ fb_okM fl (mf_frC st fr f n) T st1) := by
  have hfl : fl ≤ 12 := hflr.1
  have hfr : fr ≤ 100 := hflr.2.1
  have hTb : T ≤ 30000 := hflr.2.2
  intro sz
  refine Met.ofW (cc := zb_M_inject) (maxL := 3) (ret := (some .int)) (by decide) rfl ?_
  intro p e s m args below meth c s₁ B hml hv
  obtain ⟨rfl, hsz, hP, hK, hD0⟩ := hv
  have hx := B.exec
  have hb := B.bytes
  have hr := B.returns
  have hts := atoms_spec (ws := zw_M_inject :: lw_gd) B.pre
  have hT : ∀ w ∈ lw_gd, w.before _ s = true := fun w h => hts w (List.mem_cons_of_mem _ h)
  have hown : s.vm.findClass "PausedFabricModel" = some m.cls := findClass_of_methodNamed B.named
  have hlocks := B.notSynchronized
  subst hsz
  have hD := fb_D_self (sz := s.heap.size) hD0
  have hS : va_S (fb_A ad fb_LM s.heap.size) s.heap s.heap [] := va_S.rf
  have hl := lv_entry ([.ref (ad 0 0), .int f, .int n]) (n := 3) (Nat.le_of_ble_eq_true rfl)
  rw [lg_entry_eq]
  generalize (lg_sl ([.ref (ad 0 0), .int f, .int n]) ++ List.replicate (3 - (lg_sl ([.ref (ad 0 0), .int f, .int n])).length) Slot.unset).toArray = ls at hl ⊢
  have hl : lv_has ls 3 [(0, .ref (ad 0 0)), (1, .int f), (2, .int n)] := hl
  refine lv_aload_n hx hb zd_M_inject_0 rfl (lv_at hl 0 rfl) ?_
  refine lv_iload_n hx hb zd_M_inject_1 rfl (lv_at hl 1 rfl) ?_
  refine pw_Vi (bytes := zb_M_isFlow) (maxL := 2) (ret := (some .boolean)) (As := [.int f]) (rest := []) ⟨hx, hb, hml, hown, hT⟩ (c_M_isFlow l D cA ad fl fr T st hflr hok f) (cwV 1 hT (fb_gV zi_534 zi_536 zs_M_isFlow zi_5 zc_M_isFlow) rfl rfl rfl (by decide +kernel) ⟨Nat.le_of_ble_eq_true rfl, Nat.le_of_ble_eq_true rfl⟩) hK hP hD hS (fb_recv hK hP (fb_memM (k := 0) rfl) rfl rfl) rfl hl.1 rfl (lv_room (Nat.le_of_ble_eq_true rfl)) zd_M_inject_2 ⟨Nat.zero_le _, Nat.zero_le _⟩ (fun rx sx H locs hp hP hD hS => ?_)
  obtain ⟨hr9, hs, hok9⟩ := hp
  rw [hr9]
  rw [hs] at hP hD
  refine lv_if_eq (tgt := 27) hx hb zd_M_inject_5 (by decide) (fun h1 => ?_) (fun h1 => ?_)
  · skip
    have h1b := fb_b0 h1
    refine lv_iconst (v := (-1)) hx hb zd_M_inject_27 (by decide) ?_
    exact W.iret (v := (-1)) hx hb hr (fun t ht hW => ⟨⟨(-1), st, rfl, ⟨(by simp only [mf_injA, mf_inj, mf_injU, if_neg h1b, fb_b_t, fb_b_f]), (by simp only [mf_injA, mf_inj, mf_injU, if_neg h1b, fb_b_t, fb_b_f]), (by simp only [mf_frC, if_neg h1b]; exact hok)⟩, by rw [ht]; exact hP, va_K.moved hW.alike hK, hD⟩, hS.F ht⟩) hS.2.2 zd_M_inject_28
  · skip
    have h1b := fb_b1 h1
    refine lv_iload_n hx hb zd_M_inject_8 rfl (lv_at hl 2 rfl) ?_
    refine lv_iconst (v := 1) hx hb zd_M_inject_9 (by decide) ?_
    refine lv_icmp_lt (tgt := 27) hx hb zd_M_inject_10 (by decide) (fun h2 => ?_) (fun h2 => ?_)
    · skip
      refine lv_iconst (v := (-1)) hx hb zd_M_inject_27 (by decide) ?_
      exact W.iret (v := (-1)) hx hb hr (fun t ht hW => ⟨⟨(-1), st, rfl, ⟨(by simp only [mf_injA, mf_inj, mf_injU, if_pos h1b, if_pos h2, fb_b_t, fb_b_f]), (by simp only [mf_injA, mf_inj, mf_injU, if_pos h1b, if_pos h2, fb_b_t, fb_b_f]), (by simp only [mf_frC, if_pos h1b, if_pos h2]; exact hok)⟩, by rw [ht]; exact hP, va_K.moved hW.alike hK, hD⟩, hS.F ht⟩) hS.2.2 zd_M_inject_28
    · skip
      refine lv_iload_n hx hb zd_M_inject_13 rfl (lv_at hl 2 rfl) ?_
      refine lv_iconst (v := 4) hx hb zd_M_inject_14 (by decide) ?_
      refine lv_icmp_gt (tgt := 27) hx hb zd_M_inject_15 (by decide) (fun h3 => ?_) (fun h3 => ?_)
      · skip
        refine lv_iconst (v := (-1)) hx hb zd_M_inject_27 (by decide) ?_
        exact W.iret (v := (-1)) hx hb hr (fun t ht hW => ⟨⟨(-1), st, rfl, ⟨(by simp only [mf_injA, mf_inj, mf_injU, if_pos h1b, if_neg h2, if_pos h3, fb_b_t, fb_b_f]), (by simp only [mf_injA, mf_inj, mf_injU, if_pos h1b, if_neg h2, if_pos h3, fb_b_t, fb_b_f]), (by simp only [mf_frC, if_pos h1b, if_neg h2, if_pos h3]; exact hok)⟩, by rw [ht]; exact hP, va_K.moved hW.alike hK, hD⟩, hS.F ht⟩) hS.2.2 zd_M_inject_28
      · skip
        refine lv_aload_n hx hb zd_M_inject_18 rfl (lv_at hl 0 rfl) ?_
        refine pw_get (C := "PausedFabricModel") (T := zT_M) (N := 28) hx hb hT zin_M hown hK hP (fb_memM (k := 0) rfl) rfl rfl 15 (by decide) (hT _ zi_451) (fun _ h9 => h9) rfl zd_M_inject_19 ?_
        refine lv_bipush (v := 100) hx hb zd_M_inject_22 (by decide) ?_
        refine lv_icmp_lt (tgt := 29) hx hb zd_M_inject_24 (by decide) (fun h4 => ?_) (fun h4 => ?_)
        · skip
          have hf15 : st 15 0 = nI fr := hok 15 0 rfl
          have hfr100 : fr < 100 := fb_lt100 hf15 hfr h4
          refine lv_aload_n hx hb zd_M_inject_29 rfl (lv_at hl 0 rfl) ?_
          refine pw_get (C := "PausedFabricModel") (T := zT_M) (N := 28) hx hb hT zin_M hown hK hP (fb_memM (k := 0) rfl) rfl rfl 16 (by decide) (hT _ zi_452) (fun _ h9 => h9) rfl zd_M_inject_30 ?_
          refine lv_aload_n hx hb zd_M_inject_33 rfl (lv_at hl 0 rfl) ?_
          refine pw_get (C := "PausedFabricModel") (T := zT_M) (N := 28) hx hb hT zin_M hown hK hP (fb_memM (k := 0) rfl) rfl rfl 15 (by decide) (hT _ zi_451) (fun _ h9 => h9) rfl zd_M_inject_34 ?_
          refine lv_iload_n hx hb zd_M_inject_37 rfl (lv_at hl 1 rfl) ?_
          refine pw_iast hx hb hK hP hD hS (fb_memM (k := 16) rfl) 0 rfl rfl (fb_eqin (hok 15 0 rfl) hfr100 (by decide)) (fb_up st 16 fr f) (by rw [fb_eqn (hok 15 0 rfl) (by omega)]; exact (pa_M16 _ _ _)) (fb_hoM _ 16 _ _ owM_16) zd_M_inject_38 (fun H locs hP hD hS => ?_)
          obtain ⟨s5, es5⟩ : ∃ z, z = fb_up st 16 fr f := ⟨_, rfl⟩
          have oks5 : fb_okM fl fr T s5 := es5 ▸ (fb_okM_up hok ⟨fb_isF hok hfl h1b, fun q9 => absurd q9 (Nat.lt_irrefl _)⟩)
          rw [← es5] at hP hD
          refine lv_aload_n hx hb zd_M_inject_39 rfl (lv_at hl 0 rfl) ?_
          refine pw_get (C := "PausedFabricModel") (T := zT_M) (N := 28) hx hb hT zin_M hown hK hP (fb_memM (k := 0) rfl) rfl rfl 17 (by decide) (hT _ zi_453) (fun _ h9 => h9) rfl zd_M_inject_40 ?_
          refine lv_aload_n hx hb zd_M_inject_43 rfl (lv_at hl 0 rfl) ?_
          refine pw_get (C := "PausedFabricModel") (T := zT_M) (N := 28) hx hb hT zin_M hown hK hP (fb_memM (k := 0) rfl) rfl rfl 15 (by decide) (hT _ zi_451) (fun _ h9 => h9) rfl zd_M_inject_44 ?_
          refine lv_iload_n hx hb zd_M_inject_47 rfl (lv_at hl 2 rfl) ?_
          refine pw_iast hx hb hK hP hD hS (fb_memM (k := 17) rfl) 0 rfl rfl (fb_eqin (oks5 15 0 rfl) hfr100 (by decide)) (fb_up s5 17 fr n) (by rw [fb_eqn (oks5 15 0 rfl) (by omega)]; exact (pa_M17 _ _ _)) (fb_hoM _ 17 _ _ owM_17) zd_M_inject_48 (fun H locs hP hD hS => ?_)
          obtain ⟨s6, es6⟩ : ∃ z, z = fb_up s5 17 fr n := ⟨_, rfl⟩
          have oks6 : fb_okM fl fr T s6 := es6 ▸ (fb_okM_up oks5 (fun q9 => absurd q9 (Nat.lt_irrefl _)))
          rw [← es6] at hP hD
          refine lv_aload_n hx hb zd_M_inject_49 rfl (lv_at hl 0 rfl) ?_
          refine pw_get (C := "PausedFabricModel") (T := zT_M) (N := 28) hx hb hT zin_M hown hK hP (fb_memM (k := 0) rfl) rfl rfl 19 (by decide) (hT _ zi_455) (fun _ h9 => h9) rfl zd_M_inject_50 ?_
          refine lv_aload_n hx hb zd_M_inject_53 rfl (lv_at hl 0 rfl) ?_
          refine pw_get (C := "PausedFabricModel") (T := zT_M) (N := 28) hx hb hT zin_M hown hK hP (fb_memM (k := 0) rfl) rfl rfl 15 (by decide) (hT _ zi_451) (fun _ h9 => h9) rfl zd_M_inject_54 ?_
          refine lv_iconst (v := 0) hx hb zd_M_inject_57 (by decide) ?_
          refine pw_iast hx hb hK hP hD hS (fb_memM (k := 19) rfl) 0 rfl rfl (fb_eqin (oks6 15 0 rfl) hfr100 (by decide)) (fb_up s6 19 fr 0) (by rw [fb_eqn (oks6 15 0 rfl) (by omega)]; exact (pa_M19 _ _ _)) (fb_hoM _ 19 _ _ owM_19) zd_M_inject_58 (fun H locs hP hD hS => ?_)
          obtain ⟨s7, es7⟩ : ∃ z, z = fb_up s6 19 fr 0 := ⟨_, rfl⟩
          have oks7 : fb_okM fl fr T s7 := es7 ▸ (fb_okM_up oks6 trivial)
          rw [← es7] at hP hD
          refine lv_aload_n hx hb zd_M_inject_59 rfl (lv_at hl 0 rfl) ?_
          refine lv_aload_n hx hb zd_M_inject_60 rfl (lv_at hl 0 rfl) ?_
          refine pw_get (C := "PausedFabricModel") (T := zT_M) (N := 28) hx hb hT zin_M hown hK hP (fb_memM (k := 0) rfl) rfl rfl 15 (by decide) (hT _ zi_451) (fun _ h9 => h9) rfl zd_M_inject_61 ?_
          refine pw_Vv (bytes := zb_M_enqueue) (maxL := 2) (ret := none) (As := [.int (s7 15 0)]) (rest := []) ⟨hx, hb, hml, hown, hT⟩ (c_M_enqueue l D cA ad fl fr T s7 hflr oks7 (s7 15 0) (fb_eqin (oks7 15 0 rfl) hfr100 (by decide))) (cwV 1 hT (fb_gV zi_538 zi_540 zs_M_enqueue zi_5 zc_M_enqueue) rfl rfl rfl (by decide +kernel) ⟨Nat.le_of_ble_eq_true rfl, Nat.le_of_ble_eq_true rfl⟩) hK hP hD hS (fb_recv hK hP (fb_memM (k := 0) rfl) rfl rfl) rfl hl.1 rfl (lv_room (Nat.le_of_ble_eq_true rfl)) zd_M_inject_64 ⟨Nat.zero_le _, Nat.zero_le _⟩ (fun s8 H locs hp hP hD hS => ?_)
          obtain ⟨hs, hok9⟩ := hp
          have es8 : s8 = mf_enq (fb_n (s7 15 0)) s7 := hs
          have oks8 : fb_okM fl fr T s8 := hok9
          rw [show fb_n (s7 15 0) = fr from fb_eqn (oks7 15 0 rfl) (by omega)] at es8
          refine lv_aload_n hx hb zd_M_inject_67 rfl (lv_at hl 0 rfl) ?_
          refine lv_aload_n hx hb zd_M_inject_68 rfl (lv_at hl 0 rfl) ?_
          refine pw_get (C := "PausedFabricModel") (T := zT_M) (N := 28) hx hb hT zin_M hown hK hP (fb_memM (k := 0) rfl) rfl rfl 15 (by decide) (hT _ zi_451) (fun _ h9 => h9) rfl zd_M_inject_69 ?_
          refine lv_iconst (v := 1) hx hb zd_M_inject_72 (by decide) ?_
          refine lv_iadd hx hb zd_M_inject_73 ?_
          refine pw_put (C := "PausedFabricModel") (T := zT_M) (N := 28) (ty := .int) (v := .int ((s8 15 0) + 1)) hx hb hT zin_M zt_M ztok_M znm_M hown hK hP hD hS (fb_memM (k := 0) rfl) rfl rfl 15 (by decide) (hT _ zi_451) (fun _ h9 => h9) rfl (by decide +kernel) rfl rfl (Nat.le_of_ble_eq_true rfl) (fb_up s8 15 0 ((s8 15 0) + 1)) (ps_M15 _ _) (fb_hoM _ 15 _ _ owM_15) zd_M_inject_74 (fun H locs hP hD hS => ?_)
          obtain ⟨s9, es9⟩ : ∃ z, z = fb_up s8 15 0 ((s8 15 0) + 1) := ⟨_, rfl⟩
          have oks9 : fb_okM fl (fr + 1) T s9 := es9 ▸ (fb_okM_fr oks8 hfr100 (by subst es8 es7 es6 es5; simp only [mf_enq]; simp [fb_up]; exact fb_isFl hok hfl h1b) (by subst es8 es7 es6 es5; simp only [mf_enq]; simp [fb_up]; exact ⟨fb_nlt h2, fb_nlt h3⟩))
          rw [← es9] at hP hD
          refine lv_aload_n hx hb zd_M_inject_77 rfl (lv_at hl 0 rfl) ?_
          refine pw_get (C := "PausedFabricModel") (T := zT_M) (N := 28) hx hb hT zin_M hown hK hP (fb_memM (k := 0) rfl) rfl rfl 15 (by decide) (hT _ zi_451) (fun _ h9 => h9) rfl zd_M_inject_78 ?_
          refine lv_iconst (v := 1) hx hb zd_M_inject_81 (by decide) ?_
          refine lv_isub hx hb zd_M_inject_82 ?_
          exact W.iret (v := (s9 15 0) - 1) hx hb hr (fun t ht hW => ⟨⟨(s9 15 0) - 1, s9, rfl, ⟨(by rw [show s9 15 0 = nI (fr + 1) from oks9 15 0 rfl, nI_pred, ← hf15]; simp only [mf_injA, if_pos h1b, if_neg h2, if_neg h3, if_pos h4]), (by subst es9 es8 es7 es6 es5; simp only [mf_injA, mf_inj, mf_injU, if_pos h1b, if_neg h2, if_neg h3, if_pos h4, fb_b_t, fb_b_f]), (by simp only [mf_frC, if_pos h1b, if_neg h2, if_neg h3, if_pos h4]; exact oks9)⟩, by rw [ht]; exact hP, va_K.moved hW.alike hK, hD⟩, hS.F ht⟩) hS.2.2 zd_M_inject_83
        · skip
          refine lv_iconst (v := (-1)) hx hb zd_M_inject_27 (by decide) ?_
          exact W.iret (v := (-1)) hx hb hr (fun t ht hW => ⟨⟨(-1), st, rfl, ⟨(by simp only [mf_injA, mf_inj, mf_injU, if_pos h1b, if_neg h2, if_neg h3, if_neg h4, fb_b_t, fb_b_f]), (by simp only [mf_injA, mf_inj, mf_injU, if_pos h1b, if_neg h2, if_neg h3, if_neg h4, fb_b_t, fb_b_f]), (by simp only [mf_frC, if_pos h1b, if_neg h2, if_neg h3, if_neg h4]; exact hok)⟩, by rw [ht]; exact hP, va_K.moved hW.alike hK, hD⟩, hS.F ht⟩) hS.2.2 zd_M_inject_28
