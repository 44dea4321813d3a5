/-! contracts (by program) -/
set_option maxHeartbeats 4000000 in
set_option maxRecDepth 100000 in
theorem c_X_flowAt (l : Launch) (D : va_G) (cA : Nat → ClassId) (ad : Nat → Nat → Nat) (LL : fb_L) (fl fr : Nat) (st : fb_S) (hL : fb_lvC LL fl fr) (hok : fb_okC fl fr st) (f : Int32) : fb_Mq l zy_X_flowAt (zw_X_flowAt :: lw_gd) { frames := 0, cells := 0, slots := 0, locals := 0 } (fb_cC cA) D fb_cl (fb_tys cA) ad LL st [.ref (ad 0 0), .int f] (fun rr st1 => rr = fb_ro (ad 6) (cf_flowAt st f) ∧ st1 = st ∧ fb_okC fl fr st1) := by
  have hfl : fl ≤ 12 := hL.2.2.2.2.2.2.1
  have hfr : fr ≤ 100 := hL.2.2.2.2.2.2.2
  intro sz
  refine Met.ofW (cc := zb_X_flowAt) (maxL := 2) (ret := (some (.object "PausedFabric$Flow"))) (by decide) rfl ?_
  intro p e s m args below meth c s₁ B hml hv
  obtain ⟨rfl, hsz, hP, hK, hD0⟩ := hv
  have hx := B.exec
  have hb := B.bytes
  have hr := B.returns
  have hts := atoms_spec (ws := zw_X_flowAt :: lw_gd) B.pre
  have hT : ∀ w ∈ lw_gd, w.before _ s = true := fun w h => hts w (List.mem_cons_of_mem _ h)
  have hown : s.vm.findClass "PausedFabric" = some m.cls := findClass_of_methodNamed B.named
  have hlocks := B.notSynchronized
  subst hsz
  have hD := fb_D_self (sz := s.heap.size) hD0
  have hS : va_S (fb_A ad LL s.heap.size) s.heap s.heap [] := va_S.rf
  have hl := lv_entry ([.ref (ad 0 0), .int f]) (n := 2) (Nat.le_of_ble_eq_true rfl)
  rw [lg_entry_eq]
  generalize (lg_sl ([.ref (ad 0 0), .int f]) ++ List.replicate (2 - (lg_sl ([.ref (ad 0 0), .int f])).length) Slot.unset).toArray = ls at hl ⊢
  have hl : lv_has ls 2 [(0, .ref (ad 0 0)), (1, .int f)] := hl
  refine lv_iload_n hx hb zd_X_flowAt_0 rfl (lv_at hl 1 rfl) ?_
  refine lv_if_lt (tgt := 21) hx hb zd_X_flowAt_1 (by decide) (fun h1 => ?_) (fun h1 => ?_)
  · skip
    refine lv_null hx hb zd_X_flowAt_21 ?_
    exact W.aret (v := .null) hx hb hr (Or.inl ⟨_, rfl⟩) (Or.inl rfl) (fun t ht hW => ⟨⟨none, st, rfl, ⟨(fb_ro_n fb_m1).symm.trans (congrArg (fb_ro (ad 6)) (show -1 = cf_flowAt st f from (by simp only [cf_flowAt, if_pos h1, fb_b_t, fb_b_f]))), rfl, hok⟩, by rw [ht]; exact hP, va_K.moved hW.alike hK, hD⟩, hS.F ht⟩) hS.2.2 zd_X_flowAt_22
  · skip
    refine lv_iload_n hx hb zd_X_flowAt_4 rfl (lv_at hl 1 rfl) ?_
    refine lv_aload_n hx hb zd_X_flowAt_5 rfl (lv_at hl 0 rfl) ?_
    refine pw_get (C := "PausedFabric") (T := zT_X) (N := 11) hx hb hT zin_X hown hK hP (hL.2.1 0 (by decide)) rfl rfl 8 (by decide) (hT _ zi_122) (fun _ h9 => h9) rfl zd_X_flowAt_6 ?_
    refine lv_icmp_ge (tgt := 21) hx hb zd_X_flowAt_9 (by decide) (fun h2 => ?_) (fun h2 => ?_)
    · skip
      refine lv_null hx hb zd_X_flowAt_21 ?_
      exact W.aret (v := .null) hx hb hr (Or.inl ⟨_, rfl⟩) (Or.inl rfl) (fun t ht hW => ⟨⟨none, st, rfl, ⟨(fb_ro_n fb_m1).symm.trans (congrArg (fb_ro (ad 6)) (show -1 = cf_flowAt st f from (by simp only [cf_flowAt, if_neg h1, if_pos h2, fb_b_t, fb_b_f]))), rfl, hok⟩, by rw [ht]; exact hP, va_K.moved hW.alike hK, hD⟩, hS.F ht⟩) hS.2.2 zd_X_flowAt_22
    · skip
      refine lv_aload_n hx hb zd_X_flowAt_12 rfl (lv_at hl 0 rfl) ?_
      refine pw_get (C := "PausedFabric") (T := zT_X) (N := 11) hx hb hT zin_X hown hK hP (hL.2.1 0 (by decide)) rfl rfl 6 (by decide) (hT _ zi_120) (fun _ h9 => h9) rfl zd_X_flowAt_13 ?_
      refine lv_iload_n hx hb zd_X_flowAt_16 rfl (lv_at hl 1 rfl) ?_
      refine pw_aald (r := fb_ro (ad 6) (st 8 (fb_n f))) hx hb hK hP (hL.2.1 3 (by decide)) 2 rfl rfl (fb_inI h1 h2 (hok 4 0 rfl) hfl (by decide)) rfl zd_X_flowAt_17 ?_
      refine lv_goto (tgt := 22) hx hb zd_X_flowAt_18 (by decide) ?_
      exact W.aret (v := va_rf (fb_ro (ad 6) (st 8 (fb_n f)))) hx hb hr (Or.inl ⟨_, rfl⟩) (fb_rfc _) (fun t ht hW => ⟨⟨fb_ro (ad 6) (st 8 (fb_n f)), st, rfl, ⟨congrArg (fb_ro (ad 6)) (show st 8 (fb_n f) = cf_flowAt st f from (by simp only [cf_flowAt, if_neg h1, if_neg h2, fb_b_t, fb_b_f])), rfl, hok⟩, by rw [ht]; exact hP, va_K.moved hW.alike hK, hD⟩, hS.F ht⟩) hS.2.2 zd_X_flowAt_22

set_option maxHeartbeats 4000000 in
set_option maxRecDepth 100000 in
theorem c_X_frameAt (l : Launch) (D : va_G) (cA : Nat → ClassId) (ad : Nat → Nat → Nat) (LL : fb_L) (fl fr : Nat) (st : fb_S) (hL : fb_lvC LL fl fr) (hok : fb_okC fl fr st) (k : Int32) : fb_Mq l zy_X_frameAt (zw_X_frameAt :: lw_gd) { frames := 0, cells := 0, slots := 0, locals := 0 } (fb_cC cA) D fb_cl (fb_tys cA) ad LL st [.ref (ad 0 0), .int k] (fun rr st1 => rr = fb_ro (ad 7) (cf_frameAt st k) ∧ st1 = st ∧ fb_okC fl fr st1) := by
  have hfl : fl ≤ 12 := hL.2.2.2.2.2.2.1
  have hfr : fr ≤ 100 := hL.2.2.2.2.2.2.2
  intro sz
  refine Met.ofW (cc := zb_X_frameAt) (maxL := 2) (ret := (some (.object "PausedFabric$Frame"))) (by decide) rfl ?_
  intro p e s m args below meth c s₁ B hml hv
  obtain ⟨rfl, hsz, hP, hK, hD0⟩ := hv
  have hx := B.exec
  have hb := B.bytes
  have hr := B.returns
  have hts := atoms_spec (ws := zw_X_frameAt :: lw_gd) B.pre
  have hT : ∀ w ∈ lw_gd, w.before _ s = true := fun w h => hts w (List.mem_cons_of_mem _ h)
  have hown : s.vm.findClass "PausedFabric" = some m.cls := findClass_of_methodNamed B.named
  have hlocks := B.notSynchronized
  subst hsz
  have hD := fb_D_self (sz := s.heap.size) hD0
  have hS : va_S (fb_A ad LL s.heap.size) s.heap s.heap [] := va_S.rf
  have hl := lv_entry ([.ref (ad 0 0), .int k]) (n := 2) (Nat.le_of_ble_eq_true rfl)
  rw [lg_entry_eq]
  generalize (lg_sl ([.ref (ad 0 0), .int k]) ++ List.replicate (2 - (lg_sl ([.ref (ad 0 0), .int k])).length) Slot.unset).toArray = ls at hl ⊢
  have hl : lv_has ls 2 [(0, .ref (ad 0 0)), (1, .int k)] := hl
  refine lv_iload_n hx hb zd_X_frameAt_0 rfl (lv_at hl 1 rfl) ?_
  refine lv_if_lt (tgt := 21) hx hb zd_X_frameAt_1 (by decide) (fun h1 => ?_) (fun h1 => ?_)
  · skip
    refine lv_null hx hb zd_X_frameAt_21 ?_
    exact W.aret (v := .null) hx hb hr (Or.inl ⟨_, rfl⟩) (Or.inl rfl) (fun t ht hW => ⟨⟨none, st, rfl, ⟨(fb_ro_n fb_m1).symm.trans (congrArg (fb_ro (ad 7)) (show -1 = cf_frameAt st k from (by simp only [cf_frameAt, if_pos h1, fb_b_t, fb_b_f]))), rfl, hok⟩, by rw [ht]; exact hP, va_K.moved hW.alike hK, hD⟩, hS.F ht⟩) hS.2.2 zd_X_frameAt_22
  · skip
    refine lv_iload_n hx hb zd_X_frameAt_4 rfl (lv_at hl 1 rfl) ?_
    refine lv_aload_n hx hb zd_X_frameAt_5 rfl (lv_at hl 0 rfl) ?_
    refine pw_get (C := "PausedFabric") (T := zT_X) (N := 11) hx hb hT zin_X hown hK hP (hL.2.1 0 (by decide)) rfl rfl 9 (by decide) (hT _ zi_123) (fun _ h9 => h9) rfl zd_X_frameAt_6 ?_
    refine lv_icmp_ge (tgt := 21) hx hb zd_X_frameAt_9 (by decide) (fun h2 => ?_) (fun h2 => ?_)
    · skip
      refine lv_null hx hb zd_X_frameAt_21 ?_
      exact W.aret (v := .null) hx hb hr (Or.inl ⟨_, rfl⟩) (Or.inl rfl) (fun t ht hW => ⟨⟨none, st, rfl, ⟨(fb_ro_n fb_m1).symm.trans (congrArg (fb_ro (ad 7)) (show -1 = cf_frameAt st k from (by simp only [cf_frameAt, if_neg h1, if_pos h2, fb_b_t, fb_b_f]))), rfl, hok⟩, by rw [ht]; exact hP, va_K.moved hW.alike hK, hD⟩, hS.F ht⟩) hS.2.2 zd_X_frameAt_22
    · skip
      refine lv_aload_n hx hb zd_X_frameAt_12 rfl (lv_at hl 0 rfl) ?_
      refine pw_get (C := "PausedFabric") (T := zT_X) (N := 11) hx hb hT zin_X hown hK hP (hL.2.1 0 (by decide)) rfl rfl 7 (by decide) (hT _ zi_121) (fun _ h9 => h9) rfl zd_X_frameAt_13 ?_
      refine lv_iload_n hx hb zd_X_frameAt_16 rfl (lv_at hl 1 rfl) ?_
      refine pw_aald (r := fb_ro (ad 7) (st 9 (fb_n k))) hx hb hK hP (hL.2.1 4 (by decide)) 3 rfl rfl (fb_inI h1 h2 (hok 5 0 rfl) hfr (by decide)) rfl zd_X_frameAt_17 ?_
      refine lv_goto (tgt := 22) hx hb zd_X_frameAt_18 (by decide) ?_
      exact W.aret (v := va_rf (fb_ro (ad 7) (st 9 (fb_n k)))) hx hb hr (Or.inl ⟨_, rfl⟩) (fb_rfc _) (fun t ht hW => ⟨⟨fb_ro (ad 7) (st 9 (fb_n k)), st, rfl, ⟨congrArg (fb_ro (ad 7)) (show st 9 (fb_n k) = cf_frameAt st k from (by simp only [cf_frameAt, if_neg h1, if_neg h2, fb_b_t, fb_b_f])), rfl, hok⟩, by rw [ht]; exact hP, va_K.moved hW.alike hK, hD⟩, hS.F ht⟩) hS.2.2 zd_X_frameAt_22

set_option maxHeartbeats 4000000 in
set_option maxRecDepth 100000 in
theorem c_X_portBetween (l : Launch) (D : va_G) (cA : Nat → ClassId) (ad : Nat → Nat → Nat) (LL : fb_L) (fl fr : Nat) (st : fb_S) (hL : fb_lvC LL fl fr) (hok : fb_okC fl fr st) (u : Int32) (v : Int32) : fb_Mq l zy_X_portBetween (zw_X_portBetween :: lw_gd) { frames := 0, cells := 0, slots := 0, locals := 0 } (fb_cC cA) D fb_cl (fb_tys cA) ad LL st [.ref (ad 0 0), .int u, .int v] (fun rr st1 => rr = fb_ro (ad 5) (cf_pb st u v 32 0) ∧ st1 = st ∧ fb_okC fl fr st1) := by
  have hfl : fl ≤ 12 := hL.2.2.2.2.2.2.1
  have hfr : fr ≤ 100 := hL.2.2.2.2.2.2.2
  intro sz
  refine Met.ofW (cc := zb_X_portBetween) (maxL := 7) (ret := (some (.object "PausedFabric$Port"))) (by decide) rfl ?_
  intro p e s m args below meth c s₁ B hml hv
  obtain ⟨rfl, hsz, hP, hK, hD0⟩ := hv
  have hx := B.exec
  have hb := B.bytes
  have hr := B.returns
  have hts := atoms_spec (ws := zw_X_portBetween :: lw_gd) B.pre
  have hT : ∀ w ∈ lw_gd, w.before _ s = true := fun w h => hts w (List.mem_cons_of_mem _ h)
  have hown : s.vm.findClass "PausedFabric" = some m.cls := findClass_of_methodNamed B.named
  have hlocks := B.notSynchronized
  subst hsz
  have hD := fb_D_self (sz := s.heap.size) hD0
  have hS : va_S (fb_A ad LL s.heap.size) s.heap s.heap [] := va_S.rf
  have hl := lv_entry ([.ref (ad 0 0), .int u, .int v]) (n := 7) (Nat.le_of_ble_eq_true rfl)
  rw [lg_entry_eq]
  generalize (lg_sl ([.ref (ad 0 0), .int u, .int v]) ++ List.replicate (7 - (lg_sl ([.ref (ad 0 0), .int u, .int v])).length) Slot.unset).toArray = ls at hl ⊢
  have hl : lv_has ls 7 [(0, .ref (ad 0 0)), (1, .int u), (2, .int v)] := hl
  refine lv_aload_n hx hb zd_X_portBetween_0 rfl (lv_at hl 0 rfl) ?_
  refine pw_get (C := "PausedFabric") (T := zT_X) (N := 11) hx hb hT zin_X hown hK hP (hL.2.1 0 (by decide)) rfl rfl 5 (by decide) (hT _ zi_119) (fun _ h9 => h9) rfl zd_X_portBetween_1 ?_
  refine lv_astore_n (lv' := [(3, .ref (ad 2 0)), (0, .ref (ad 0 0)), (1, .int u), (2, .int v)]) hx hb zd_X_portBetween_4 rfl hl (by decide) rfl (fun ls hl => ?_)
  refine lv_aload_n hx hb zd_X_portBetween_5 rfl (lv_at hl 0 rfl) ?_
  refine pw_alen (v := 32) hx hb hK hP (hL.2.1 2 (by decide)) 1 rfl rfl rfl zd_X_portBetween_6 ?_
  refine lv_istore (lv' := [(4, .int 32), (3, .ref (ad 2 0)), (0, .ref (ad 0 0)), (1, .int u), (2, .int v)]) hx hb zd_X_portBetween_7 hl (by decide) rfl (fun ls hl => ?_)
  refine lv_iconst (v := 0) hx hb zd_X_portBetween_9 (by decide) ?_
  refine lv_istore (lv' := [(5, .int 0), (4, .int 32), (3, .ref (ad 2 0)), (0, .ref (ad 0 0)), (1, .int u), (2, .int v)]) hx hb zd_X_portBetween_10 hl (by decide) rfl (fun ls hl => ?_)
  refine pw_loop (n := 32) (Inv := fun (a : Nat) (H : Heap) (locs : List Loc) (ls : Array Slot) => (cf_pb st u v (32 - a) a = cf_pb st u v 32 0) ∧ lv_has ls 7 [(0, .ref (ad 0 0)), (1, .int u), (2, .int v), (3, .ref (ad 2 0)), (4, .int 32), (5, .int (nI a))] ∧ va_P D fb_cl (fb_wl (fb_cC cA) ad st LL) H ∧ va_D (fb_A ad LL s.heap.size) (fb_wl (fb_cC cA) ad st LL) ∧ va_S (fb_A ad LL s.heap.size) s.heap H locs) ?_ ?_ ?_
  · skip
    intro a hia H locs ls hI iha
    obtain ⟨hIa, hl, hP, hD, hS⟩ := hI
    have hpb : 32 - a = (32 - (a + 1)) + 1 := by omega
    refine lv_iload hx hb zd_X_portBetween_12 (lv_at hl 5 rfl) ?_
    refine lv_iload hx hb zd_X_portBetween_14 (lv_at hl 4 rfl) ?_
    refine lv_icmp_ge (tgt := 52) hx hb zd_X_portBetween_16 (by decide) (fun h9 => absurd h9 (fb_lge (by decide) hia (by omega))) (fun _ => ?_)
    refine lv_aload_n hx hb zd_X_portBetween_19 rfl (lv_at hl 3 rfl) ?_
    refine lv_iload hx hb zd_X_portBetween_20 (lv_at hl 5 rfl) ?_
    refine pw_aald (r := some (ad 5 a)) hx hb hK hP (hL.2.1 2 (by decide)) 1 rfl rfl (vp_in_nI (by omega) (by decide)) (by rw [nI_clamp (by omega)]; exact if_pos (by omega)) zd_X_portBetween_22 ?_
    refine lv_astore (lv' := [(6, .ref (ad 5 a)), (0, .ref (ad 0 0)), (1, .int u), (2, .int v), (3, .ref (ad 2 0)), (4, .int 32), (5, .int (nI a))]) hx hb zd_X_portBetween_23 hl (by decide) rfl (fun ls hl => ?_)
    refine lv_aload hx hb zd_X_portBetween_25 (lv_at hl 0 rfl) ?_
    refine pw_get (C := "PausedFabric$Port") (T := zT_P) (N := 11) hx hb hT zin_P hown hK hP (hL.2.2.1 _ (by omega)).1 rfl rfl 0 (by decide) (hT _ zi_63) (fun _ h9 => h9) rfl zd_X_portBetween_27 ?_
    refine lv_iload_n hx hb zd_X_portBetween_30 rfl (lv_at hl 2 rfl) ?_
    refine lv_icmp_ne (tgt := 46) hx hb zd_X_portBetween_31 (by decide) (fun h1 => ?_) (fun h1 => ?_)
    · skip
      refine lv_iinc (k := 6) (v := nI (a + 1)) (lv' := [(5, .int (nI (a + 1))), (6, .ref (ad 5 a)), (0, .ref (ad 0 0)), (1, .int u), (2, .int v), (3, .ref (ad 2 0)), (4, .int 32)]) hx hb zd_X_portBetween_46 hl rfl (nI_succ _).symm (by decide) rfl (fun ls hl => ?_)
      refine lv_goto (tgt := 12) hx hb zd_X_portBetween_49 (by decide) ?_
      exact iha _ _ _ ⟨(by rw [hpb] at hIa; rw [← hIa]; simp only [cf_pb, if_neg h1]), (lv_sub hl [2, 3, 4, 5, 6, 0] rfl), hP, hD, hS⟩
    · skip
      refine lv_aload hx hb zd_X_portBetween_34 (lv_at hl 0 rfl) ?_
      refine pw_get (C := "PausedFabric$Port") (T := zT_P) (N := 11) hx hb hT zin_P hown hK hP (hL.2.2.1 _ (by omega)).1 rfl rfl 1 (by decide) (hT _ zi_65) (fun _ h9 => h9) rfl zd_X_portBetween_36 ?_
      refine lv_iload_n hx hb zd_X_portBetween_39 rfl (lv_at hl 3 rfl) ?_
      refine lv_icmp_ne (tgt := 46) hx hb zd_X_portBetween_40 (by decide) (fun h2 => ?_) (fun h2 => ?_)
      · skip
        refine lv_iinc (k := 6) (v := nI (a + 1)) (lv' := [(5, .int (nI (a + 1))), (6, .ref (ad 5 a)), (0, .ref (ad 0 0)), (1, .int u), (2, .int v), (3, .ref (ad 2 0)), (4, .int 32)]) hx hb zd_X_portBetween_46 hl rfl (nI_succ _).symm (by decide) rfl (fun ls hl => ?_)
        refine lv_goto (tgt := 12) hx hb zd_X_portBetween_49 (by decide) ?_
        exact iha _ _ _ ⟨(by rw [hpb] at hIa; rw [← hIa]; simp only [cf_pb, if_pos h1, if_neg h2]), (lv_sub hl [2, 3, 4, 5, 6, 0] rfl), hP, hD, hS⟩
      · skip
        refine lv_aload hx hb zd_X_portBetween_43 (lv_at hl 0 rfl) ?_
        exact W.aret (v := .ref (ad 5 a)) hx hb hr (Or.inl ⟨_, rfl⟩) (Or.inr ⟨_, rfl⟩) (fun t ht hW => ⟨⟨some (ad 5 a), st, rfl, ⟨(fb_ro_k (k := a) (by omega)).symm.trans (congrArg (fb_ro (ad 5)) (show nI a = cf_pb st u v 32 0 from (by rw [hpb] at hIa; rw [← hIa]; simp only [cf_pb, if_pos h1, if_pos h2]))), rfl, hok⟩, by rw [ht]; exact hP, va_K.moved hW.alike hK, hD⟩, hS.F ht⟩) hS.2.2 zd_X_portBetween_45
  · skip
    intro H locs ls hI
    obtain ⟨hIa, hl, hP, hD, hS⟩ := hI
    refine lv_iload hx hb zd_X_portBetween_12 (lv_at hl 5 rfl) ?_
    refine lv_iload hx hb zd_X_portBetween_14 (lv_at hl 4 rfl) ?_
    refine lv_icmp_ge (tgt := 52) hx hb zd_X_portBetween_16 (by decide) (fun _ => ?_) (fun h9 => absurd (fb_lle (by decide) (by omega)) h9)
    refine lv_null hx hb zd_X_portBetween_52 ?_
    exact W.aret (v := .null) hx hb hr (Or.inl ⟨_, rfl⟩) (Or.inl rfl) (fun t ht hW => ⟨⟨none, st, rfl, ⟨(fb_ro_n fb_m1).symm.trans (congrArg (fb_ro (ad 5)) (show -1 = cf_pb st u v 32 0 from (by rw [← hIa]; rfl))), rfl, hok⟩, by rw [ht]; exact hP, va_K.moved hW.alike hK, hD⟩, hS.F ht⟩) hS.2.2 zd_X_portBetween_53
  · skip
    exact ⟨rfl, (lv_sub hl [3, 4, 5, 2, 1, 0] rfl), hP, hD, hS⟩

set_option maxHeartbeats 4000000 in
set_option maxRecDepth 100000 in
theorem c_X_state (l : Launch) (D : va_G) (cA : Nat → ClassId) (ad : Nat → Nat → Nat) (LL : fb_L) (fl fr : Nat) (st : fb_S) (hL : fb_lvC LL fl fr) (hok : fb_okC fl fr st) (k : Int32) : fb_Mi l zy_X_state (zw_X_state :: lw_gd) { frames := 1, cells := 0, slots := 0, locals := 21 } (fb_cC cA) D fb_cl (fb_tys cA) ad LL st [.ref (ad 0 0), .int k] (fun rr st1 => rr = cf_qK st 38 k ∧ st1 = st ∧ fb_okC fl fr st1) := by
  have hfl : fl ≤ 12 := hL.2.2.2.2.2.2.1
  have hfr : fr ≤ 100 := hL.2.2.2.2.2.2.2
  intro sz
  refine Met.ofW (cc := zb_X_state) (maxL := 3) (ret := (some .int)) (by decide) rfl ?_
  intro p e s m args below meth c s₁ B hml hv
  obtain ⟨rfl, hsz, hP, hK, hD0⟩ := hv
  have hx := B.exec
  have hb := B.bytes
  have hr := B.returns
  have hts := atoms_spec (ws := zw_X_state :: lw_gd) B.pre
  have hT : ∀ w ∈ lw_gd, w.before _ s = true := fun w h => hts w (List.mem_cons_of_mem _ h)
  have hown : s.vm.findClass "PausedFabric" = some m.cls := findClass_of_methodNamed B.named
  have hlocks := B.notSynchronized
  subst hsz
  have hD := fb_D_self (sz := s.heap.size) hD0
  have hS : va_S (fb_A ad LL s.heap.size) s.heap s.heap [] := va_S.rf
  have hl := lv_entry ([.ref (ad 0 0), .int k]) (n := 3) (Nat.le_of_ble_eq_true rfl)
  rw [lg_entry_eq]
  generalize (lg_sl ([.ref (ad 0 0), .int k]) ++ List.replicate (3 - (lg_sl ([.ref (ad 0 0), .int k])).length) Slot.unset).toArray = ls at hl ⊢
  have hl : lv_has ls 3 [(0, .ref (ad 0 0)), (1, .int k)] := hl
  refine lv_aload_n hx hb zd_X_state_0 rfl (lv_at hl 0 rfl) ?_
  refine lv_iload_n hx hb zd_X_state_1 rfl (lv_at hl 1 rfl) ?_
  refine pw_Vq (bytes := zb_X_frameAt) (maxL := 2) (ret := (some (.object "PausedFabric$Frame"))) (As := [.int k]) (rest := []) ⟨hx, hb, hml, hown, hT⟩ (c_X_frameAt l D cA ad LL fl fr st hL hok k) (cwV 1 hT (fb_gV zi_376 zi_378 zs_X_frameAt zi_1 zc_X_frameAt) rfl rfl rfl (by decide +kernel) ⟨Nat.le_of_ble_eq_true rfl, Nat.le_of_ble_eq_true rfl⟩) hK hP hD hS (fb_recv hK hP (hL.2.1 0 (by decide)) rfl rfl) rfl hl.1 rfl (lv_room (Nat.le_of_ble_eq_true rfl)) zd_X_state_2 ⟨Nat.zero_le _, Nat.zero_le _⟩ (fun rx sx H locs hp hP hD hS => ?_)
  obtain ⟨hr9, hs, hok9⟩ := hp
  rw [hr9]
  rw [hs] at hP hD
  refine pw_split (fun hz1 => ?_) (fun hz1 => ?_)
  · skip
    refine lv_astore_nN (lv' := [(2, .null), (0, .ref (ad 0 0)), (1, .int k)]) hx hb zd_X_state_5 rfl hl (by decide) rfl (fun ls hl => ?_)
    refine lv_aload_nN hx hb zd_X_state_6 rfl (lv_at hl 0 rfl) ?_
    refine lv_ifnonnullN hx hb zd_X_state_7 ?_
    refine lv_iconst (v := (-1)) hx hb zd_X_state_10 (by decide) ?_
    refine lv_goto (tgt := 18) hx hb zd_X_state_11 (by decide) ?_
    exact W.iret (v := (-1)) hx hb hr (fun t ht hW => ⟨⟨(-1), st, rfl, ⟨(by simp only [cf_qK, if_pos hz1, fb_b_t, fb_b_f]), rfl, hok⟩, by rw [ht]; exact hP, va_K.moved hW.alike hK, hD⟩, hS.F ht⟩) hS.2.2 zd_X_state_18
  · skip
    refine lv_astore_n (lv' := [(2, .ref (ad 7 (fb_n (cf_frameAt st k)))), (0, .ref (ad 0 0)), (1, .int k)]) hx hb zd_X_state_5 rfl hl (by decide) rfl (fun ls hl => ?_)
    refine lv_aload_n hx hb zd_X_state_6 rfl (lv_at hl 0 rfl) ?_
    refine lv_ifnonnull (tgt := 14) hx hb zd_X_state_7 (by decide) ?_
    refine lv_aload_n hx hb zd_X_state_14 rfl (lv_at hl 0 rfl) ?_
    refine pw_get (C := "PausedFabric$Frame") (T := zT_K) (N := 10) hx hb hT zin_K hown hK hP (hL.2.2.2.2.2.1 _ (fb_rl (rg_frameAt hok hfr k) hz1)) rfl rfl 3 (by decide) (hT _ zi_245) (fun _ h9 => h9) rfl zd_X_state_15 ?_
    exact W.iret (v := st 38 (fb_n (cf_frameAt st k))) hx hb hr (fun t ht hW => ⟨⟨st 38 (fb_n (cf_frameAt st k)), st, rfl, ⟨(by simp only [cf_qK, if_neg hz1, fb_b_t, fb_b_f]), rfl, hok⟩, by rw [ht]; exact hP, va_K.moved hW.alike hK, hD⟩, hS.F ht⟩) hS.2.2 zd_X_state_18

set_option maxHeartbeats 4000000 in
set_option maxRecDepth 100000 in
theorem c_X_node (l : Launch) (D : va_G) (cA : Nat → ClassId) (ad : Nat → Nat → Nat) (LL : fb_L) (fl fr : Nat) (st : fb_S) (hL : fb_lvC LL fl fr) (hok : fb_okC fl fr st) (k : Int32) : fb_Mi l zy_X_node (zw_X_node :: lw_gd) { frames := 1, cells := 0, slots := 0, locals := 21 } (fb_cC cA) D fb_cl (fb_tys cA) ad LL st [.ref (ad 0 0), .int k] (fun rr st1 => rr = cf_qK st 39 k ∧ st1 = st ∧ fb_okC fl fr st1) := by
  have hfl : fl ≤ 12 := hL.2.2.2.2.2.2.1
  have hfr : fr ≤ 100 := hL.2.2.2.2.2.2.2
  intro sz
  refine Met.ofW (cc := zb_X_node) (maxL := 3) (ret := (some .int)) (by decide) rfl ?_
  intro p e s m args below meth c s₁ B hml hv
  obtain ⟨rfl, hsz, hP, hK, hD0⟩ := hv
  have hx := B.exec
  have hb := B.bytes
  have hr := B.returns
  have hts := atoms_spec (ws := zw_X_node :: lw_gd) B.pre
  have hT : ∀ w ∈ lw_gd, w.before _ s = true := fun w h => hts w (List.mem_cons_of_mem _ h)
  have hown : s.vm.findClass "PausedFabric" = some m.cls := findClass_of_methodNamed B.named
  have hlocks := B.notSynchronized
  subst hsz
  have hD := fb_D_self (sz := s.heap.size) hD0
  have hS : va_S (fb_A ad LL s.heap.size) s.heap s.heap [] := va_S.rf
  have hl := lv_entry ([.ref (ad 0 0), .int k]) (n := 3) (Nat.le_of_ble_eq_true rfl)
  rw [lg_entry_eq]
  generalize (lg_sl ([.ref (ad 0 0), .int k]) ++ List.replicate (3 - (lg_sl ([.ref (ad 0 0), .int k])).length) Slot.unset).toArray = ls at hl ⊢
  have hl : lv_has ls 3 [(0, .ref (ad 0 0)), (1, .int k)] := hl
  refine lv_aload_n hx hb zd_X_node_0 rfl (lv_at hl 0 rfl) ?_
  refine lv_iload_n hx hb zd_X_node_1 rfl (lv_at hl 1 rfl) ?_
  refine pw_Vq (bytes := zb_X_frameAt) (maxL := 2) (ret := (some (.object "PausedFabric$Frame"))) (As := [.int k]) (rest := []) ⟨hx, hb, hml, hown, hT⟩ (c_X_frameAt l D cA ad LL fl fr st hL hok k) (cwV 1 hT (fb_gV zi_376 zi_378 zs_X_frameAt zi_1 zc_X_frameAt) rfl rfl rfl (by decide +kernel) ⟨Nat.le_of_ble_eq_true rfl, Nat.le_of_ble_eq_true rfl⟩) hK hP hD hS (fb_recv hK hP (hL.2.1 0 (by decide)) rfl rfl) rfl hl.1 rfl (lv_room (Nat.le_of_ble_eq_true rfl)) zd_X_node_2 ⟨Nat.zero_le _, Nat.zero_le _⟩ (fun rx sx H locs hp hP hD hS => ?_)
  obtain ⟨hr9, hs, hok9⟩ := hp
  rw [hr9]
  rw [hs] at hP hD
  refine pw_split (fun hz1 => ?_) (fun hz1 => ?_)
  · skip
    refine lv_astore_nN (lv' := [(2, .null), (0, .ref (ad 0 0)), (1, .int k)]) hx hb zd_X_node_5 rfl hl (by decide) rfl (fun ls hl => ?_)
    refine lv_aload_nN hx hb zd_X_node_6 rfl (lv_at hl 0 rfl) ?_
    refine lv_ifnonnullN hx hb zd_X_node_7 ?_
    refine lv_iconst (v := (-1)) hx hb zd_X_node_10 (by decide) ?_
    refine lv_goto (tgt := 18) hx hb zd_X_node_11 (by decide) ?_
    exact W.iret (v := (-1)) hx hb hr (fun t ht hW => ⟨⟨(-1), st, rfl, ⟨(by simp only [cf_qK, if_pos hz1, fb_b_t, fb_b_f]), rfl, hok⟩, by rw [ht]; exact hP, va_K.moved hW.alike hK, hD⟩, hS.F ht⟩) hS.2.2 zd_X_node_18
  · skip
    refine lv_astore_n (lv' := [(2, .ref (ad 7 (fb_n (cf_frameAt st k)))), (0, .ref (ad 0 0)), (1, .int k)]) hx hb zd_X_node_5 rfl hl (by decide) rfl (fun ls hl => ?_)
    refine lv_aload_n hx hb zd_X_node_6 rfl (lv_at hl 0 rfl) ?_
    refine lv_ifnonnull (tgt := 14) hx hb zd_X_node_7 (by decide) ?_
    refine lv_aload_n hx hb zd_X_node_14 rfl (lv_at hl 0 rfl) ?_
    refine pw_get (C := "PausedFabric$Frame") (T := zT_K) (N := 10) hx hb hT zin_K hown hK hP (hL.2.2.2.2.2.1 _ (fb_rl (rg_frameAt hok hfr k) hz1)) rfl rfl 4 (by decide) (hT _ zi_247) (fun _ h9 => h9) rfl zd_X_node_15 ?_
    exact W.iret (v := st 39 (fb_n (cf_frameAt st k))) hx hb hr (fun t ht hW => ⟨⟨st 39 (fb_n (cf_frameAt st k)), st, rfl, ⟨(by simp only [cf_qK, if_neg hz1, fb_b_t, fb_b_f]), rfl, hok⟩, by rw [ht]; exact hP, va_K.moved hW.alike hK, hD⟩, hS.F ht⟩) hS.2.2 zd_X_node_18

set_option maxHeartbeats 4000000 in
set_option maxRecDepth 100000 in
theorem c_X_marked (l : Launch) (D : va_G) (cA : Nat → ClassId) (ad : Nat → Nat → Nat) (LL : fb_L) (fl fr : Nat) (st : fb_S) (hL : fb_lvC LL fl fr) (hok : fb_okC fl fr st) (k : Int32) : fb_Mi l zy_X_marked (zw_X_marked :: lw_gd) { frames := 1, cells := 0, slots := 0, locals := 21 } (fb_cC cA) D fb_cl (fb_tys cA) ad LL st [.ref (ad 0 0), .int k] (fun rr st1 => rr = cf_qM st k ∧ st1 = st ∧ fb_okC fl fr st1) := by
  have hfl : fl ≤ 12 := hL.2.2.2.2.2.2.1
  have hfr : fr ≤ 100 := hL.2.2.2.2.2.2.2
  intro sz
  refine Met.ofW (cc := zb_X_marked) (maxL := 3) (ret := (some .boolean)) (by decide) rfl ?_
  intro p e s m args below meth c s₁ B hml hv
  obtain ⟨rfl, hsz, hP, hK, hD0⟩ := hv
  have hx := B.exec
  have hb := B.bytes
  have hr := B.returns
  have hts := atoms_spec (ws := zw_X_marked :: lw_gd) B.pre
  have hT : ∀ w ∈ lw_gd, w.before _ s = true := fun w h => hts w (List.mem_cons_of_mem _ h)
  have hown : s.vm.findClass "PausedFabric" = some m.cls := findClass_of_methodNamed B.named
  have hlocks := B.notSynchronized
  subst hsz
  have hD := fb_D_self (sz := s.heap.size) hD0
  have hS : va_S (fb_A ad LL s.heap.size) s.heap s.heap [] := va_S.rf
  have hl := lv_entry ([.ref (ad 0 0), .int k]) (n := 3) (Nat.le_of_ble_eq_true rfl)
  rw [lg_entry_eq]
  generalize (lg_sl ([.ref (ad 0 0), .int k]) ++ List.replicate (3 - (lg_sl ([.ref (ad 0 0), .int k])).length) Slot.unset).toArray = ls at hl ⊢
  have hl : lv_has ls 3 [(0, .ref (ad 0 0)), (1, .int k)] := hl
  refine lv_aload_n hx hb zd_X_marked_0 rfl (lv_at hl 0 rfl) ?_
  refine lv_iload_n hx hb zd_X_marked_1 rfl (lv_at hl 1 rfl) ?_
  refine pw_Vq (bytes := zb_X_frameAt) (maxL := 2) (ret := (some (.object "PausedFabric$Frame"))) (As := [.int k]) (rest := []) ⟨hx, hb, hml, hown, hT⟩ (c_X_frameAt l D cA ad LL fl fr st hL hok k) (cwV 1 hT (fb_gV zi_376 zi_378 zs_X_frameAt zi_1 zc_X_frameAt) rfl rfl rfl (by decide +kernel) ⟨Nat.le_of_ble_eq_true rfl, Nat.le_of_ble_eq_true rfl⟩) hK hP hD hS (fb_recv hK hP (hL.2.1 0 (by decide)) rfl rfl) rfl hl.1 rfl (lv_room (Nat.le_of_ble_eq_true rfl)) zd_X_marked_2 ⟨Nat.zero_le _, Nat.zero_le _⟩ (fun rx sx H locs hp hP hD hS => ?_)
  obtain ⟨hr9, hs, hok9⟩ := hp
  rw [hr9]
  rw [hs] at hP hD
  refine pw_split (fun hz1 => ?_) (fun hz1 => ?_)
  · skip
    refine lv_astore_nN (lv' := [(2, .null), (0, .ref (ad 0 0)), (1, .int k)]) hx hb zd_X_marked_5 rfl hl (by decide) rfl (fun ls hl => ?_)
    refine lv_aload_nN hx hb zd_X_marked_6 rfl (lv_at hl 0 rfl) ?_
    refine lv_ifnullN (tgt := 21) hx hb zd_X_marked_7 (by decide) ?_
    refine lv_iconst (v := 0) hx hb zd_X_marked_21 (by decide) ?_
    exact W.zret (v := 0) hx hb hr rfl (fun t ht hW => ⟨⟨0, st, rfl, ⟨(by simp only [cf_qM, if_pos hz1, fb_b_t, fb_b_f]), rfl, hok⟩, by rw [ht]; exact hP, va_K.moved hW.alike hK, hD⟩, hS.F ht⟩) hS.2.2 zd_X_marked_22
  · skip
    refine lv_astore_n (lv' := [(2, .ref (ad 7 (fb_n (cf_frameAt st k)))), (0, .ref (ad 0 0)), (1, .int k)]) hx hb zd_X_marked_5 rfl hl (by decide) rfl (fun ls hl => ?_)
    refine lv_aload_n hx hb zd_X_marked_6 rfl (lv_at hl 0 rfl) ?_
    refine lv_ifnull hx hb zd_X_marked_7 ?_
    refine lv_aload_n hx hb zd_X_marked_10 rfl (lv_at hl 0 rfl) ?_
    refine pw_get (C := "PausedFabric$Frame") (T := zT_K) (N := 10) hx hb hT zin_K hown hK hP (hL.2.2.2.2.2.1 _ (fb_rl (rg_frameAt hok hfr k) hz1)) rfl rfl 5 (by decide) (hT _ zi_249) (fun _ h9 => h9) rfl zd_X_marked_11 ?_
    refine lv_if_eq (tgt := 21) hx hb zd_X_marked_14 (by decide) (fun h2 => ?_) (fun h2 => ?_)
    · skip
      refine lv_iconst (v := 0) hx hb zd_X_marked_21 (by decide) ?_
      exact W.zret (v := 0) hx hb hr rfl (fun t ht hW => ⟨⟨0, st, rfl, ⟨(by simp only [cf_qM, if_neg hz1, if_pos h2, fb_b_t, fb_b_f]), rfl, hok⟩, by rw [ht]; exact hP, va_K.moved hW.alike hK, hD⟩, hS.F ht⟩) hS.2.2 zd_X_marked_22
    · skip
      refine lv_iconst (v := 1) hx hb zd_X_marked_17 (by decide) ?_
      refine lv_goto (tgt := 22) hx hb zd_X_marked_18 (by decide) ?_
      exact W.zret (v := 1) hx hb hr rfl (fun t ht hW => ⟨⟨1, st, rfl, ⟨(by simp only [cf_qM, if_neg hz1, if_neg h2, fb_b_t, fb_b_f]), rfl, hok⟩, by rw [ht]; exact hP, va_K.moved hW.alike hK, hD⟩, hS.F ht⟩) hS.2.2 zd_X_marked_22

set_option maxHeartbeats 4000000 in
set_option maxRecDepth 100000 in
theorem c_X_rate (l : Launch) (D : va_G) (cA : Nat → ClassId) (ad : Nat → Nat → Nat) (LL : fb_L) (fl fr : Nat) (st : fb_S) (hL : fb_lvC LL fl fr) (hok : fb_okC fl fr st) (f : Int32) : fb_Mi l zy_X_rate (zw_X_rate :: lw_gd) { frames := 1, cells := 0, slots := 0, locals := 21 } (fb_cC cA) D fb_cl (fb_tys cA) ad LL st [.ref (ad 0 0), .int f] (fun rr st1 => rr = cf_qF st 23 f 0 ∧ st1 = st ∧ fb_okC fl fr st1) := by
  have hfl : fl ≤ 12 := hL.2.2.2.2.2.2.1
  have hfr : fr ≤ 100 := hL.2.2.2.2.2.2.2
  intro sz
  refine Met.ofW (cc := zb_X_rate) (maxL := 3) (ret := (some .int)) (by decide) rfl ?_
  intro p e s m args below meth c s₁ B hml hv
  obtain ⟨rfl, hsz, hP, hK, hD0⟩ := hv
  have hx := B.exec
  have hb := B.bytes
  have hr := B.returns
  have hts := atoms_spec (ws := zw_X_rate :: lw_gd) B.pre
  have hT : ∀ w ∈ lw_gd, w.before _ s = true := fun w h => hts w (List.mem_cons_of_mem _ h)
  have hown : s.vm.findClass "PausedFabric" = some m.cls := findClass_of_methodNamed B.named
  have hlocks := B.notSynchronized
  subst hsz
  have hD := fb_D_self (sz := s.heap.size) hD0
  have hS : va_S (fb_A ad LL s.heap.size) s.heap s.heap [] := va_S.rf
  have hl := lv_entry ([.ref (ad 0 0), .int f]) (n := 3) (Nat.le_of_ble_eq_true rfl)
  rw [lg_entry_eq]
  generalize (lg_sl ([.ref (ad 0 0), .int f]) ++ List.replicate (3 - (lg_sl ([.ref (ad 0 0), .int f])).length) Slot.unset).toArray = ls at hl ⊢
  have hl : lv_has ls 3 [(0, .ref (ad 0 0)), (1, .int f)] := hl
  refine lv_aload_n hx hb zd_X_rate_0 rfl (lv_at hl 0 rfl) ?_
  refine lv_iload_n hx hb zd_X_rate_1 rfl (lv_at hl 1 rfl) ?_
  refine pw_Vq (bytes := zb_X_flowAt) (maxL := 2) (ret := (some (.object "PausedFabric$Flow"))) (As := [.int f]) (rest := []) ⟨hx, hb, hml, hown, hT⟩ (c_X_flowAt l D cA ad LL fl fr st hL hok f) (cwV 1 hT (fb_gV zi_228 zi_230 zs_X_flowAt zi_1 zc_X_flowAt) rfl rfl rfl (by decide +kernel) ⟨Nat.le_of_ble_eq_true rfl, Nat.le_of_ble_eq_true rfl⟩) hK hP hD hS (fb_recv hK hP (hL.2.1 0 (by decide)) rfl rfl) rfl hl.1 rfl (lv_room (Nat.le_of_ble_eq_true rfl)) zd_X_rate_2 ⟨Nat.zero_le _, Nat.zero_le _⟩ (fun rx sx H locs hp hP hD hS => ?_)
  obtain ⟨hr9, hs, hok9⟩ := hp
  rw [hr9]
  rw [hs] at hP hD
  refine pw_split (fun hz1 => ?_) (fun hz1 => ?_)
  · skip
    refine lv_astore_nN (lv' := [(2, .null), (0, .ref (ad 0 0)), (1, .int f)]) hx hb zd_X_rate_5 rfl hl (by decide) rfl (fun ls hl => ?_)
    refine lv_aload_nN hx hb zd_X_rate_6 rfl (lv_at hl 0 rfl) ?_
    refine lv_ifnonnullN hx hb zd_X_rate_7 ?_
    refine lv_iconst (v := 0) hx hb zd_X_rate_10 (by decide) ?_
    refine lv_goto (tgt := 18) hx hb zd_X_rate_11 (by decide) ?_
    exact W.iret (v := 0) hx hb hr (fun t ht hW => ⟨⟨0, st, rfl, ⟨(by simp only [cf_qF, if_pos hz1, fb_b_t, fb_b_f]), rfl, hok⟩, by rw [ht]; exact hP, va_K.moved hW.alike hK, hD⟩, hS.F ht⟩) hS.2.2 zd_X_rate_18
  · skip
    refine lv_astore_n (lv' := [(2, .ref (ad 6 (fb_n (cf_flowAt st f)))), (0, .ref (ad 0 0)), (1, .int f)]) hx hb zd_X_rate_5 rfl hl (by decide) rfl (fun ls hl => ?_)
    refine lv_aload_n hx hb zd_X_rate_6 rfl (lv_at hl 0 rfl) ?_
    refine lv_ifnonnull (tgt := 14) hx hb zd_X_rate_7 (by decide) ?_
    refine lv_aload_n hx hb zd_X_rate_14 rfl (lv_at hl 0 rfl) ?_
    refine pw_get (C := "PausedFabric$Flow") (T := zT_F) (N := 12) hx hb hT zin_F hown hK hP (hL.2.2.2.2.1 _ (fb_rl (rg_flowAt hok hfl f) hz1)).1 rfl rfl 2 (by decide) (hT _ zi_178) (fun _ h9 => h9) rfl zd_X_rate_15 ?_
    exact W.iret (v := st 23 (fb_n (cf_flowAt st f))) hx hb hr (fun t ht hW => ⟨⟨st 23 (fb_n (cf_flowAt st f)), st, rfl, ⟨(by simp only [cf_qF, if_neg hz1, fb_b_t, fb_b_f]), rfl, hok⟩, by rw [ht]; exact hP, va_K.moved hW.alike hK, hD⟩, hS.F ht⟩) hS.2.2 zd_X_rate_18

set_option maxHeartbeats 4000000 in
set_option maxRecDepth 100000 in
theorem c_X_alpha (l : Launch) (D : va_G) (cA : Nat → ClassId) (ad : Nat → Nat → Nat) (LL : fb_L) (fl fr : Nat) (st : fb_S) (hL : fb_lvC LL fl fr) (hok : fb_okC fl fr st) (f : Int32) : fb_Mi l zy_X_alpha (zw_X_alpha :: lw_gd) { frames := 1, cells := 0, slots := 0, locals := 21 } (fb_cC cA) D fb_cl (fb_tys cA) ad LL st [.ref (ad 0 0), .int f] (fun rr st1 => rr = cf_qF st 25 f 0 ∧ st1 = st ∧ fb_okC fl fr st1) := by
  have hfl : fl ≤ 12 := hL.2.2.2.2.2.2.1
  have hfr : fr ≤ 100 := hL.2.2.2.2.2.2.2
  intro sz
  refine Met.ofW (cc := zb_X_alpha) (maxL := 3) (ret := (some .int)) (by decide) rfl ?_
  intro p e s m args below meth c s₁ B hml hv
  obtain ⟨rfl, hsz, hP, hK, hD0⟩ := hv
  have hx := B.exec
  have hb := B.bytes
  have hr := B.returns
  have hts := atoms_spec (ws := zw_X_alpha :: lw_gd) B.pre
  have hT : ∀ w ∈ lw_gd, w.before _ s = true := fun w h => hts w (List.mem_cons_of_mem _ h)
  have hown : s.vm.findClass "PausedFabric" = some m.cls := findClass_of_methodNamed B.named
  have hlocks := B.notSynchronized
  subst hsz
  have hD := fb_D_self (sz := s.heap.size) hD0
  have hS : va_S (fb_A ad LL s.heap.size) s.heap s.heap [] := va_S.rf
  have hl := lv_entry ([.ref (ad 0 0), .int f]) (n := 3) (Nat.le_of_ble_eq_true rfl)
  rw [lg_entry_eq]
  generalize (lg_sl ([.ref (ad 0 0), .int f]) ++ List.replicate (3 - (lg_sl ([.ref (ad 0 0), .int f])).length) Slot.unset).toArray = ls at hl ⊢
  have hl : lv_has ls 3 [(0, .ref (ad 0 0)), (1, .int f)] := hl
  refine lv_aload_n hx hb zd_X_alpha_0 rfl (lv_at hl 0 rfl) ?_
  refine lv_iload_n hx hb zd_X_alpha_1 rfl (lv_at hl 1 rfl) ?_
  refine pw_Vq (bytes := zb_X_flowAt) (maxL := 2) (ret := (some (.object "PausedFabric$Flow"))) (As := [.int f]) (rest := []) ⟨hx, hb, hml, hown, hT⟩ (c_X_flowAt l D cA ad LL fl fr st hL hok f) (cwV 1 hT (fb_gV zi_228 zi_230 zs_X_flowAt zi_1 zc_X_flowAt) rfl rfl rfl (by decide +kernel) ⟨Nat.le_of_ble_eq_true rfl, Nat.le_of_ble_eq_true rfl⟩) hK hP hD hS (fb_recv hK hP (hL.2.1 0 (by decide)) rfl rfl) rfl hl.1 rfl (lv_room (Nat.le_of_ble_eq_true rfl)) zd_X_alpha_2 ⟨Nat.zero_le _, Nat.zero_le _⟩ (fun rx sx H locs hp hP hD hS => ?_)
  obtain ⟨hr9, hs, hok9⟩ := hp
  rw [hr9]
  rw [hs] at hP hD
  refine pw_split (fun hz1 => ?_) (fun hz1 => ?_)
  · skip
    refine lv_astore_nN (lv' := [(2, .null), (0, .ref (ad 0 0)), (1, .int f)]) hx hb zd_X_alpha_5 rfl hl (by decide) rfl (fun ls hl => ?_)
    refine lv_aload_nN hx hb zd_X_alpha_6 rfl (lv_at hl 0 rfl) ?_
    refine lv_ifnonnullN hx hb zd_X_alpha_7 ?_
    refine lv_iconst (v := 0) hx hb zd_X_alpha_10 (by decide) ?_
    refine lv_goto (tgt := 18) hx hb zd_X_alpha_11 (by decide) ?_
    exact W.iret (v := 0) hx hb hr (fun t ht hW => ⟨⟨0, st, rfl, ⟨(by simp only [cf_qF, if_pos hz1, fb_b_t, fb_b_f]), rfl, hok⟩, by rw [ht]; exact hP, va_K.moved hW.alike hK, hD⟩, hS.F ht⟩) hS.2.2 zd_X_alpha_18
  · skip
    refine lv_astore_n (lv' := [(2, .ref (ad 6 (fb_n (cf_flowAt st f)))), (0, .ref (ad 0 0)), (1, .int f)]) hx hb zd_X_alpha_5 rfl hl (by decide) rfl (fun ls hl => ?_)
    refine lv_aload_n hx hb zd_X_alpha_6 rfl (lv_at hl 0 rfl) ?_
    refine lv_ifnonnull (tgt := 14) hx hb zd_X_alpha_7 (by decide) ?_
    refine lv_aload_n hx hb zd_X_alpha_14 rfl (lv_at hl 0 rfl) ?_
    refine pw_get (C := "PausedFabric$Flow") (T := zT_F) (N := 12) hx hb hT zin_F hown hK hP (hL.2.2.2.2.1 _ (fb_rl (rg_flowAt hok hfl f) hz1)).1 rfl rfl 4 (by decide) (hT _ zi_181) (fun _ h9 => h9) rfl zd_X_alpha_15 ?_
    exact W.iret (v := st 25 (fb_n (cf_flowAt st f))) hx hb hr (fun t ht hW => ⟨⟨st 25 (fb_n (cf_flowAt st f)), st, rfl, ⟨(by simp only [cf_qF, if_neg hz1, fb_b_t, fb_b_f]), rfl, hok⟩, by rw [ht]; exact hP, va_K.moved hW.alike hK, hD⟩, hS.F ht⟩) hS.2.2 zd_X_alpha_18

set_option maxHeartbeats 4000000 in
set_option maxRecDepth 100000 in
theorem c_X_received (l : Launch) (D : va_G) (cA : Nat → ClassId) (ad : Nat → Nat → Nat) (LL : fb_L) (fl fr : Nat) (st : fb_S) (hL : fb_lvC LL fl fr) (hok : fb_okC fl fr st) (f : Int32) : fb_Mi l zy_X_received (zw_X_received :: lw_gd) { frames := 1, cells := 0, slots := 0, locals := 21 } (fb_cC cA) D fb_cl (fb_tys cA) ad LL st [.ref (ad 0 0), .int f] (fun rr st1 => rr = cf_qF st 30 f 0 ∧ st1 = st ∧ fb_okC fl fr st1) := by
  have hfl : fl ≤ 12 := hL.2.2.2.2.2.2.1
  have hfr : fr ≤ 100 := hL.2.2.2.2.2.2.2
  intro sz
  refine Met.ofW (cc := zb_X_received) (maxL := 3) (ret := (some .int)) (by decide) rfl ?_
  intro p e s m args below meth c s₁ B hml hv
  obtain ⟨rfl, hsz, hP, hK, hD0⟩ := hv
  have hx := B.exec
  have hb := B.bytes
  have hr := B.returns
  have hts := atoms_spec (ws := zw_X_received :: lw_gd) B.pre
  have hT : ∀ w ∈ lw_gd, w.before _ s = true := fun w h => hts w (List.mem_cons_of_mem _ h)
  have hown : s.vm.findClass "PausedFabric" = some m.cls := findClass_of_methodNamed B.named
  have hlocks := B.notSynchronized
  subst hsz
  have hD := fb_D_self (sz := s.heap.size) hD0
  have hS : va_S (fb_A ad LL s.heap.size) s.heap s.heap [] := va_S.rf
  have hl := lv_entry ([.ref (ad 0 0), .int f]) (n := 3) (Nat.le_of_ble_eq_true rfl)
  rw [lg_entry_eq]
  generalize (lg_sl ([.ref (ad 0 0), .int f]) ++ List.replicate (3 - (lg_sl ([.ref (ad 0 0), .int f])).length) Slot.unset).toArray = ls at hl ⊢
  have hl : lv_has ls 3 [(0, .ref (ad 0 0)), (1, .int f)] := hl
  refine lv_aload_n hx hb zd_X_received_0 rfl (lv_at hl 0 rfl) ?_
  refine lv_iload_n hx hb zd_X_received_1 rfl (lv_at hl 1 rfl) ?_
  refine pw_Vq (bytes := zb_X_flowAt) (maxL := 2) (ret := (some (.object "PausedFabric$Flow"))) (As := [.int f]) (rest := []) ⟨hx, hb, hml, hown, hT⟩ (c_X_flowAt l D cA ad LL fl fr st hL hok f) (cwV 1 hT (fb_gV zi_228 zi_230 zs_X_flowAt zi_1 zc_X_flowAt) rfl rfl rfl (by decide +kernel) ⟨Nat.le_of_ble_eq_true rfl, Nat.le_of_ble_eq_true rfl⟩) hK hP hD hS (fb_recv hK hP (hL.2.1 0 (by decide)) rfl rfl) rfl hl.1 rfl (lv_room (Nat.le_of_ble_eq_true rfl)) zd_X_received_2 ⟨Nat.zero_le _, Nat.zero_le _⟩ (fun rx sx H locs hp hP hD hS => ?_)
  obtain ⟨hr9, hs, hok9⟩ := hp
  rw [hr9]
  rw [hs] at hP hD
  refine pw_split (fun hz1 => ?_) (fun hz1 => ?_)
  · skip
    refine lv_astore_nN (lv' := [(2, .null), (0, .ref (ad 0 0)), (1, .int f)]) hx hb zd_X_received_5 rfl hl (by decide) rfl (fun ls hl => ?_)
    refine lv_aload_nN hx hb zd_X_received_6 rfl (lv_at hl 0 rfl) ?_
    refine lv_ifnonnullN hx hb zd_X_received_7 ?_
    refine lv_iconst (v := 0) hx hb zd_X_received_10 (by decide) ?_
    refine lv_goto (tgt := 18) hx hb zd_X_received_11 (by decide) ?_
    exact W.iret (v := 0) hx hb hr (fun t ht hW => ⟨⟨0, st, rfl, ⟨(by simp only [cf_qF, if_pos hz1, fb_b_t, fb_b_f]), rfl, hok⟩, by rw [ht]; exact hP, va_K.moved hW.alike hK, hD⟩, hS.F ht⟩) hS.2.2 zd_X_received_18
  · skip
    refine lv_astore_n (lv' := [(2, .ref (ad 6 (fb_n (cf_flowAt st f)))), (0, .ref (ad 0 0)), (1, .int f)]) hx hb zd_X_received_5 rfl hl (by decide) rfl (fun ls hl => ?_)
    refine lv_aload_n hx hb zd_X_received_6 rfl (lv_at hl 0 rfl) ?_
    refine lv_ifnonnull (tgt := 14) hx hb zd_X_received_7 (by decide) ?_
    refine lv_aload_n hx hb zd_X_received_14 rfl (lv_at hl 0 rfl) ?_
    refine pw_get (C := "PausedFabric$Flow") (T := zT_F) (N := 12) hx hb hT zin_F hown hK hP (hL.2.2.2.2.1 _ (fb_rl (rg_flowAt hok hfl f) hz1)).1 rfl rfl 9 (by decide) (hT _ zi_190) (fun _ h9 => h9) rfl zd_X_received_15 ?_
    exact W.iret (v := st 30 (fb_n (cf_flowAt st f))) hx hb hr (fun t ht hW => ⟨⟨st 30 (fb_n (cf_flowAt st f)), st, rfl, ⟨(by simp only [cf_qF, if_neg hz1, fb_b_t, fb_b_f]), rfl, hok⟩, by rw [ht]; exact hP, va_K.moved hW.alike hK, hD⟩, hS.F ht⟩) hS.2.2 zd_X_received_18

set_option maxHeartbeats 4000000 in
set_option maxRecDepth 100000 in
theorem c_X_dropped (l : Launch) (D : va_G) (cA : Nat → ClassId) (ad : Nat → Nat → Nat) (LL : fb_L) (fl fr : Nat) (st : fb_S) (hL : fb_lvC LL fl fr) (hok : fb_okC fl fr st) (f : Int32) : fb_Mi l zy_X_dropped (zw_X_dropped :: lw_gd) { frames := 1, cells := 0, slots := 0, locals := 21 } (fb_cC cA) D fb_cl (fb_tys cA) ad LL st [.ref (ad 0 0), .int f] (fun rr st1 => rr = cf_qF st 31 f 0 ∧ st1 = st ∧ fb_okC fl fr st1) := by
  have hfl : fl ≤ 12 := hL.2.2.2.2.2.2.1
  have hfr : fr ≤ 100 := hL.2.2.2.2.2.2.2
  intro sz
  refine Met.ofW (cc := zb_X_dropped) (maxL := 3) (ret := (some .int)) (by decide) rfl ?_
  intro p e s m args below meth c s₁ B hml hv
  obtain ⟨rfl, hsz, hP, hK, hD0⟩ := hv
  have hx := B.exec
  have hb := B.bytes
  have hr := B.returns
  have hts := atoms_spec (ws := zw_X_dropped :: lw_gd) B.pre
  have hT : ∀ w ∈ lw_gd, w.before _ s = true := fun w h => hts w (List.mem_cons_of_mem _ h)
  have hown : s.vm.findClass "PausedFabric" = some m.cls := findClass_of_methodNamed B.named
  have hlocks := B.notSynchronized
  subst hsz
  have hD := fb_D_self (sz := s.heap.size) hD0
  have hS : va_S (fb_A ad LL s.heap.size) s.heap s.heap [] := va_S.rf
  have hl := lv_entry ([.ref (ad 0 0), .int f]) (n := 3) (Nat.le_of_ble_eq_true rfl)
  rw [lg_entry_eq]
  generalize (lg_sl ([.ref (ad 0 0), .int f]) ++ List.replicate (3 - (lg_sl ([.ref (ad 0 0), .int f])).length) Slot.unset).toArray = ls at hl ⊢
  have hl : lv_has ls 3 [(0, .ref (ad 0 0)), (1, .int f)] := hl
  refine lv_aload_n hx hb zd_X_dropped_0 rfl (lv_at hl 0 rfl) ?_
  refine lv_iload_n hx hb zd_X_dropped_1 rfl (lv_at hl 1 rfl) ?_
  refine pw_Vq (bytes := zb_X_flowAt) (maxL := 2) (ret := (some (.object "PausedFabric$Flow"))) (As := [.int f]) (rest := []) ⟨hx, hb, hml, hown, hT⟩ (c_X_flowAt l D cA ad LL fl fr st hL hok f) (cwV 1 hT (fb_gV zi_228 zi_230 zs_X_flowAt zi_1 zc_X_flowAt) rfl rfl rfl (by decide +kernel) ⟨Nat.le_of_ble_eq_true rfl, Nat.le_of_ble_eq_true rfl⟩) hK hP hD hS (fb_recv hK hP (hL.2.1 0 (by decide)) rfl rfl) rfl hl.1 rfl (lv_room (Nat.le_of_ble_eq_true rfl)) zd_X_dropped_2 ⟨Nat.zero_le _, Nat.zero_le _⟩ (fun rx sx H locs hp hP hD hS => ?_)
  obtain ⟨hr9, hs, hok9⟩ := hp
  rw [hr9]
  rw [hs] at hP hD
  refine pw_split (fun hz1 => ?_) (fun hz1 => ?_)
  · skip
    refine lv_astore_nN (lv' := [(2, .null), (0, .ref (ad 0 0)), (1, .int f)]) hx hb zd_X_dropped_5 rfl hl (by decide) rfl (fun ls hl => ?_)
    refine lv_aload_nN hx hb zd_X_dropped_6 rfl (lv_at hl 0 rfl) ?_
    refine lv_ifnonnullN hx hb zd_X_dropped_7 ?_
    refine lv_iconst (v := 0) hx hb zd_X_dropped_10 (by decide) ?_
    refine lv_goto (tgt := 18) hx hb zd_X_dropped_11 (by decide) ?_
    exact W.iret (v := 0) hx hb hr (fun t ht hW => ⟨⟨0, st, rfl, ⟨(by simp only [cf_qF, if_pos hz1, fb_b_t, fb_b_f]), rfl, hok⟩, by rw [ht]; exact hP, va_K.moved hW.alike hK, hD⟩, hS.F ht⟩) hS.2.2 zd_X_dropped_18
  · skip
    refine lv_astore_n (lv' := [(2, .ref (ad 6 (fb_n (cf_flowAt st f)))), (0, .ref (ad 0 0)), (1, .int f)]) hx hb zd_X_dropped_5 rfl hl (by decide) rfl (fun ls hl => ?_)
    refine lv_aload_n hx hb zd_X_dropped_6 rfl (lv_at hl 0 rfl) ?_
    refine lv_ifnonnull (tgt := 14) hx hb zd_X_dropped_7 (by decide) ?_
    refine lv_aload_n hx hb zd_X_dropped_14 rfl (lv_at hl 0 rfl) ?_
    refine pw_get (C := "PausedFabric$Flow") (T := zT_F) (N := 12) hx hb hT zin_F hown hK hP (hL.2.2.2.2.1 _ (fb_rl (rg_flowAt hok hfl f) hz1)).1 rfl rfl 10 (by decide) (hT _ zi_192) (fun _ h9 => h9) rfl zd_X_dropped_15 ?_
    exact W.iret (v := st 31 (fb_n (cf_flowAt st f))) hx hb hr (fun t ht hW => ⟨⟨st 31 (fb_n (cf_flowAt st f)), st, rfl, ⟨(by simp only [cf_qF, if_neg hz1, fb_b_t, fb_b_f]), rfl, hok⟩, by rw [ht]; exact hP, va_K.moved hW.alike hK, hD⟩, hS.F ht⟩) hS.2.2 zd_X_dropped_18

set_option maxHeartbeats 4000000 in
set_option maxRecDepth 100000 in
theorem c_X_last (l : Launch) (D : va_G) (cA : Nat → ClassId) (ad : Nat → Nat → Nat) (LL : fb_L) (fl fr : Nat) (st : fb_S) (hL : fb_lvC LL fl fr) (hok : fb_okC fl fr st) (f : Int32) : fb_Mi l zy_X_last (zw_X_last :: lw_gd) { frames := 1, cells := 0, slots := 0, locals := 21 } (fb_cC cA) D fb_cl (fb_tys cA) ad LL st [.ref (ad 0 0), .int f] (fun rr st1 => rr = cf_qF st 32 f (-1) ∧ st1 = st ∧ fb_okC fl fr st1) := by
  have hfl : fl ≤ 12 := hL.2.2.2.2.2.2.1
  have hfr : fr ≤ 100 := hL.2.2.2.2.2.2.2
  intro sz
  refine Met.ofW (cc := zb_X_last) (maxL := 3) (ret := (some .int)) (by decide) rfl ?_
  intro p e s m args below meth c s₁ B hml hv
  obtain ⟨rfl, hsz, hP, hK, hD0⟩ := hv
  have hx := B.exec
  have hb := B.bytes
  have hr := B.returns
  have hts := atoms_spec (ws := zw_X_last :: lw_gd) B.pre
  have hT : ∀ w ∈ lw_gd, w.before _ s = true := fun w h => hts w (List.mem_cons_of_mem _ h)
  have hown : s.vm.findClass "PausedFabric" = some m.cls := findClass_of_methodNamed B.named
  have hlocks := B.notSynchronized
  subst hsz
  have hD := fb_D_self (sz := s.heap.size) hD0
  have hS : va_S (fb_A ad LL s.heap.size) s.heap s.heap [] := va_S.rf
  have hl := lv_entry ([.ref (ad 0 0), .int f]) (n := 3) (Nat.le_of_ble_eq_true rfl)
  rw [lg_entry_eq]
  generalize (lg_sl ([.ref (ad 0 0), .int f]) ++ List.replicate (3 - (lg_sl ([.ref (ad 0 0), .int f])).length) Slot.unset).toArray = ls at hl ⊢
  have hl : lv_has ls 3 [(0, .ref (ad 0 0)), (1, .int f)] := hl
  refine lv_aload_n hx hb zd_X_last_0 rfl (lv_at hl 0 rfl) ?_
  refine lv_iload_n hx hb zd_X_last_1 rfl (lv_at hl 1 rfl) ?_
  refine pw_Vq (bytes := zb_X_flowAt) (maxL := 2) (ret := (some (.object "PausedFabric$Flow"))) (As := [.int f]) (rest := []) ⟨hx, hb, hml, hown, hT⟩ (c_X_flowAt l D cA ad LL fl fr st hL hok f) (cwV 1 hT (fb_gV zi_228 zi_230 zs_X_flowAt zi_1 zc_X_flowAt) rfl rfl rfl (by decide +kernel) ⟨Nat.le_of_ble_eq_true rfl, Nat.le_of_ble_eq_true rfl⟩) hK hP hD hS (fb_recv hK hP (hL.2.1 0 (by decide)) rfl rfl) rfl hl.1 rfl (lv_room (Nat.le_of_ble_eq_true rfl)) zd_X_last_2 ⟨Nat.zero_le _, Nat.zero_le _⟩ (fun rx sx H locs hp hP hD hS => ?_)
  obtain ⟨hr9, hs, hok9⟩ := hp
  rw [hr9]
  rw [hs] at hP hD
  refine pw_split (fun hz1 => ?_) (fun hz1 => ?_)
  · skip
    refine lv_astore_nN (lv' := [(2, .null), (0, .ref (ad 0 0)), (1, .int f)]) hx hb zd_X_last_5 rfl hl (by decide) rfl (fun ls hl => ?_)
    refine lv_aload_nN hx hb zd_X_last_6 rfl (lv_at hl 0 rfl) ?_
    refine lv_ifnonnullN hx hb zd_X_last_7 ?_
    refine lv_iconst (v := (-1)) hx hb zd_X_last_10 (by decide) ?_
    refine lv_goto (tgt := 18) hx hb zd_X_last_11 (by decide) ?_
    exact W.iret (v := (-1)) hx hb hr (fun t ht hW => ⟨⟨(-1), st, rfl, ⟨(by simp only [cf_qF, if_pos hz1, fb_b_t, fb_b_f]), rfl, hok⟩, by rw [ht]; exact hP, va_K.moved hW.alike hK, hD⟩, hS.F ht⟩) hS.2.2 zd_X_last_18
  · skip
    refine lv_astore_n (lv' := [(2, .ref (ad 6 (fb_n (cf_flowAt st f)))), (0, .ref (ad 0 0)), (1, .int f)]) hx hb zd_X_last_5 rfl hl (by decide) rfl (fun ls hl => ?_)
    refine lv_aload_n hx hb zd_X_last_6 rfl (lv_at hl 0 rfl) ?_
    refine lv_ifnonnull (tgt := 14) hx hb zd_X_last_7 (by decide) ?_
    refine lv_aload_n hx hb zd_X_last_14 rfl (lv_at hl 0 rfl) ?_
    refine pw_get (C := "PausedFabric$Flow") (T := zT_F) (N := 12) hx hb hT zin_F hown hK hP (hL.2.2.2.2.1 _ (fb_rl (rg_flowAt hok hfl f) hz1)).1 rfl rfl 11 (by decide) (hT _ zi_194) (fun _ h9 => h9) rfl zd_X_last_15 ?_
    exact W.iret (v := st 32 (fb_n (cf_flowAt st f))) hx hb hr (fun t ht hW => ⟨⟨st 32 (fb_n (cf_flowAt st f)), st, rfl, ⟨(by simp only [cf_qF, if_neg hz1, fb_b_t, fb_b_f]), rfl, hok⟩, by rw [ht]; exact hP, va_K.moved hW.alike hK, hD⟩, hS.F ht⟩) hS.2.2 zd_X_last_18

set_option maxHeartbeats 4000000 in
set_option maxRecDepth 100000 in
theorem c_X_queued (l : Launch) (D : va_G) (cA : Nat → ClassId) (ad : Nat → Nat → Nat) (LL : fb_L) (fl fr : Nat) (st : fb_S) (hL : fb_lvC LL fl fr) (hok : fb_okC fl fr st) (u : Int32) (v : Int32) (q : Int32) : fb_Mi l zy_X_queued (zw_X_queued :: lw_gd) { frames := 1, cells := 0, slots := 0, locals := 26 } (fb_cC cA) D fb_cl (fb_tys cA) ad LL st [.ref (ad 0 0), .int u, .int v, .int q] (fun rr st1 => rr = cf_queued st u v q ∧ st1 = st ∧ fb_okC fl fr st1) := by
  have hfl : fl ≤ 12 := hL.2.2.2.2.2.2.1
  have hfr : fr ≤ 100 := hL.2.2.2.2.2.2.2
  intro sz
  refine Met.ofW (cc := zb_X_queued) (maxL := 5) (ret := (some .int)) (by decide) rfl ?_
  intro p e s m args below meth c s₁ B hml hv
  obtain ⟨rfl, hsz, hP, hK, hD0⟩ := hv
  have hx := B.exec
  have hb := B.bytes
  have hr := B.returns
  have hts := atoms_spec (ws := zw_X_queued :: lw_gd) B.pre
  have hT : ∀ w ∈ lw_gd, w.before _ s = true := fun w h => hts w (List.mem_cons_of_mem _ h)
  have hown : s.vm.findClass "PausedFabric" = some m.cls := findClass_of_methodNamed B.named
  have hlocks := B.notSynchronized
  subst hsz
  have hD := fb_D_self (sz := s.heap.size) hD0
  have hS : va_S (fb_A ad LL s.heap.size) s.heap s.heap [] := va_S.rf
  have hl := lv_entry ([.ref (ad 0 0), .int u, .int v, .int q]) (n := 5) (Nat.le_of_ble_eq_true rfl)
  rw [lg_entry_eq]
  generalize (lg_sl ([.ref (ad 0 0), .int u, .int v, .int q]) ++ List.replicate (5 - (lg_sl ([.ref (ad 0 0), .int u, .int v, .int q])).length) Slot.unset).toArray = ls at hl ⊢
  have hl : lv_has ls 5 [(0, .ref (ad 0 0)), (1, .int u), (2, .int v), (3, .int q)] := hl
  refine lv_aload_n hx hb zd_X_queued_0 rfl (lv_at hl 0 rfl) ?_
  refine lv_iload_n hx hb zd_X_queued_1 rfl (lv_at hl 1 rfl) ?_
  refine lv_iload_n hx hb zd_X_queued_2 rfl (lv_at hl 2 rfl) ?_
  refine pw_Vq (bytes := zb_X_portBetween) (maxL := 7) (ret := (some (.object "PausedFabric$Port"))) (As := [.int u, .int v]) (rest := []) ⟨hx, hb, hml, hown, hT⟩ (c_X_portBetween l D cA ad LL fl fr st hL hok u v) (cwV 2 hT (fb_gV zi_160 zi_162 zs_X_portBetween zi_1 zc_X_portBetween) rfl rfl rfl (by decide +kernel) ⟨Nat.le_of_ble_eq_true rfl, Nat.le_of_ble_eq_true rfl⟩) hK hP hD hS (fb_recv hK hP (hL.2.1 0 (by decide)) rfl rfl) rfl hl.1 rfl (lv_room (Nat.le_of_ble_eq_true rfl)) zd_X_queued_3 ⟨Nat.zero_le _, Nat.zero_le _⟩ (fun rx sx H locs hp hP hD hS => ?_)
  obtain ⟨hr9, hs, hok9⟩ := hp
  rw [hr9]
  rw [hs] at hP hD
  refine pw_split (fun hz1 => ?_) (fun hz1 => ?_)
  · skip
    refine lv_astoreN (lv' := [(4, .null), (0, .ref (ad 0 0)), (1, .int u), (2, .int v), (3, .int q)]) hx hb zd_X_queued_6 hl (by decide) rfl (fun ls hl => ?_)
    refine lv_aloadN hx hb zd_X_queued_8 (lv_at hl 0 rfl) ?_
    refine lv_ifnullN (tgt := 20) hx hb zd_X_queued_10 (by decide) ?_
    refine lv_iconst (v := (-1)) hx hb zd_X_queued_20 (by decide) ?_
    refine lv_goto (tgt := 34) hx hb zd_X_queued_21 (by decide) ?_
    exact W.iret (v := (-1)) hx hb hr (fun t ht hW => ⟨⟨(-1), st, rfl, ⟨(by simp only [cf_queued, if_pos hz1, fb_b_t, fb_b_f]), rfl, hok⟩, by rw [ht]; exact hP, va_K.moved hW.alike hK, hD⟩, hS.F ht⟩) hS.2.2 zd_X_queued_34
  · skip
    refine lv_astore (lv' := [(4, .ref (ad 5 (fb_n (cf_pb st u v 32 0)))), (0, .ref (ad 0 0)), (1, .int u), (2, .int v), (3, .int q)]) hx hb zd_X_queued_6 hl (by decide) rfl (fun ls hl => ?_)
    refine lv_aload hx hb zd_X_queued_8 (lv_at hl 0 rfl) ?_
    refine lv_ifnull hx hb zd_X_queued_10 ?_
    refine lv_iload_n hx hb zd_X_queued_13 rfl (lv_at hl 4 rfl) ?_
    refine pw_Si (bytes := zb_X_isPriority) (maxL := 1) (ret := (some .boolean)) (As := [.int q]) (rest := []) ⟨hx, hb, hml, hown, hT⟩ (c_X_isPriority l D cA (fb_cC cA) ad LL st q) (cwS 1 hT (fb_gS zi_152 zi_153 zi_1 zc_X_isPriority) rfl rfl rfl (by decide +kernel) ⟨Nat.le_of_ble_eq_true rfl, Nat.le_of_ble_eq_true rfl⟩) hK hP hD hS rfl hl.1 rfl (lv_room (Nat.le_of_ble_eq_true rfl)) zd_X_queued_14 ⟨Nat.zero_le _, Nat.zero_le _⟩ (fun rx sx H locs hp hP hD hS => ?_)
    obtain ⟨hr9, hs, hok9⟩ := hp
    rw [hr9]
    rw [hs] at hP hD
    refine lv_if_ne (tgt := 24) hx hb zd_X_queued_17 (by decide) (fun h2 => ?_) (fun h2 => ?_)
    · skip
      have h2b := fb_b1 h2
      refine lv_aload hx hb zd_X_queued_24 (lv_at hl 0 rfl) ?_
      refine pw_get (C := "PausedFabric$Port") (T := zT_P) (N := 11) hx hb hT zin_P hown hK hP (hL.2.2.1 _ (fb_rl (rg_pb u v 32 0 rfl) hz1)).1 rfl rfl 2 (by decide) (hT _ zi_67) (fun _ h9 => h9) rfl zd_X_queued_26 ?_
      refine lv_iload_n hx hb zd_X_queued_29 rfl (lv_at hl 4 rfl) ?_
      refine pw_aald (r := some (ad 11 (3 * (fb_n (cf_pb st u v 32 0)) + fb_n q))) hx hb hK hP (hL.2.2.1 _ (fb_rl (rg_pb u v 32 0 rfl) hz1)).2.1 4 rfl rfl (fb_prio h2b) (if_pos (fb_vl (fb_prio h2b))) zd_X_queued_30 ?_
      refine pw_get (C := "PausedFabric$FrameQueue") (T := zT_Q) (N := 3) hx hb hT zin_Q hown hK hP (hL.2.2.2.1 _ (fb_w96p (fb_rl (rg_pb u v 32 0 rfl) hz1) (fb_vl (fb_prio h2b)))) rfl rfl 2 (by decide) (hT _ zi_53) (fun _ h9 => h9) rfl zd_X_queued_31 ?_
      exact W.iret (v := st 21 (3 * (fb_n (cf_pb st u v 32 0)) + fb_n q)) hx hb hr (fun t ht hW => ⟨⟨st 21 (3 * (fb_n (cf_pb st u v 32 0)) + fb_n q), st, rfl, ⟨(by simp only [cf_queued, if_neg hz1, if_pos h2b, fb_b_t, fb_b_f]), rfl, hok⟩, by rw [ht]; exact hP, va_K.moved hW.alike hK, hD⟩, hS.F ht⟩) hS.2.2 zd_X_queued_34
    · skip
      have h2b := fb_b0 h2
      refine lv_iconst (v := (-1)) hx hb zd_X_queued_20 (by decide) ?_
      refine lv_goto (tgt := 34) hx hb zd_X_queued_21 (by decide) ?_
      exact W.iret (v := (-1)) hx hb hr (fun t ht hW => ⟨⟨(-1), st, rfl, ⟨(by simp only [cf_queued, if_neg hz1, if_neg h2b, fb_b_t, fb_b_f]), rfl, hok⟩, by rw [ht]; exact hP, va_K.moved hW.alike hK, hD⟩, hS.F ht⟩) hS.2.2 zd_X_queued_34

set_option maxHeartbeats 4000000 in
set_option maxRecDepth 100000 in
theorem c_X_held (l : Launch) (D : va_G) (cA : Nat → ClassId) (ad : Nat → Nat → Nat) (LL : fb_L) (fl fr : Nat) (st : fb_S) (hL : fb_lvC LL fl fr) (hok : fb_okC fl fr st) (u : Int32) (v : Int32) (q : Int32) : fb_Mi l zy_X_held (zw_X_held :: lw_gd) { frames := 1, cells := 0, slots := 0, locals := 26 } (fb_cC cA) D fb_cl (fb_tys cA) ad LL st [.ref (ad 0 0), .int u, .int v, .int q] (fun rr st1 => rr = cf_held st u v q ∧ st1 = st ∧ fb_okC fl fr st1) := by
  have hfl : fl ≤ 12 := hL.2.2.2.2.2.2.1
  have hfr : fr ≤ 100 := hL.2.2.2.2.2.2.2
  intro sz
  refine Met.ofW (cc := zb_X_held) (maxL := 5) (ret := (some .int)) (by decide) rfl ?_
  intro p e s m args below meth c s₁ B hml hv
  obtain ⟨rfl, hsz, hP, hK, hD0⟩ := hv
  have hx := B.exec
  have hb := B.bytes
  have hr := B.returns
  have hts := atoms_spec (ws := zw_X_held :: lw_gd) B.pre
  have hT : ∀ w ∈ lw_gd, w.before _ s = true := fun w h => hts w (List.mem_cons_of_mem _ h)
  have hown : s.vm.findClass "PausedFabric" = some m.cls := findClass_of_methodNamed B.named
  have hlocks := B.notSynchronized
  subst hsz
  have hD := fb_D_self (sz := s.heap.size) hD0
  have hS : va_S (fb_A ad LL s.heap.size) s.heap s.heap [] := va_S.rf
  have hl := lv_entry ([.ref (ad 0 0), .int u, .int v, .int q]) (n := 5) (Nat.le_of_ble_eq_true rfl)
  rw [lg_entry_eq]
  generalize (lg_sl ([.ref (ad 0 0), .int u, .int v, .int q]) ++ List.replicate (5 - (lg_sl ([.ref (ad 0 0), .int u, .int v, .int q])).length) Slot.unset).toArray = ls at hl ⊢
  have hl : lv_has ls 5 [(0, .ref (ad 0 0)), (1, .int u), (2, .int v), (3, .int q)] := hl
  refine lv_aload_n hx hb zd_X_held_0 rfl (lv_at hl 0 rfl) ?_
  refine lv_iload_n hx hb zd_X_held_1 rfl (lv_at hl 1 rfl) ?_
  refine lv_iload_n hx hb zd_X_held_2 rfl (lv_at hl 2 rfl) ?_
  refine pw_Vq (bytes := zb_X_portBetween) (maxL := 7) (ret := (some (.object "PausedFabric$Port"))) (As := [.int u, .int v]) (rest := []) ⟨hx, hb, hml, hown, hT⟩ (c_X_portBetween l D cA ad LL fl fr st hL hok u v) (cwV 2 hT (fb_gV zi_160 zi_162 zs_X_portBetween zi_1 zc_X_portBetween) rfl rfl rfl (by decide +kernel) ⟨Nat.le_of_ble_eq_true rfl, Nat.le_of_ble_eq_true rfl⟩) hK hP hD hS (fb_recv hK hP (hL.2.1 0 (by decide)) rfl rfl) rfl hl.1 rfl (lv_room (Nat.le_of_ble_eq_true rfl)) zd_X_held_3 ⟨Nat.zero_le _, Nat.zero_le _⟩ (fun rx sx H locs hp hP hD hS => ?_)
  obtain ⟨hr9, hs, hok9⟩ := hp
  rw [hr9]
  rw [hs] at hP hD
  refine pw_split (fun hz1 => ?_) (fun hz1 => ?_)
  · skip
    refine lv_astoreN (lv' := [(4, .null), (0, .ref (ad 0 0)), (1, .int u), (2, .int v), (3, .int q)]) hx hb zd_X_held_6 hl (by decide) rfl (fun ls hl => ?_)
    refine lv_aloadN hx hb zd_X_held_8 (lv_at hl 0 rfl) ?_
    refine lv_ifnullN (tgt := 20) hx hb zd_X_held_10 (by decide) ?_
    refine lv_iconst (v := (-1)) hx hb zd_X_held_20 (by decide) ?_
    refine lv_goto (tgt := 31) hx hb zd_X_held_21 (by decide) ?_
    exact W.iret (v := (-1)) hx hb hr (fun t ht hW => ⟨⟨(-1), st, rfl, ⟨(by simp only [cf_held, if_pos hz1, fb_b_t, fb_b_f]), rfl, hok⟩, by rw [ht]; exact hP, va_K.moved hW.alike hK, hD⟩, hS.F ht⟩) hS.2.2 zd_X_held_31
  · skip
    refine lv_astore (lv' := [(4, .ref (ad 5 (fb_n (cf_pb st u v 32 0)))), (0, .ref (ad 0 0)), (1, .int u), (2, .int v), (3, .int q)]) hx hb zd_X_held_6 hl (by decide) rfl (fun ls hl => ?_)
    refine lv_aload hx hb zd_X_held_8 (lv_at hl 0 rfl) ?_
    refine lv_ifnull hx hb zd_X_held_10 ?_
    refine lv_iload_n hx hb zd_X_held_13 rfl (lv_at hl 4 rfl) ?_
    refine pw_Si (bytes := zb_X_isPriority) (maxL := 1) (ret := (some .boolean)) (As := [.int q]) (rest := []) ⟨hx, hb, hml, hown, hT⟩ (c_X_isPriority l D cA (fb_cC cA) ad LL st q) (cwS 1 hT (fb_gS zi_152 zi_153 zi_1 zc_X_isPriority) rfl rfl rfl (by decide +kernel) ⟨Nat.le_of_ble_eq_true rfl, Nat.le_of_ble_eq_true rfl⟩) hK hP hD hS rfl hl.1 rfl (lv_room (Nat.le_of_ble_eq_true rfl)) zd_X_held_14 ⟨Nat.zero_le _, Nat.zero_le _⟩ (fun rx sx H locs hp hP hD hS => ?_)
    obtain ⟨hr9, hs, hok9⟩ := hp
    rw [hr9]
    rw [hs] at hP hD
    refine lv_if_ne (tgt := 24) hx hb zd_X_held_17 (by decide) (fun h2 => ?_) (fun h2 => ?_)
    · skip
      have h2b := fb_b1 h2
      refine lv_aload hx hb zd_X_held_24 (lv_at hl 0 rfl) ?_
      refine pw_get (C := "PausedFabric$Port") (T := zT_P) (N := 11) hx hb hT zin_P hown hK hP (hL.2.2.1 _ (fb_rl (rg_pb u v 32 0 rfl) hz1)).1 rfl rfl 7 (by decide) (hT _ zi_77) (fun _ h9 => h9) rfl zd_X_held_26 ?_
      refine lv_iload_n hx hb zd_X_held_29 rfl (lv_at hl 4 rfl) ?_
      refine pw_iald (v := st 18 (2 * (fb_n (cf_pb st u v 32 0)) + fb_n q)) hx hb hK hP (hL.2.2.1 _ (fb_rl (rg_pb u v 32 0 rfl) hz1)).2.2.2 0 rfl rfl (fb_prio h2b) (if_pos (fb_vl (fb_prio h2b))) zd_X_held_30 ?_
      exact W.iret (v := st 18 (2 * (fb_n (cf_pb st u v 32 0)) + fb_n q)) hx hb hr (fun t ht hW => ⟨⟨st 18 (2 * (fb_n (cf_pb st u v 32 0)) + fb_n q), st, rfl, ⟨(by simp only [cf_held, if_neg hz1, if_pos h2b, fb_b_t, fb_b_f]), rfl, hok⟩, by rw [ht]; exact hP, va_K.moved hW.alike hK, hD⟩, hS.F ht⟩) hS.2.2 zd_X_held_31
    · skip
      have h2b := fb_b0 h2
      refine lv_iconst (v := (-1)) hx hb zd_X_held_20 (by decide) ?_
      refine lv_goto (tgt := 31) hx hb zd_X_held_21 (by decide) ?_
      exact W.iret (v := (-1)) hx hb hr (fun t ht hW => ⟨⟨(-1), st, rfl, ⟨(by simp only [cf_held, if_neg hz1, if_neg h2b, fb_b_t, fb_b_f]), rfl, hok⟩, by rw [ht]; exact hP, va_K.moved hW.alike hK, hD⟩, hS.F ht⟩) hS.2.2 zd_X_held_31

set_option maxHeartbeats 4000000 in
set_option maxRecDepth 100000 in
theorem c_X_asks (l : Launch) (D : va_G) (cA : Nat → ClassId) (ad : Nat → Nat → Nat) (LL : fb_L) (fl fr : Nat) (st : fb_S) (hL : fb_lvC LL fl fr) (hok : fb_okC fl fr st) (u : Int32) (v : Int32) : fb_Mi l zy_X_asks (zw_X_asks :: lw_gd) { frames := 1, cells := 0, slots := 0, locals := 26 } (fb_cC cA) D fb_cl (fb_tys cA) ad LL st [.ref (ad 0 0), .int u, .int v] (fun rr st1 => rr = cf_qP st 14 u v ∧ st1 = st ∧ fb_okC fl fr st1) := by
  have hfl : fl ≤ 12 := hL.2.2.2.2.2.2.1
  have hfr : fr ≤ 100 := hL.2.2.2.2.2.2.2
  intro sz
  refine Met.ofW (cc := zb_X_asks) (maxL := 4) (ret := (some .boolean)) (by decide) rfl ?_
  intro p e s m args below meth c s₁ B hml hv
  obtain ⟨rfl, hsz, hP, hK, hD0⟩ := hv
  have hx := B.exec
  have hb := B.bytes
  have hr := B.returns
  have hts := atoms_spec (ws := zw_X_asks :: lw_gd) B.pre
  have hT : ∀ w ∈ lw_gd, w.before _ s = true := fun w h => hts w (List.mem_cons_of_mem _ h)
  have hown : s.vm.findClass "PausedFabric" = some m.cls := findClass_of_methodNamed B.named
  have hlocks := B.notSynchronized
  subst hsz
  have hD := fb_D_self (sz := s.heap.size) hD0
  have hS : va_S (fb_A ad LL s.heap.size) s.heap s.heap [] := va_S.rf
  have hl := lv_entry ([.ref (ad 0 0), .int u, .int v]) (n := 4) (Nat.le_of_ble_eq_true rfl)
  rw [lg_entry_eq]
  generalize (lg_sl ([.ref (ad 0 0), .int u, .int v]) ++ List.replicate (4 - (lg_sl ([.ref (ad 0 0), .int u, .int v])).length) Slot.unset).toArray = ls at hl ⊢
  have hl : lv_has ls 4 [(0, .ref (ad 0 0)), (1, .int u), (2, .int v)] := hl
  refine lv_aload_n hx hb zd_X_asks_0 rfl (lv_at hl 0 rfl) ?_
  refine lv_iload_n hx hb zd_X_asks_1 rfl (lv_at hl 1 rfl) ?_
  refine lv_iload_n hx hb zd_X_asks_2 rfl (lv_at hl 2 rfl) ?_
  refine pw_Vq (bytes := zb_X_portBetween) (maxL := 7) (ret := (some (.object "PausedFabric$Port"))) (As := [.int u, .int v]) (rest := []) ⟨hx, hb, hml, hown, hT⟩ (c_X_portBetween l D cA ad LL fl fr st hL hok u v) (cwV 2 hT (fb_gV zi_160 zi_162 zs_X_portBetween zi_1 zc_X_portBetween) rfl rfl rfl (by decide +kernel) ⟨Nat.le_of_ble_eq_true rfl, Nat.le_of_ble_eq_true rfl⟩) hK hP hD hS (fb_recv hK hP (hL.2.1 0 (by decide)) rfl rfl) rfl hl.1 rfl (lv_room (Nat.le_of_ble_eq_true rfl)) zd_X_asks_3 ⟨Nat.zero_le _, Nat.zero_le _⟩ (fun rx sx H locs hp hP hD hS => ?_)
  obtain ⟨hr9, hs, hok9⟩ := hp
  rw [hr9]
  rw [hs] at hP hD
  refine pw_split (fun hz1 => ?_) (fun hz1 => ?_)
  · skip
    refine lv_astore_nN (lv' := [(3, .null), (0, .ref (ad 0 0)), (1, .int u), (2, .int v)]) hx hb zd_X_asks_6 rfl hl (by decide) rfl (fun ls hl => ?_)
    refine lv_aload_nN hx hb zd_X_asks_7 rfl (lv_at hl 0 rfl) ?_
    refine lv_ifnullN (tgt := 22) hx hb zd_X_asks_8 (by decide) ?_
    refine lv_iconst (v := 0) hx hb zd_X_asks_22 (by decide) ?_
    exact W.zret (v := 0) hx hb hr rfl (fun t ht hW => ⟨⟨0, st, rfl, ⟨(by simp only [cf_qP, if_pos hz1, fb_b_t, fb_b_f]), rfl, hok⟩, by rw [ht]; exact hP, va_K.moved hW.alike hK, hD⟩, hS.F ht⟩) hS.2.2 zd_X_asks_23
  · skip
    refine lv_astore_n (lv' := [(3, .ref (ad 5 (fb_n (cf_pb st u v 32 0)))), (0, .ref (ad 0 0)), (1, .int u), (2, .int v)]) hx hb zd_X_asks_6 rfl hl (by decide) rfl (fun ls hl => ?_)
    refine lv_aload_n hx hb zd_X_asks_7 rfl (lv_at hl 0 rfl) ?_
    refine lv_ifnull hx hb zd_X_asks_8 ?_
    refine lv_aload_n hx hb zd_X_asks_11 rfl (lv_at hl 0 rfl) ?_
    refine pw_get (C := "PausedFabric$Port") (T := zT_P) (N := 11) hx hb hT zin_P hown hK hP (hL.2.2.1 _ (fb_rl (rg_pb u v 32 0 rfl) hz1)).1 rfl rfl 8 (by decide) (hT _ zi_79) (fun _ h9 => h9) rfl zd_X_asks_12 ?_
    refine lv_if_eq (tgt := 22) hx hb zd_X_asks_15 (by decide) (fun h2 => ?_) (fun h2 => ?_)
    · skip
      refine lv_iconst (v := 0) hx hb zd_X_asks_22 (by decide) ?_
      exact W.zret (v := 0) hx hb hr rfl (fun t ht hW => ⟨⟨0, st, rfl, ⟨(by simp only [cf_qP, if_neg hz1, if_pos h2, fb_b_t, fb_b_f]), rfl, hok⟩, by rw [ht]; exact hP, va_K.moved hW.alike hK, hD⟩, hS.F ht⟩) hS.2.2 zd_X_asks_23
    · skip
      refine lv_iconst (v := 1) hx hb zd_X_asks_18 (by decide) ?_
      refine lv_goto (tgt := 23) hx hb zd_X_asks_19 (by decide) ?_
      exact W.zret (v := 1) hx hb hr rfl (fun t ht hW => ⟨⟨1, st, rfl, ⟨(by simp only [cf_qP, if_neg hz1, if_neg h2, fb_b_t, fb_b_f]), rfl, hok⟩, by rw [ht]; exact hP, va_K.moved hW.alike hK, hD⟩, hS.F ht⟩) hS.2.2 zd_X_asks_23

set_option maxHeartbeats 4000000 in
set_option maxRecDepth 100000 in
theorem c_X_paused (l : Launch) (D : va_G) (cA : Nat → ClassId) (ad : Nat → Nat → Nat) (LL : fb_L) (fl fr : Nat) (st : fb_S) (hL : fb_lvC LL fl fr) (hok : fb_okC fl fr st) (u : Int32) (v : Int32) : fb_Mi l zy_X_paused (zw_X_paused :: lw_gd) { frames := 1, cells := 0, slots := 0, locals := 26 } (fb_cC cA) D fb_cl (fb_tys cA) ad LL st [.ref (ad 0 0), .int u, .int v] (fun rr st1 => rr = cf_qP st 16 u v ∧ st1 = st ∧ fb_okC fl fr st1) := by
  have hfl : fl ≤ 12 := hL.2.2.2.2.2.2.1
  have hfr : fr ≤ 100 := hL.2.2.2.2.2.2.2
  intro sz
  refine Met.ofW (cc := zb_X_paused) (maxL := 4) (ret := (some .boolean)) (by decide) rfl ?_
  intro p e s m args below meth c s₁ B hml hv
  obtain ⟨rfl, hsz, hP, hK, hD0⟩ := hv
  have hx := B.exec
  have hb := B.bytes
  have hr := B.returns
  have hts := atoms_spec (ws := zw_X_paused :: lw_gd) B.pre
  have hT : ∀ w ∈ lw_gd, w.before _ s = true := fun w h => hts w (List.mem_cons_of_mem _ h)
  have hown : s.vm.findClass "PausedFabric" = some m.cls := findClass_of_methodNamed B.named
  have hlocks := B.notSynchronized
  subst hsz
  have hD := fb_D_self (sz := s.heap.size) hD0
  have hS : va_S (fb_A ad LL s.heap.size) s.heap s.heap [] := va_S.rf
  have hl := lv_entry ([.ref (ad 0 0), .int u, .int v]) (n := 4) (Nat.le_of_ble_eq_true rfl)
  rw [lg_entry_eq]
  generalize (lg_sl ([.ref (ad 0 0), .int u, .int v]) ++ List.replicate (4 - (lg_sl ([.ref (ad 0 0), .int u, .int v])).length) Slot.unset).toArray = ls at hl ⊢
  have hl : lv_has ls 4 [(0, .ref (ad 0 0)), (1, .int u), (2, .int v)] := hl
  refine lv_aload_n hx hb zd_X_paused_0 rfl (lv_at hl 0 rfl) ?_
  refine lv_iload_n hx hb zd_X_paused_1 rfl (lv_at hl 1 rfl) ?_
  refine lv_iload_n hx hb zd_X_paused_2 rfl (lv_at hl 2 rfl) ?_
  refine pw_Vq (bytes := zb_X_portBetween) (maxL := 7) (ret := (some (.object "PausedFabric$Port"))) (As := [.int u, .int v]) (rest := []) ⟨hx, hb, hml, hown, hT⟩ (c_X_portBetween l D cA ad LL fl fr st hL hok u v) (cwV 2 hT (fb_gV zi_160 zi_162 zs_X_portBetween zi_1 zc_X_portBetween) rfl rfl rfl (by decide +kernel) ⟨Nat.le_of_ble_eq_true rfl, Nat.le_of_ble_eq_true rfl⟩) hK hP hD hS (fb_recv hK hP (hL.2.1 0 (by decide)) rfl rfl) rfl hl.1 rfl (lv_room (Nat.le_of_ble_eq_true rfl)) zd_X_paused_3 ⟨Nat.zero_le _, Nat.zero_le _⟩ (fun rx sx H locs hp hP hD hS => ?_)
  obtain ⟨hr9, hs, hok9⟩ := hp
  rw [hr9]
  rw [hs] at hP hD
  refine pw_split (fun hz1 => ?_) (fun hz1 => ?_)
  · skip
    refine lv_astore_nN (lv' := [(3, .null), (0, .ref (ad 0 0)), (1, .int u), (2, .int v)]) hx hb zd_X_paused_6 rfl hl (by decide) rfl (fun ls hl => ?_)
    refine lv_aload_nN hx hb zd_X_paused_7 rfl (lv_at hl 0 rfl) ?_
    refine lv_ifnullN (tgt := 22) hx hb zd_X_paused_8 (by decide) ?_
    refine lv_iconst (v := 0) hx hb zd_X_paused_22 (by decide) ?_
    exact W.zret (v := 0) hx hb hr rfl (fun t ht hW => ⟨⟨0, st, rfl, ⟨(by simp only [cf_qP, if_pos hz1, fb_b_t, fb_b_f]), rfl, hok⟩, by rw [ht]; exact hP, va_K.moved hW.alike hK, hD⟩, hS.F ht⟩) hS.2.2 zd_X_paused_23
  · skip
    refine lv_astore_n (lv' := [(3, .ref (ad 5 (fb_n (cf_pb st u v 32 0)))), (0, .ref (ad 0 0)), (1, .int u), (2, .int v)]) hx hb zd_X_paused_6 rfl hl (by decide) rfl (fun ls hl => ?_)
    refine lv_aload_n hx hb zd_X_paused_7 rfl (lv_at hl 0 rfl) ?_
    refine lv_ifnull hx hb zd_X_paused_8 ?_
    refine lv_aload_n hx hb zd_X_paused_11 rfl (lv_at hl 0 rfl) ?_
    refine pw_get (C := "PausedFabric$Port") (T := zT_P) (N := 11) hx hb hT zin_P hown hK hP (hL.2.2.1 _ (fb_rl (rg_pb u v 32 0 rfl) hz1)).1 rfl rfl 10 (by decide) (hT _ zi_83) (fun _ h9 => h9) rfl zd_X_paused_12 ?_
    refine lv_if_eq (tgt := 22) hx hb zd_X_paused_15 (by decide) (fun h2 => ?_) (fun h2 => ?_)
    · skip
      refine lv_iconst (v := 0) hx hb zd_X_paused_22 (by decide) ?_
      exact W.zret (v := 0) hx hb hr rfl (fun t ht hW => ⟨⟨0, st, rfl, ⟨(by simp only [cf_qP, if_neg hz1, if_pos h2, fb_b_t, fb_b_f]), rfl, hok⟩, by rw [ht]; exact hP, va_K.moved hW.alike hK, hD⟩, hS.F ht⟩) hS.2.2 zd_X_paused_23
    · skip
      refine lv_iconst (v := 1) hx hb zd_X_paused_18 (by decide) ?_
      refine lv_goto (tgt := 23) hx hb zd_X_paused_19 (by decide) ?_
      exact W.zret (v := 1) hx hb hr rfl (fun t ht hW => ⟨⟨1, st, rfl, ⟨(by simp only [cf_qP, if_neg hz1, if_neg h2, fb_b_t, fb_b_f]), rfl, hok⟩, by rw [ht]; exact hP, va_K.moved hW.alike hK, hD⟩, hS.F ht⟩) hS.2.2 zd_X_paused_23

set_option maxHeartbeats 4000000 in
set_option maxRecDepth 100000 in
theorem c_X_share (l : Launch) (D : va_G) (cA : Nat → ClassId) (ad : Nat → Nat → Nat) (LL : fb_L) (fl fr : Nat) (st : fb_S) (hL : fb_lvC LL fl fr) (hok : fb_okC fl fr st) (q : Int32) (x : Int32) : fb_Mi l zy_X_share (zw_X_share :: lw_gd) { frames := 1, cells := 0, slots := 0, locals := 20 } (fb_cC cA) D fb_cl (fb_tys cA) ad LL st [.ref (ad 0 0), .int q, .int x] (fun rr st1 => rr = cf_shareA q x ∧ st1 = cf_share q x st ∧ fb_okC fl fr st1) := by
  have hfl : fl ≤ 12 := hL.2.2.2.2.2.2.1
  have hfr : fr ≤ 100 := hL.2.2.2.2.2.2.2
  intro sz
  refine Met.ofW (cc := zb_X_share) (maxL := 3) (ret := (some .boolean)) (by decide) rfl ?_
  intro p e s m args below meth c s₁ B hml hv
  obtain ⟨rfl, hsz, hP, hK, hD0⟩ := hv
  have hx := B.exec
  have hb := B.bytes
  have hr := B.returns
  have hts := atoms_spec (ws := zw_X_share :: lw_gd) B.pre
  have hT : ∀ w ∈ lw_gd, w.before _ s = true := fun w h => hts w (List.mem_cons_of_mem _ h)
  have hown : s.vm.findClass "PausedFabric" = some m.cls := findClass_of_methodNamed B.named
  have hlocks := B.notSynchronized
  subst hsz
  have hD := fb_D_self (sz := s.heap.size) hD0
  have hS : va_S (fb_A ad LL s.heap.size) s.heap s.heap [] := va_S.rf
  have hl := lv_entry ([.ref (ad 0 0), .int q, .int x]) (n := 3) (Nat.le_of_ble_eq_true rfl)
  rw [lg_entry_eq]
  generalize (lg_sl ([.ref (ad 0 0), .int q, .int x]) ++ List.replicate (3 - (lg_sl ([.ref (ad 0 0), .int q, .int x])).length) Slot.unset).toArray = ls at hl ⊢
  have hl : lv_has ls 3 [(0, .ref (ad 0 0)), (1, .int q), (2, .int x)] := hl
  refine lv_iload_n hx hb zd_X_share_0 rfl (lv_at hl 1 rfl) ?_
  refine pw_Si (bytes := zb_X_isPriority) (maxL := 1) (ret := (some .boolean)) (As := [.int q]) (rest := []) ⟨hx, hb, hml, hown, hT⟩ (c_X_isPriority l D cA (fb_cC cA) ad LL st q) (cwS 1 hT (fb_gS zi_152 zi_153 zi_1 zc_X_isPriority) rfl rfl rfl (by decide +kernel) ⟨Nat.le_of_ble_eq_true rfl, Nat.le_of_ble_eq_true rfl⟩) hK hP hD hS rfl hl.1 rfl (lv_room (Nat.le_of_ble_eq_true rfl)) zd_X_share_1 ⟨Nat.zero_le _, Nat.zero_le _⟩ (fun rx sx H locs hp hP hD hS => ?_)
  obtain ⟨hr9, hs, hok9⟩ := hp
  rw [hr9]
  rw [hs] at hP hD
  refine lv_if_eq (tgt := 18) hx hb zd_X_share_4 (by decide) (fun h1 => ?_) (fun h1 => ?_)
  · skip
    have h1b := fb_b0 h1
    refine lv_iconst (v := 0) hx hb zd_X_share_18 (by decide) ?_
    exact W.zret (v := 0) hx hb hr rfl (fun t ht hW => ⟨⟨0, st, rfl, ⟨(by simp only [cf_shareA, cf_share, if_neg h1b, fb_b_t, fb_b_f]), (by simp only [cf_shareA, cf_share, if_neg h1b, fb_b_t, fb_b_f]), hok⟩, by rw [ht]; exact hP, va_K.moved hW.alike hK, hD⟩, hS.F ht⟩) hS.2.2 zd_X_share_19
  · skip
    have h1b := fb_b1 h1
    refine lv_iload_n hx hb zd_X_share_7 rfl (lv_at hl 2 rfl) ?_
    refine lv_iconst (v := 1) hx hb zd_X_share_8 (by decide) ?_
    refine lv_icmp_lt (tgt := 18) hx hb zd_X_share_9 (by decide) (fun h2 => ?_) (fun h2 => ?_)
    · skip
      refine lv_iconst (v := 0) hx hb zd_X_share_18 (by decide) ?_
      exact W.zret (v := 0) hx hb hr rfl (fun t ht hW => ⟨⟨0, st, rfl, ⟨(by simp only [cf_shareA, cf_share, if_pos h1b, if_pos h2, fb_b_t, fb_b_f]), (by simp only [cf_shareA, cf_share, if_pos h1b, if_pos h2, fb_b_t, fb_b_f]), hok⟩, by rw [ht]; exact hP, va_K.moved hW.alike hK, hD⟩, hS.F ht⟩) hS.2.2 zd_X_share_19
    · skip
      refine lv_iload_n hx hb zd_X_share_12 rfl (lv_at hl 2 rfl) ?_
      refine lv_bipush (v := 8) hx hb zd_X_share_13 (by decide) ?_
      refine lv_icmp_le (tgt := 20) hx hb zd_X_share_15 (by decide) (fun h3 => ?_) (fun h3 => ?_)
      · skip
        refine lv_aload_n hx hb zd_X_share_20 rfl (lv_at hl 0 rfl) ?_
        refine pw_get (C := "PausedFabric") (T := zT_X) (N := 11) hx hb hT zin_X hown hK hP (hL.2.1 0 (by decide)) rfl rfl 4 (by decide) (hT _ zi_118) (fun _ h9 => h9) rfl zd_X_share_21 ?_
        refine lv_iload_n hx hb zd_X_share_24 rfl (lv_at hl 1 rfl) ?_
        refine lv_iload_n hx hb zd_X_share_25 rfl (lv_at hl 2 rfl) ?_
        refine pw_iast hx hb hK hP hD hS (hL.2.1 1 (by decide)) 0 rfl rfl (fb_prio h1b) (fb_up st 7 (fb_n q) x) (pa_C7 _ _ _) (fb_hoC hL _ 7 _ _ ow_7 (ix_7 _)) zd_X_share_26 (fun H locs hP hD hS => ?_)
        obtain ⟨s4, es4⟩ : ∃ z, z = fb_up st 7 (fb_n q) x := ⟨_, rfl⟩
        have oks4 : fb_okC fl fr s4 := es4 ▸ (fb_okC_up hok (fun _ => ⟨fb_nlt h2, h3⟩))
        rw [← es4] at hP hD
        refine lv_iconst (v := 1) hx hb zd_X_share_27 (by decide) ?_
        exact W.zret (v := 1) hx hb hr rfl (fun t ht hW => ⟨⟨1, s4, rfl, ⟨(by subst es4; simp only [cf_shareA, cf_share, if_pos h1b, if_neg h2, if_pos h3, fb_b_t, fb_b_f]), (by subst es4; simp only [cf_shareA, cf_share, if_pos h1b, if_neg h2, if_pos h3, fb_b_t, fb_b_f]), oks4⟩, by rw [ht]; exact hP, va_K.moved hW.alike hK, hD⟩, hS.F ht⟩) hS.2.2 zd_X_share_28
      · skip
        refine lv_iconst (v := 0) hx hb zd_X_share_18 (by decide) ?_
        exact W.zret (v := 0) hx hb hr rfl (fun t ht hW => ⟨⟨0, st, rfl, ⟨(by simp only [cf_shareA, cf_share, if_pos h1b, if_neg h2, if_neg h3, fb_b_t, fb_b_f]), (by simp only [cf_shareA, cf_share, if_pos h1b, if_neg h2, if_neg h3, fb_b_t, fb_b_f]), hok⟩, by rw [ht]; exact hP, va_K.moved hW.alike hK, hD⟩, hS.F ht⟩) hS.2.2 zd_X_share_19
