/-! contracts (by program) -/
set_option maxHeartbeats 4000000 in
set_option maxRecDepth 100000 in
theorem c_M_nearest (l : Launch) (D : va_G) (cA : Nat → ClassId) (cn : fb_C) (ad : Nat → Nat → Nat) (LL : fb_L) (st : fb_S) (v : Int32) (lo : Int32) (hi : Int32) : fb_Mi l zy_M_nearest (zw_M_nearest :: lw_gd) { frames := 0, cells := 0, slots := 0, locals := 0 } cn D fb_cl (fb_tys cA) ad LL st [.int v, .int lo, .int hi] (fun rr st1 => rr = mf_near v lo hi ∧ st1 = st ∧ True) := by
  intro sz
  refine Met.ofW (cc := zb_M_nearest) (maxL := 3) (ret := (some .int)) (by decide) rfl ?_
  intro p e s m args below meth c s₁ B hml hv
  obtain ⟨rfl, hsz, hP, hK, hD0⟩ := hv
  have hx := B.exec
  have hb := B.bytes
  have hr := B.returns
  have hts := atoms_spec (ws := zw_M_nearest :: lw_gd) B.pre
  have hT : ∀ w ∈ lw_gd, w.before _ s = true := fun w h => hts w (List.mem_cons_of_mem _ h)
  have hown : s.vm.findClass "PausedFabricModel" = some m.cls := findClass_of_methodNamed B.named
  have hlocks := B.notSynchronized
  subst hsz
  have hD := fb_D_self (sz := s.heap.size) hD0
  have hS : va_S (fb_A ad LL s.heap.size) s.heap s.heap [] := va_S.rf
  have hl := lv_entry ([.int v, .int lo, .int hi]) (n := 3) (Nat.le_of_ble_eq_true rfl)
  rw [lg_entry_eq]
  generalize (lg_sl ([.int v, .int lo, .int hi]) ++ List.replicate (3 - (lg_sl ([.int v, .int lo, .int hi])).length) Slot.unset).toArray = ls at hl ⊢
  have hl : lv_has ls 3 [(0, .int v), (1, .int lo), (2, .int hi)] := hl
  refine lv_iload_n hx hb zd_M_nearest_0 rfl (lv_at hl 0 rfl) ?_
  refine lv_iload_n hx hb zd_M_nearest_1 rfl (lv_at hl 1 rfl) ?_
  refine lv_icmp_ge (tgt := 9) hx hb zd_M_nearest_2 (by decide) (fun h1 => ?_) (fun h1 => ?_)
  · skip
    refine lv_iload_n hx hb zd_M_nearest_9 rfl (lv_at hl 0 rfl) ?_
    refine lv_iload_n hx hb zd_M_nearest_10 rfl (lv_at hl 2 rfl) ?_
    refine lv_icmp_le (tgt := 18) hx hb zd_M_nearest_11 (by decide) (fun h2 => ?_) (fun h2 => ?_)
    · skip
      refine lv_iload_n hx hb zd_M_nearest_18 rfl (lv_at hl 0 rfl) ?_
      exact W.iret (v := v) hx hb hr (fun t ht hW => ⟨⟨v, st, rfl, ⟨(by simp only [mf_near, if_pos h1, if_pos h2, fb_b_t, fb_b_f]), rfl, trivial⟩, by rw [ht]; exact hP, va_K.moved hW.alike hK, hD⟩, hS.F ht⟩) hS.2.2 zd_M_nearest_19
    · skip
      refine lv_iload_n hx hb zd_M_nearest_14 rfl (lv_at hl 2 rfl) ?_
      refine lv_goto (tgt := 19) hx hb zd_M_nearest_15 (by decide) ?_
      exact W.iret (v := hi) hx hb hr (fun t ht hW => ⟨⟨hi, st, rfl, ⟨(by simp only [mf_near, if_pos h1, if_neg h2, fb_b_t, fb_b_f]), rfl, trivial⟩, by rw [ht]; exact hP, va_K.moved hW.alike hK, hD⟩, hS.F ht⟩) hS.2.2 zd_M_nearest_19
  · skip
    refine lv_iload_n hx hb zd_M_nearest_5 rfl (lv_at hl 1 rfl) ?_
    refine lv_goto (tgt := 19) hx hb zd_M_nearest_6 (by decide) ?_
    exact W.iret (v := lo) hx hb hr (fun t ht hW => ⟨⟨lo, st, rfl, ⟨(by simp only [mf_near, if_neg h1, fb_b_t, fb_b_f]), rfl, trivial⟩, by rw [ht]; exact hP, va_K.moved hW.alike hK, hD⟩, hS.F ht⟩) hS.2.2 zd_M_nearest_19

set_option maxHeartbeats 4000000 in
set_option maxRecDepth 100000 in
theorem c_M_isPort (l : Launch) (D : va_G) (cA : Nat → ClassId) (cn : fb_C) (ad : Nat → Nat → Nat) (LL : fb_L) (st : fb_S) (u : Int32) (v : Int32) : fb_Mi l zy_M_isPort (zw_M_isPort :: lw_gd) { frames := 0, cells := 0, slots := 0, locals := 0 } cn D fb_cl (fb_tys cA) ad LL st [.int u, .int v] (fun rr st1 => rr = fb_b (mf_port u v) ∧ st1 = st ∧ True) := by
  intro sz
  refine Met.ofW (cc := zb_M_isPort) (maxL := 4) (ret := (some .boolean)) (by decide) rfl ?_
  intro p e s m args below meth c s₁ B hml hv
  obtain ⟨rfl, hsz, hP, hK, hD0⟩ := hv
  have hx := B.exec
  have hb := B.bytes
  have hr := B.returns
  have hts := atoms_spec (ws := zw_M_isPort :: lw_gd) B.pre
  have hT : ∀ w ∈ lw_gd, w.before _ s = true := fun w h => hts w (List.mem_cons_of_mem _ h)
  have hown : s.vm.findClass "PausedFabricModel" = some m.cls := findClass_of_methodNamed B.named
  have hlocks := B.notSynchronized
  subst hsz
  have hD := fb_D_self (sz := s.heap.size) hD0
  have hS : va_S (fb_A ad LL s.heap.size) s.heap s.heap [] := va_S.rf
  have hl := lv_entry ([.int u, .int v]) (n := 4) (Nat.le_of_ble_eq_true rfl)
  rw [lg_entry_eq]
  generalize (lg_sl ([.int u, .int v]) ++ List.replicate (4 - (lg_sl ([.int u, .int v])).length) Slot.unset).toArray = ls at hl ⊢
  have hl : lv_has ls 4 [(0, .int u), (1, .int v)] := hl
  refine lv_iload_n hx hb zd_M_isPort_0 rfl (lv_at hl 0 rfl) ?_
  refine lv_if_lt (tgt := 20) hx hb zd_M_isPort_1 (by decide) (fun h1 => ?_) (fun h1 => ?_)
  · skip
    refine lv_iconst (v := 0) hx hb zd_M_isPort_20 (by decide) ?_
    exact W.zret (v := 0) hx hb hr rfl (fun t ht hW => ⟨⟨0, st, rfl, ⟨(by simp only [mf_port, mf_link, if_pos h1, fb_b_t, fb_b_f]), rfl, trivial⟩, by rw [ht]; exact hP, va_K.moved hW.alike hK, hD⟩, hS.F ht⟩) hS.2.2 zd_M_isPort_21
  · skip
    refine lv_iload_n hx hb zd_M_isPort_4 rfl (lv_at hl 1 rfl) ?_
    refine lv_if_lt (tgt := 20) hx hb zd_M_isPort_5 (by decide) (fun h2 => ?_) (fun h2 => ?_)
    · skip
      refine lv_iconst (v := 0) hx hb zd_M_isPort_20 (by decide) ?_
      exact W.zret (v := 0) hx hb hr rfl (fun t ht hW => ⟨⟨0, st, rfl, ⟨(by simp only [mf_port, mf_link, if_neg h1, if_pos h2, fb_b_t, fb_b_f]), rfl, trivial⟩, by rw [ht]; exact hP, va_K.moved hW.alike hK, hD⟩, hS.F ht⟩) hS.2.2 zd_M_isPort_21
    · skip
      refine lv_iload_n hx hb zd_M_isPort_8 rfl (lv_at hl 0 rfl) ?_
      refine lv_bipush (v := 13) hx hb zd_M_isPort_9 (by decide) ?_
      refine lv_icmp_gt (tgt := 20) hx hb zd_M_isPort_11 (by decide) (fun h3 => ?_) (fun h3 => ?_)
      · skip
        refine lv_iconst (v := 0) hx hb zd_M_isPort_20 (by decide) ?_
        exact W.zret (v := 0) hx hb hr rfl (fun t ht hW => ⟨⟨0, st, rfl, ⟨(by simp only [mf_port, mf_link, if_neg h1, if_neg h2, if_pos h3, fb_b_t, fb_b_f]), rfl, trivial⟩, by rw [ht]; exact hP, va_K.moved hW.alike hK, hD⟩, hS.F ht⟩) hS.2.2 zd_M_isPort_21
      · skip
        refine lv_iload_n hx hb zd_M_isPort_14 rfl (lv_at hl 1 rfl) ?_
        refine lv_bipush (v := 13) hx hb zd_M_isPort_15 (by decide) ?_
        refine lv_icmp_le (tgt := 22) hx hb zd_M_isPort_17 (by decide) (fun h4 => ?_) (fun h4 => ?_)
        · skip
          refine lv_iload_n hx hb zd_M_isPort_22 rfl (lv_at hl 0 rfl) ?_
          refine lv_iload_n hx hb zd_M_isPort_23 rfl (lv_at hl 1 rfl) ?_
          refine lv_icmp_ge (tgt := 31) hx hb zd_M_isPort_24 (by decide) (fun h5 => ?_) (fun h5 => ?_)
          · skip
            refine lv_iload_n hx hb zd_M_isPort_31 rfl (lv_at hl 1 rfl) ?_
            refine lv_istore_n (lv' := [(2, .int v), (0, .int u), (1, .int v)]) hx hb zd_M_isPort_32 rfl hl (by decide) rfl (fun ls hl => ?_)
            refine lv_iload_n hx hb zd_M_isPort_33 rfl (lv_at hl 1 rfl) ?_
            refine lv_iload_n hx hb zd_M_isPort_34 rfl (lv_at hl 2 rfl) ?_
            refine lv_icmp_ge (tgt := 42) hx hb zd_M_isPort_35 (by decide) (fun _ => ?_) (fun h9 => absurd h5 h9)
            refine lv_iload_n hx hb zd_M_isPort_42 rfl (lv_at hl 1 rfl) ?_
            refine lv_istore_n (lv' := [(3, .int u), (2, .int v), (0, .int u), (1, .int v)]) hx hb zd_M_isPort_43 rfl hl (by decide) rfl (fun ls hl => ?_)
            refine lv_iload_n hx hb zd_M_isPort_44 rfl (lv_at hl 1 rfl) ?_
            refine lv_bipush (v := 8) hx hb zd_M_isPort_45 (by decide) ?_
            refine lv_icmp_ge (tgt := 68) hx hb zd_M_isPort_47 (by decide) (fun h6 => ?_) (fun h6 => ?_)
            · skip
              refine lv_iload_n hx hb zd_M_isPort_68 rfl (lv_at hl 1 rfl) ?_
              refine lv_bipush (v := 12) hx hb zd_M_isPort_69 (by decide) ?_
              refine lv_icmp_ge (tgt := 84) hx hb zd_M_isPort_71 (by decide) (fun h7 => ?_) (fun h7 => ?_)
              · skip
                refine lv_iconst (v := 0) hx hb zd_M_isPort_84 (by decide) ?_
                exact W.zret (v := 0) hx hb hr rfl (fun t ht hW => ⟨⟨0, st, rfl, ⟨(by simp only [mf_port, mf_link, if_neg h1, if_neg h2, if_neg h3, if_pos h4, if_pos h5, if_pos h6, if_pos h7, fb_b_t, fb_b_f]), rfl, trivial⟩, by rw [ht]; exact hP, va_K.moved hW.alike hK, hD⟩, hS.F ht⟩) hS.2.2 zd_M_isPort_85
              · skip
                refine lv_iload_n hx hb zd_M_isPort_74 rfl (lv_at hl 0 rfl) ?_
                refine lv_bipush (v := 11) hx hb zd_M_isPort_75 (by decide) ?_
                refine lv_icmp_le (tgt := 84) hx hb zd_M_isPort_77 (by decide) (fun h8 => ?_) (fun h8 => ?_)
                · skip
                  refine lv_iconst (v := 0) hx hb zd_M_isPort_84 (by decide) ?_
                  exact W.zret (v := 0) hx hb hr rfl (fun t ht hW => ⟨⟨0, st, rfl, ⟨(by simp only [mf_port, mf_link, if_neg h1, if_neg h2, if_neg h3, if_pos h4, if_pos h5, if_pos h6, if_neg h7, if_pos h8, fb_b_t, fb_b_f]), rfl, trivial⟩, by rw [ht]; exact hP, va_K.moved hW.alike hK, hD⟩, hS.F ht⟩) hS.2.2 zd_M_isPort_85
                · skip
                  refine lv_iconst (v := 1) hx hb zd_M_isPort_80 (by decide) ?_
                  refine lv_goto (tgt := 85) hx hb zd_M_isPort_81 (by decide) ?_
                  exact W.zret (v := 1) hx hb hr rfl (fun t ht hW => ⟨⟨1, st, rfl, ⟨(by simp only [mf_port, mf_link, if_neg h1, if_neg h2, if_neg h3, if_pos h4, if_pos h5, if_pos h6, if_neg h7, if_neg h8, fb_b_t, fb_b_f]), rfl, trivial⟩, by rw [ht]; exact hP, va_K.moved hW.alike hK, hD⟩, hS.F ht⟩) hS.2.2 zd_M_isPort_85
            · skip
              refine lv_iload_n hx hb zd_M_isPort_50 rfl (lv_at hl 0 rfl) ?_
              refine lv_bipush (v := 8) hx hb zd_M_isPort_51 (by decide) ?_
              refine lv_iload_n hx hb zd_M_isPort_53 rfl (lv_at hl 1 rfl) ?_
              refine lv_iconst (v := 2) hx hb zd_M_isPort_54 (by decide) ?_
              refine lv_idiv hx hb zd_M_isPort_55 (by decide) ?_
              refine lv_iadd hx hb zd_M_isPort_56 ?_
              refine lv_icmp_ne (tgt := 64) hx hb zd_M_isPort_57 (by decide) (fun h9 => ?_) (fun h9 => ?_)
              · skip
                refine lv_iconst (v := 0) hx hb zd_M_isPort_64 (by decide) ?_
                refine lv_goto (tgt := 85) hx hb zd_M_isPort_65 (by decide) ?_
                exact W.zret (v := 0) hx hb hr rfl (fun t ht hW => ⟨⟨0, st, rfl, ⟨(by simp only [mf_port, mf_link, if_neg h1, if_neg h2, if_neg h3, if_pos h4, if_pos h5, if_neg h6, if_neg h9, fb_b_t, fb_b_f]), rfl, trivial⟩, by rw [ht]; exact hP, va_K.moved hW.alike hK, hD⟩, hS.F ht⟩) hS.2.2 zd_M_isPort_85
              · skip
                refine lv_iconst (v := 1) hx hb zd_M_isPort_60 (by decide) ?_
                refine lv_goto (tgt := 85) hx hb zd_M_isPort_61 (by decide) ?_
                exact W.zret (v := 1) hx hb hr rfl (fun t ht hW => ⟨⟨1, st, rfl, ⟨(by simp only [mf_port, mf_link, if_neg h1, if_neg h2, if_neg h3, if_pos h4, if_pos h5, if_neg h6, if_pos h9, fb_b_t, fb_b_f]), rfl, trivial⟩, by rw [ht]; exact hP, va_K.moved hW.alike hK, hD⟩, hS.F ht⟩) hS.2.2 zd_M_isPort_85
          · skip
            refine lv_iload_n hx hb zd_M_isPort_27 rfl (lv_at hl 0 rfl) ?_
            refine lv_goto (tgt := 32) hx hb zd_M_isPort_28 (by decide) ?_
            refine lv_istore_n (lv' := [(2, .int u), (0, .int u), (1, .int v)]) hx hb zd_M_isPort_32 rfl hl (by decide) rfl (fun ls hl => ?_)
            refine lv_iload_n hx hb zd_M_isPort_33 rfl (lv_at hl 1 rfl) ?_
            refine lv_iload_n hx hb zd_M_isPort_34 rfl (lv_at hl 2 rfl) ?_
            refine lv_icmp_ge (tgt := 42) hx hb zd_M_isPort_35 (by decide) (fun h9 => absurd h9 h5) (fun _ => ?_)
            refine lv_iload_n hx hb zd_M_isPort_38 rfl (lv_at hl 2 rfl) ?_
            refine lv_goto (tgt := 43) hx hb zd_M_isPort_39 (by decide) ?_
            refine lv_istore_n (lv' := [(3, .int v), (2, .int u), (0, .int u), (1, .int v)]) hx hb zd_M_isPort_43 rfl hl (by decide) rfl (fun ls hl => ?_)
            refine lv_iload_n hx hb zd_M_isPort_44 rfl (lv_at hl 1 rfl) ?_
            refine lv_bipush (v := 8) hx hb zd_M_isPort_45 (by decide) ?_
            refine lv_icmp_ge (tgt := 68) hx hb zd_M_isPort_47 (by decide) (fun h10 => ?_) (fun h10 => ?_)
            · skip
              refine lv_iload_n hx hb zd_M_isPort_68 rfl (lv_at hl 1 rfl) ?_
              refine lv_bipush (v := 12) hx hb zd_M_isPort_69 (by decide) ?_
              refine lv_icmp_ge (tgt := 84) hx hb zd_M_isPort_71 (by decide) (fun h11 => ?_) (fun h11 => ?_)
              · skip
                refine lv_iconst (v := 0) hx hb zd_M_isPort_84 (by decide) ?_
                exact W.zret (v := 0) hx hb hr rfl (fun t ht hW => ⟨⟨0, st, rfl, ⟨(by simp only [mf_port, mf_link, if_neg h1, if_neg h2, if_neg h3, if_pos h4, if_neg h5, if_pos h10, if_pos h11, fb_b_t, fb_b_f]), rfl, trivial⟩, by rw [ht]; exact hP, va_K.moved hW.alike hK, hD⟩, hS.F ht⟩) hS.2.2 zd_M_isPort_85
              · skip
                refine lv_iload_n hx hb zd_M_isPort_74 rfl (lv_at hl 0 rfl) ?_
                refine lv_bipush (v := 11) hx hb zd_M_isPort_75 (by decide) ?_
                refine lv_icmp_le (tgt := 84) hx hb zd_M_isPort_77 (by decide) (fun h12 => ?_) (fun h12 => ?_)
                · skip
                  refine lv_iconst (v := 0) hx hb zd_M_isPort_84 (by decide) ?_
                  exact W.zret (v := 0) hx hb hr rfl (fun t ht hW => ⟨⟨0, st, rfl, ⟨(by simp only [mf_port, mf_link, if_neg h1, if_neg h2, if_neg h3, if_pos h4, if_neg h5, if_pos h10, if_neg h11, if_pos h12, fb_b_t, fb_b_f]), rfl, trivial⟩, by rw [ht]; exact hP, va_K.moved hW.alike hK, hD⟩, hS.F ht⟩) hS.2.2 zd_M_isPort_85
                · skip
                  refine lv_iconst (v := 1) hx hb zd_M_isPort_80 (by decide) ?_
                  refine lv_goto (tgt := 85) hx hb zd_M_isPort_81 (by decide) ?_
                  exact W.zret (v := 1) hx hb hr rfl (fun t ht hW => ⟨⟨1, st, rfl, ⟨(by simp only [mf_port, mf_link, if_neg h1, if_neg h2, if_neg h3, if_pos h4, if_neg h5, if_pos h10, if_neg h11, if_neg h12, fb_b_t, fb_b_f]), rfl, trivial⟩, by rw [ht]; exact hP, va_K.moved hW.alike hK, hD⟩, hS.F ht⟩) hS.2.2 zd_M_isPort_85
            · skip
              refine lv_iload_n hx hb zd_M_isPort_50 rfl (lv_at hl 0 rfl) ?_
              refine lv_bipush (v := 8) hx hb zd_M_isPort_51 (by decide) ?_
              refine lv_iload_n hx hb zd_M_isPort_53 rfl (lv_at hl 1 rfl) ?_
              refine lv_iconst (v := 2) hx hb zd_M_isPort_54 (by decide) ?_
              refine lv_idiv hx hb zd_M_isPort_55 (by decide) ?_
              refine lv_iadd hx hb zd_M_isPort_56 ?_
              refine lv_icmp_ne (tgt := 64) hx hb zd_M_isPort_57 (by decide) (fun h13 => ?_) (fun h13 => ?_)
              · skip
                refine lv_iconst (v := 0) hx hb zd_M_isPort_64 (by decide) ?_
                refine lv_goto (tgt := 85) hx hb zd_M_isPort_65 (by decide) ?_
                exact W.zret (v := 0) hx hb hr rfl (fun t ht hW => ⟨⟨0, st, rfl, ⟨(by simp only [mf_port, mf_link, if_neg h1, if_neg h2, if_neg h3, if_pos h4, if_neg h5, if_neg h10, if_neg h13, fb_b_t, fb_b_f]), rfl, trivial⟩, by rw [ht]; exact hP, va_K.moved hW.alike hK, hD⟩, hS.F ht⟩) hS.2.2 zd_M_isPort_85
              · skip
                refine lv_iconst (v := 1) hx hb zd_M_isPort_60 (by decide) ?_
                refine lv_goto (tgt := 85) hx hb zd_M_isPort_61 (by decide) ?_
                exact W.zret (v := 1) hx hb hr rfl (fun t ht hW => ⟨⟨1, st, rfl, ⟨(by simp only [mf_port, mf_link, if_neg h1, if_neg h2, if_neg h3, if_pos h4, if_neg h5, if_neg h10, if_pos h13, fb_b_t, fb_b_f]), rfl, trivial⟩, by rw [ht]; exact hP, va_K.moved hW.alike hK, hD⟩, hS.F ht⟩) hS.2.2 zd_M_isPort_85
        · skip
          refine lv_iconst (v := 0) hx hb zd_M_isPort_20 (by decide) ?_
          exact W.zret (v := 0) hx hb hr rfl (fun t ht hW => ⟨⟨0, st, rfl, ⟨(by simp only [mf_port, mf_link, if_neg h1, if_neg h2, if_neg h3, if_neg h4, fb_b_t, fb_b_f]), rfl, trivial⟩, by rw [ht]; exact hP, va_K.moved hW.alike hK, hD⟩, hS.F ht⟩) hS.2.2 zd_M_isPort_21

set_option maxHeartbeats 4000000 in
set_option maxRecDepth 100000 in
theorem c_M_isFlow (l : Launch) (D : va_G) (cA : Nat → ClassId) (ad : Nat → Nat → Nat) (fl fr T : Nat) (st : fb_S) (hflr : fl ≤ 12 ∧ fr ≤ 100 ∧ T ≤ 30000) (hok : fb_okM fl fr T st) (f : Int32) : fb_Mi l zy_M_isFlow (zw_M_isFlow :: lw_gd) { frames := 0, cells := 0, slots := 0, locals := 0 } (fb_cM cA) D fb_cl (fb_tys cA) ad fb_LM st [.ref (ad 0 0), .int f] (fun rr st1 => rr = fb_b (mf_isF st f) ∧ st1 = st ∧ fb_okM fl fr T st1) := by
  have hfl : fl ≤ 12 := hflr.1
  have hfr : fr ≤ 100 := hflr.2.1
  have hTb : T ≤ 30000 := hflr.2.2
  intro sz
  refine Met.ofW (cc := zb_M_isFlow) (maxL := 2) (ret := (some .boolean)) (by decide) rfl ?_
  intro p e s m args below meth c s₁ B hml hv
  obtain ⟨rfl, hsz, hP, hK, hD0⟩ := hv
  have hx := B.exec
  have hb := B.bytes
  have hr := B.returns
  have hts := atoms_spec (ws := zw_M_isFlow :: lw_gd) B.pre
  have hT : ∀ w ∈ lw_gd, w.before _ s = true := fun w h => hts w (List.mem_cons_of_mem _ h)
  have hown : s.vm.findClass "PausedFabricModel" = some m.cls := findClass_of_methodNamed B.named
  have hlocks := B.notSynchronized
  subst hsz
  have hD := fb_D_self (sz := s.heap.size) hD0
  have hS : va_S (fb_A ad fb_LM s.heap.size) s.heap s.heap [] := va_S.rf
  have hl := lv_entry ([.ref (ad 0 0), .int f]) (n := 2) (Nat.le_of_ble_eq_true rfl)
  rw [lg_entry_eq]
  generalize (lg_sl ([.ref (ad 0 0), .int f]) ++ List.replicate (2 - (lg_sl ([.ref (ad 0 0), .int f])).length) Slot.unset).toArray = ls at hl ⊢
  have hl : lv_has ls 2 [(0, .ref (ad 0 0)), (1, .int f)] := hl
  refine lv_iload_n hx hb zd_M_isFlow_0 rfl (lv_at hl 1 rfl) ?_
  refine lv_if_lt (tgt := 16) hx hb zd_M_isFlow_1 (by decide) (fun h1 => ?_) (fun h1 => ?_)
  · skip
    refine lv_iconst (v := 0) hx hb zd_M_isFlow_16 (by decide) ?_
    exact W.zret (v := 0) hx hb hr rfl (fun t ht hW => ⟨⟨0, st, rfl, ⟨(by simp only [mf_isF, if_pos h1, fb_b_t, fb_b_f]), rfl, hok⟩, by rw [ht]; exact hP, va_K.moved hW.alike hK, hD⟩, hS.F ht⟩) hS.2.2 zd_M_isFlow_17
  · skip
    refine lv_iload_n hx hb zd_M_isFlow_4 rfl (lv_at hl 1 rfl) ?_
    refine lv_aload_n hx hb zd_M_isFlow_5 rfl (lv_at hl 0 rfl) ?_
    refine pw_get (C := "PausedFabricModel") (T := zT_M) (N := 28) hx hb hT zin_M hown hK hP (fb_memM (k := 0) rfl) rfl rfl 6 (by decide) (hT _ zi_442) (fun _ h9 => h9) rfl zd_M_isFlow_6 ?_
    refine lv_icmp_ge (tgt := 16) hx hb zd_M_isFlow_9 (by decide) (fun h2 => ?_) (fun h2 => ?_)
    · skip
      refine lv_iconst (v := 0) hx hb zd_M_isFlow_16 (by decide) ?_
      exact W.zret (v := 0) hx hb hr rfl (fun t ht hW => ⟨⟨0, st, rfl, ⟨(by simp only [mf_isF, if_neg h1, if_pos h2, fb_b_t, fb_b_f]), rfl, hok⟩, by rw [ht]; exact hP, va_K.moved hW.alike hK, hD⟩, hS.F ht⟩) hS.2.2 zd_M_isFlow_17
    · skip
      refine lv_iconst (v := 1) hx hb zd_M_isFlow_12 (by decide) ?_
      refine lv_goto (tgt := 17) hx hb zd_M_isFlow_13 (by decide) ?_
      exact W.zret (v := 1) hx hb hr rfl (fun t ht hW => ⟨⟨1, st, rfl, ⟨(by simp only [mf_isF, if_neg h1, if_neg h2, fb_b_t, fb_b_f]), rfl, hok⟩, by rw [ht]; exact hP, va_K.moved hW.alike hK, hD⟩, hS.F ht⟩) hS.2.2 zd_M_isFlow_17

set_option maxHeartbeats 4000000 in
set_option maxRecDepth 100000 in
theorem c_M_isFrame (l : Launch) (D : va_G) (cA : Nat → ClassId) (ad : Nat → Nat → Nat) (fl fr T : Nat) (st : fb_S) (hflr : fl ≤ 12 ∧ fr ≤ 100 ∧ T ≤ 30000) (hok : fb_okM fl fr T st) (k : Int32) : fb_Mi l zy_M_isFrame (zw_M_isFrame :: lw_gd) { frames := 0, cells := 0, slots := 0, locals := 0 } (fb_cM cA) D fb_cl (fb_tys cA) ad fb_LM st [.ref (ad 0 0), .int k] (fun rr st1 => rr = fb_b (mf_isK st k) ∧ st1 = st ∧ fb_okM fl fr T st1) := by
  have hfl : fl ≤ 12 := hflr.1
  have hfr : fr ≤ 100 := hflr.2.1
  have hTb : T ≤ 30000 := hflr.2.2
  intro sz
  refine Met.ofW (cc := zb_M_isFrame) (maxL := 2) (ret := (some .boolean)) (by decide) rfl ?_
  intro p e s m args below meth c s₁ B hml hv
  obtain ⟨rfl, hsz, hP, hK, hD0⟩ := hv
  have hx := B.exec
  have hb := B.bytes
  have hr := B.returns
  have hts := atoms_spec (ws := zw_M_isFrame :: lw_gd) B.pre
  have hT : ∀ w ∈ lw_gd, w.before _ s = true := fun w h => hts w (List.mem_cons_of_mem _ h)
  have hown : s.vm.findClass "PausedFabricModel" = some m.cls := findClass_of_methodNamed B.named
  have hlocks := B.notSynchronized
  subst hsz
  have hD := fb_D_self (sz := s.heap.size) hD0
  have hS : va_S (fb_A ad fb_LM s.heap.size) s.heap s.heap [] := va_S.rf
  have hl := lv_entry ([.ref (ad 0 0), .int k]) (n := 2) (Nat.le_of_ble_eq_true rfl)
  rw [lg_entry_eq]
  generalize (lg_sl ([.ref (ad 0 0), .int k]) ++ List.replicate (2 - (lg_sl ([.ref (ad 0 0), .int k])).length) Slot.unset).toArray = ls at hl ⊢
  have hl : lv_has ls 2 [(0, .ref (ad 0 0)), (1, .int k)] := hl
  refine lv_iload_n hx hb zd_M_isFrame_0 rfl (lv_at hl 1 rfl) ?_
  refine lv_if_lt (tgt := 16) hx hb zd_M_isFrame_1 (by decide) (fun h1 => ?_) (fun h1 => ?_)
  · skip
    refine lv_iconst (v := 0) hx hb zd_M_isFrame_16 (by decide) ?_
    exact W.zret (v := 0) hx hb hr rfl (fun t ht hW => ⟨⟨0, st, rfl, ⟨(by simp only [mf_isK, if_pos h1, fb_b_t, fb_b_f]), rfl, hok⟩, by rw [ht]; exact hP, va_K.moved hW.alike hK, hD⟩, hS.F ht⟩) hS.2.2 zd_M_isFrame_17
  · skip
    refine lv_iload_n hx hb zd_M_isFrame_4 rfl (lv_at hl 1 rfl) ?_
    refine lv_aload_n hx hb zd_M_isFrame_5 rfl (lv_at hl 0 rfl) ?_
    refine pw_get (C := "PausedFabricModel") (T := zT_M) (N := 28) hx hb hT zin_M hown hK hP (fb_memM (k := 0) rfl) rfl rfl 15 (by decide) (hT _ zi_451) (fun _ h9 => h9) rfl zd_M_isFrame_6 ?_
    refine lv_icmp_ge (tgt := 16) hx hb zd_M_isFrame_9 (by decide) (fun h2 => ?_) (fun h2 => ?_)
    · skip
      refine lv_iconst (v := 0) hx hb zd_M_isFrame_16 (by decide) ?_
      exact W.zret (v := 0) hx hb hr rfl (fun t ht hW => ⟨⟨0, st, rfl, ⟨(by simp only [mf_isK, if_neg h1, if_pos h2, fb_b_t, fb_b_f]), rfl, hok⟩, by rw [ht]; exact hP, va_K.moved hW.alike hK, hD⟩, hS.F ht⟩) hS.2.2 zd_M_isFrame_17
    · skip
      refine lv_iconst (v := 1) hx hb zd_M_isFrame_12 (by decide) ?_
      refine lv_goto (tgt := 17) hx hb zd_M_isFrame_13 (by decide) ?_
      exact W.zret (v := 1) hx hb hr rfl (fun t ht hW => ⟨⟨1, st, rfl, ⟨(by simp only [mf_isK, if_neg h1, if_neg h2, fb_b_t, fb_b_f]), rfl, hok⟩, by rw [ht]; exact hP, va_K.moved hW.alike hK, hD⟩, hS.F ht⟩) hS.2.2 zd_M_isFrame_17

set_option maxHeartbeats 4000000 in
set_option maxRecDepth 100000 in
theorem c_M_end (l : Launch) (D : va_G) (cA : Nat → ClassId) (ad : Nat → Nat → Nat) (fl fr T : Nat) (st : fb_S) (hflr : fl ≤ 12 ∧ fr ≤ 100 ∧ T ≤ 30000) (hok : fb_okM fl fr T st) (f : Int32) (hf : vp_in f 12) : fb_Mi l zy_M_end (zw_M_end :: lw_gd) { frames := 0, cells := 0, slots := 0, locals := 0 } (fb_cM cA) D fb_cl (fb_tys cA) ad fb_LM st [.ref (ad 0 0), .int f] (fun rr st1 => rr = mf_end st f ∧ st1 = st ∧ fb_okM fl fr T st1) := by
  have hfl : fl ≤ 12 := hflr.1
  have hfr : fr ≤ 100 := hflr.2.1
  have hTb : T ≤ 30000 := hflr.2.2
  intro sz
  refine Met.ofW (cc := zb_M_end) (maxL := 2) (ret := (some .int)) (by decide) rfl ?_
  intro p e s m args below meth c s₁ B hml hv
  obtain ⟨rfl, hsz, hP, hK, hD0⟩ := hv
  have hx := B.exec
  have hb := B.bytes
  have hr := B.returns
  have hts := atoms_spec (ws := zw_M_end :: lw_gd) B.pre
  have hT : ∀ w ∈ lw_gd, w.before _ s = true := fun w h => hts w (List.mem_cons_of_mem _ h)
  have hown : s.vm.findClass "PausedFabricModel" = some m.cls := findClass_of_methodNamed B.named
  have hlocks := B.notSynchronized
  subst hsz
  have hD := fb_D_self (sz := s.heap.size) hD0
  have hS : va_S (fb_A ad fb_LM s.heap.size) s.heap s.heap [] := va_S.rf
  have hl := lv_entry ([.ref (ad 0 0), .int f]) (n := 2) (Nat.le_of_ble_eq_true rfl)
  rw [lg_entry_eq]
  generalize (lg_sl ([.ref (ad 0 0), .int f]) ++ List.replicate (2 - (lg_sl ([.ref (ad 0 0), .int f])).length) Slot.unset).toArray = ls at hl ⊢
  have hl : lv_has ls 2 [(0, .ref (ad 0 0)), (1, .int f)] := hl
  refine lv_aload_n hx hb zd_M_end_0 rfl (lv_at hl 0 rfl) ?_
  refine pw_get (C := "PausedFabricModel") (T := zT_M) (N := 28) hx hb hT zin_M hown hK hP (fb_memM (k := 0) rfl) rfl rfl 7 (by decide) (hT _ zi_443) (fun _ h9 => h9) rfl zd_M_end_1 ?_
  refine lv_iload_n hx hb zd_M_end_4 rfl (lv_at hl 1 rfl) ?_
  refine pw_iald (v := st 7 (fb_n f)) hx hb hK hP (fb_memM (k := 7) rfl) 0 rfl rfl hf rfl zd_M_end_5 ?_
  refine lv_iconst (v := 2) hx hb zd_M_end_6 (by decide) ?_
  refine lv_idiv hx hb zd_M_end_7 (by decide) ?_
  refine lv_aload_n hx hb zd_M_end_8 rfl (lv_at hl 0 rfl) ?_
  refine pw_get (C := "PausedFabricModel") (T := zT_M) (N := 28) hx hb hT zin_M hown hK hP (fb_memM (k := 0) rfl) rfl rfl 8 (by decide) (hT _ zi_444) (fun _ h9 => h9) rfl zd_M_end_9 ?_
  refine lv_iload_n hx hb zd_M_end_12 rfl (lv_at hl 1 rfl) ?_
  refine pw_iald (v := st 8 (fb_n f)) hx hb hK hP (fb_memM (k := 8) rfl) 0 rfl rfl hf rfl zd_M_end_13 ?_
  refine lv_iconst (v := 2) hx hb zd_M_end_14 (by decide) ?_
  refine lv_idiv hx hb zd_M_end_15 (by decide) ?_
  refine lv_icmp_ne (tgt := 23) hx hb zd_M_end_16 (by decide) (fun h1 => ?_) (fun h1 => ?_)
  · skip
    refine lv_iconst (v := 4) hx hb zd_M_end_23 (by decide) ?_
    exact W.iret (v := 4) hx hb hr (fun t ht hW => ⟨⟨4, st, rfl, ⟨(by simp only [mf_end, if_neg h1, fb_b_t, fb_b_f]), rfl, hok⟩, by rw [ht]; exact hP, va_K.moved hW.alike hK, hD⟩, hS.F ht⟩) hS.2.2 zd_M_end_24
  · skip
    refine lv_iconst (v := 2) hx hb zd_M_end_19 (by decide) ?_
    refine lv_goto (tgt := 24) hx hb zd_M_end_20 (by decide) ?_
    exact W.iret (v := 2) hx hb hr (fun t ht hW => ⟨⟨2, st, rfl, ⟨(by simp only [mf_end, if_pos h1, fb_b_t, fb_b_f]), rfl, hok⟩, by rw [ht]; exact hP, va_K.moved hW.alike hK, hD⟩, hS.F ht⟩) hS.2.2 zd_M_end_24

set_option maxHeartbeats 4000000 in
set_option maxRecDepth 100000 in
theorem c_M_nodeAt (l : Launch) (D : va_G) (cA : Nat → ClassId) (ad : Nat → Nat → Nat) (fl fr T : Nat) (st : fb_S) (hflr : fl ≤ 12 ∧ fr ≤ 100 ∧ T ≤ 30000) (hok : fb_okM fl fr T st) (f : Int32) (i : Int32) (hf : vp_in f 12) : fb_Mi l zy_M_nodeAt (zw_M_nodeAt :: lw_gd) { frames := 1, cells := 0, slots := 0, locals := 21 } (fb_cM cA) D fb_cl (fb_tys cA) ad fb_LM st [.ref (ad 0 0), .int f, .int i] (fun rr st1 => rr = mf_node st f i ∧ st1 = st ∧ fb_okM fl fr T st1) := by
  have hfl : fl ≤ 12 := hflr.1
  have hfr : fr ≤ 100 := hflr.2.1
  have hTb : T ≤ 30000 := hflr.2.2
  intro sz
  refine Met.ofW (cc := zb_M_nodeAt) (maxL := 4) (ret := (some .int)) (by decide) rfl ?_
  intro p e s m args below meth c s₁ B hml hv
  obtain ⟨rfl, hsz, hP, hK, hD0⟩ := hv
  have hx := B.exec
  have hb := B.bytes
  have hr := B.returns
  have hts := atoms_spec (ws := zw_M_nodeAt :: lw_gd) B.pre
  have hT : ∀ w ∈ lw_gd, w.before _ s = true := fun w h => hts w (List.mem_cons_of_mem _ h)
  have hown : s.vm.findClass "PausedFabricModel" = some m.cls := findClass_of_methodNamed B.named
  have hlocks := B.notSynchronized
  subst hsz
  have hD := fb_D_self (sz := s.heap.size) hD0
  have hS : va_S (fb_A ad fb_LM s.heap.size) s.heap s.heap [] := va_S.rf
  have hl := lv_entry ([.ref (ad 0 0), .int f, .int i]) (n := 4) (Nat.le_of_ble_eq_true rfl)
  rw [lg_entry_eq]
  generalize (lg_sl ([.ref (ad 0 0), .int f, .int i]) ++ List.replicate (4 - (lg_sl ([.ref (ad 0 0), .int f, .int i])).length) Slot.unset).toArray = ls at hl ⊢
  have hl : lv_has ls 4 [(0, .ref (ad 0 0)), (1, .int f), (2, .int i)] := hl
  refine lv_iload_n hx hb zd_M_nodeAt_0 rfl (lv_at hl 2 rfl) ?_
  refine lv_if_ne (tgt := 11) hx hb zd_M_nodeAt_1 (by decide) (fun h1 => ?_) (fun h1 => ?_)
  · skip
    refine lv_iload_n hx hb zd_M_nodeAt_11 rfl (lv_at hl 2 rfl) ?_
    refine lv_aload_n hx hb zd_M_nodeAt_12 rfl (lv_at hl 0 rfl) ?_
    refine lv_iload_n hx hb zd_M_nodeAt_13 rfl (lv_at hl 1 rfl) ?_
    refine pw_Vi (bytes := zb_M_end) (maxL := 2) (ret := (some .int)) (As := [.int f]) (rest := [.int i]) ⟨hx, hb, hml, hown, hT⟩ (c_M_end l D cA ad fl fr T st hflr hok f hf) (cwV 1 hT (fb_gV zi_558 zi_560 zs_M_end zi_5 zc_M_end) rfl rfl rfl (by decide +kernel) ⟨Nat.le_of_ble_eq_true rfl, Nat.le_of_ble_eq_true rfl⟩) hK hP hD hS (fb_recv hK hP (fb_memM (k := 0) rfl) rfl rfl) rfl hl.1 rfl (lv_room (Nat.le_of_ble_eq_true rfl)) zd_M_nodeAt_14 ⟨Nat.zero_le _, Nat.zero_le _⟩ (fun rx sx H locs hp hP hD hS => ?_)
    obtain ⟨hr9, hs, hok9⟩ := hp
    rw [hr9]
    rw [hs] at hP hD
    refine lv_icmp_ne (tgt := 27) hx hb zd_M_nodeAt_17 (by decide) (fun h2 => ?_) (fun h2 => ?_)
    · skip
      refine lv_iload_n hx hb zd_M_nodeAt_27 rfl (lv_at hl 2 rfl) ?_
      refine lv_iconst (v := 2) hx hb zd_M_nodeAt_28 (by decide) ?_
      refine lv_icmp_ne (tgt := 61) hx hb zd_M_nodeAt_29 (by decide) (fun h3 => ?_) (fun h3 => ?_)
      · skip
        refine lv_bipush (v := 8) hx hb zd_M_nodeAt_61 (by decide) ?_
        refine lv_iload_n hx hb zd_M_nodeAt_63 rfl (lv_at hl 2 rfl) ?_
        refine lv_iconst (v := 1) hx hb zd_M_nodeAt_64 (by decide) ?_
        refine lv_icmp_ne (tgt := 77) hx hb zd_M_nodeAt_65 (by decide) (fun h4 => ?_) (fun h4 => ?_)
        · skip
          refine lv_aload_n hx hb zd_M_nodeAt_77 rfl (lv_at hl 0 rfl) ?_
          refine pw_get (C := "PausedFabricModel") (T := zT_M) (N := 28) hx hb hT zin_M hown hK hP (fb_memM (k := 0) rfl) rfl rfl 8 (by decide) (hT _ zi_444) (fun _ h9 => h9) rfl zd_M_nodeAt_78 ?_
          refine lv_iload_n hx hb zd_M_nodeAt_81 rfl (lv_at hl 1 rfl) ?_
          refine pw_iald (v := st 8 (fb_n f)) hx hb hK hP (fb_memM (k := 8) rfl) 0 rfl rfl hf rfl zd_M_nodeAt_82 ?_
          refine lv_iconst (v := 2) hx hb zd_M_nodeAt_83 (by decide) ?_
          refine lv_idiv hx hb zd_M_nodeAt_84 (by decide) ?_
          refine lv_iadd hx hb zd_M_nodeAt_85 ?_
          exact W.iret (v := 8 + ((st 8 (fb_n f)) / 2)) hx hb hr (fun t ht hW => ⟨⟨8 + ((st 8 (fb_n f)) / 2), st, rfl, ⟨(by simp only [mf_node, mf_ones, if_neg h1, if_neg h2, if_neg h3, if_neg h4, fb_b_t, fb_b_f]), rfl, hok⟩, by rw [ht]; exact hP, va_K.moved hW.alike hK, hD⟩, hS.F ht⟩) hS.2.2 zd_M_nodeAt_86
        · skip
          refine lv_aload_n hx hb zd_M_nodeAt_68 rfl (lv_at hl 0 rfl) ?_
          refine pw_get (C := "PausedFabricModel") (T := zT_M) (N := 28) hx hb hT zin_M hown hK hP (fb_memM (k := 0) rfl) rfl rfl 7 (by decide) (hT _ zi_443) (fun _ h9 => h9) rfl zd_M_nodeAt_69 ?_
          refine lv_iload_n hx hb zd_M_nodeAt_72 rfl (lv_at hl 1 rfl) ?_
          refine pw_iald (v := st 7 (fb_n f)) hx hb hK hP (fb_memM (k := 7) rfl) 0 rfl rfl hf rfl zd_M_nodeAt_73 ?_
          refine lv_goto (tgt := 83) hx hb zd_M_nodeAt_74 (by decide) ?_
          refine lv_iconst (v := 2) hx hb zd_M_nodeAt_83 (by decide) ?_
          refine lv_idiv hx hb zd_M_nodeAt_84 (by decide) ?_
          refine lv_iadd hx hb zd_M_nodeAt_85 ?_
          exact W.iret (v := 8 + ((st 7 (fb_n f)) / 2)) hx hb hr (fun t ht hW => ⟨⟨8 + ((st 7 (fb_n f)) / 2), st, rfl, ⟨(by simp only [mf_node, mf_ones, if_neg h1, if_neg h2, if_neg h3, if_pos h4, fb_b_t, fb_b_f]), rfl, hok⟩, by rw [ht]; exact hP, va_K.moved hW.alike hK, hD⟩, hS.F ht⟩) hS.2.2 zd_M_nodeAt_86
      · skip
        refine lv_iload_n hx hb zd_M_nodeAt_32 rfl (lv_at hl 1 rfl) ?_
        refine lv_iconst (v := 1) hx hb zd_M_nodeAt_33 (by decide) ?_
        refine lv_iand hx hb zd_M_nodeAt_34 ?_
        refine lv_iload_n hx hb zd_M_nodeAt_35 rfl (lv_at hl 1 rfl) ?_
        refine lv_iconst (v := 1) hx hb zd_M_nodeAt_36 (by decide) ?_
        refine lv_ishr hx hb zd_M_nodeAt_37 ?_
        refine lv_iconst (v := 1) hx hb zd_M_nodeAt_38 (by decide) ?_
        refine lv_iand hx hb zd_M_nodeAt_39 ?_
        refine lv_iadd hx hb zd_M_nodeAt_40 ?_
        refine lv_iload_n hx hb zd_M_nodeAt_41 rfl (lv_at hl 1 rfl) ?_
        refine lv_iconst (v := 2) hx hb zd_M_nodeAt_42 (by decide) ?_
        refine lv_ishr hx hb zd_M_nodeAt_43 ?_
        refine lv_iconst (v := 1) hx hb zd_M_nodeAt_44 (by decide) ?_
        refine lv_iand hx hb zd_M_nodeAt_45 ?_
        refine lv_iadd hx hb zd_M_nodeAt_46 ?_
        refine lv_iload_n hx hb zd_M_nodeAt_47 rfl (lv_at hl 1 rfl) ?_
        refine lv_iconst (v := 3) hx hb zd_M_nodeAt_48 (by decide) ?_
        refine lv_ishr hx hb zd_M_nodeAt_49 ?_
        refine lv_iconst (v := 1) hx hb zd_M_nodeAt_50 (by decide) ?_
        refine lv_iand hx hb zd_M_nodeAt_51 ?_
        refine lv_iadd hx hb zd_M_nodeAt_52 ?_
        refine lv_istore_n (lv' := [(3, .int ((((f &&& 1) + ((f >>> ((1 : Int32) &&& 31)) &&& 1)) + ((f >>> ((2 : Int32) &&& 31)) &&& 1)) + ((f >>> ((3 : Int32) &&& 31)) &&& 1))), (0, .ref (ad 0 0)), (1, .int f), (2, .int i)]) hx hb zd_M_nodeAt_53 rfl hl (by decide) rfl (fun ls hl => ?_)
        refine lv_bipush (v := 12) hx hb zd_M_nodeAt_54 (by decide) ?_
        refine lv_iload_n hx hb zd_M_nodeAt_56 rfl (lv_at hl 0 rfl) ?_
        refine lv_iconst (v := 2) hx hb zd_M_nodeAt_57 (by decide) ?_
        refine lv_irem hx hb zd_M_nodeAt_58 (by decide) ?_
        refine lv_iadd hx hb zd_M_nodeAt_59 ?_
        exact W.iret (v := 12 + (((((f &&& 1) + ((f >>> ((1 : Int32) &&& 31)) &&& 1)) + ((f >>> ((2 : Int32) &&& 31)) &&& 1)) + ((f >>> ((3 : Int32) &&& 31)) &&& 1)) - ((((f &&& 1) + ((f >>> ((1 : Int32) &&& 31)) &&& 1)) + ((f >>> ((2 : Int32) &&& 31)) &&& 1)) + ((f >>> ((3 : Int32) &&& 31)) &&& 1)) / 2 * 2)) hx hb hr (fun t ht hW => ⟨⟨12 + (((((f &&& 1) + ((f >>> ((1 : Int32) &&& 31)) &&& 1)) + ((f >>> ((2 : Int32) &&& 31)) &&& 1)) + ((f >>> ((3 : Int32) &&& 31)) &&& 1)) - ((((f &&& 1) + ((f >>> ((1 : Int32) &&& 31)) &&& 1)) + ((f >>> ((2 : Int32) &&& 31)) &&& 1)) + ((f >>> ((3 : Int32) &&& 31)) &&& 1)) / 2 * 2), st, rfl, ⟨(by simp only [mf_node, mf_ones, if_neg h1, if_neg h2, if_pos h3, fb_b_t, fb_b_f]), rfl, hok⟩, by rw [ht]; exact hP, va_K.moved hW.alike hK, hD⟩, hS.F ht⟩) hS.2.2 zd_M_nodeAt_60
    · skip
      refine lv_aload_n hx hb zd_M_nodeAt_20 rfl (lv_at hl 0 rfl) ?_
      refine pw_get (C := "PausedFabricModel") (T := zT_M) (N := 28) hx hb hT zin_M hown hK hP (fb_memM (k := 0) rfl) rfl rfl 8 (by decide) (hT _ zi_444) (fun _ h9 => h9) rfl zd_M_nodeAt_21 ?_
      refine lv_iload_n hx hb zd_M_nodeAt_24 rfl (lv_at hl 1 rfl) ?_
      refine pw_iald (v := st 8 (fb_n f)) hx hb hK hP (fb_memM (k := 8) rfl) 0 rfl rfl hf rfl zd_M_nodeAt_25 ?_
      exact W.iret (v := st 8 (fb_n f)) hx hb hr (fun t ht hW => ⟨⟨st 8 (fb_n f), st, rfl, ⟨(by simp only [mf_node, mf_ones, if_neg h1, if_pos h2, fb_b_t, fb_b_f]), rfl, hok⟩, by rw [ht]; exact hP, va_K.moved hW.alike hK, hD⟩, hS.F ht⟩) hS.2.2 zd_M_nodeAt_26
  · skip
    refine lv_aload_n hx hb zd_M_nodeAt_4 rfl (lv_at hl 0 rfl) ?_
    refine pw_get (C := "PausedFabricModel") (T := zT_M) (N := 28) hx hb hT zin_M hown hK hP (fb_memM (k := 0) rfl) rfl rfl 7 (by decide) (hT _ zi_443) (fun _ h9 => h9) rfl zd_M_nodeAt_5 ?_
    refine lv_iload_n hx hb zd_M_nodeAt_8 rfl (lv_at hl 1 rfl) ?_
    refine pw_iald (v := st 7 (fb_n f)) hx hb hK hP (fb_memM (k := 7) rfl) 0 rfl rfl hf rfl zd_M_nodeAt_9 ?_
    exact W.iret (v := st 7 (fb_n f)) hx hb hr (fun t ht hW => ⟨⟨st 7 (fb_n f), st, rfl, ⟨(by simp only [mf_node, mf_ones, if_pos h1, fb_b_t, fb_b_f]), rfl, hok⟩, by rw [ht]; exact hP, va_K.moved hW.alike hK, hD⟩, hS.F ht⟩) hS.2.2 zd_M_nodeAt_10

set_option maxHeartbeats 4000000 in
set_option maxRecDepth 100000 in
theorem c_M_between (l : Launch) (D : va_G) (cA : Nat → ClassId) (ad : Nat → Nat → Nat) (fl fr T : Nat) (st : fb_S) (hflr : fl ≤ 12 ∧ fr ≤ 100 ∧ T ≤ 30000) (hok : fb_okM fl fr T st) (k : Nat) (u : Int32) (v : Int32) (hk : k < 100) : fb_Mi l zy_M_between (zw_M_between :: lw_gd) { frames := 2, cells := 0, slots := 0, locals := 44 } (fb_cM cA) D fb_cl (fb_tys cA) ad fb_LM st [.ref (ad 0 0), .int (nI k), .int u, .int v] (fun rr st1 => rr = fb_b (mf_btw st k u v) ∧ st1 = st ∧ fb_okM fl fr T st1) := by
  have hfl : fl ≤ 12 := hflr.1
  have hfr : fr ≤ 100 := hflr.2.1
  have hTb : T ≤ 30000 := hflr.2.2
  intro sz
  refine Met.ofW (cc := zb_M_between) (maxL := 6) (ret := (some .boolean)) (by decide) rfl ?_
  intro p e s m args below meth c s₁ B hml hv
  obtain ⟨rfl, hsz, hP, hK, hD0⟩ := hv
  have hx := B.exec
  have hb := B.bytes
  have hr := B.returns
  have hts := atoms_spec (ws := zw_M_between :: lw_gd) B.pre
  have hT : ∀ w ∈ lw_gd, w.before _ s = true := fun w h => hts w (List.mem_cons_of_mem _ h)
  have hown : s.vm.findClass "PausedFabricModel" = some m.cls := findClass_of_methodNamed B.named
  have hlocks := B.notSynchronized
  subst hsz
  have hD := fb_D_self (sz := s.heap.size) hD0
  have hS : va_S (fb_A ad fb_LM s.heap.size) s.heap s.heap [] := va_S.rf
  have hl := lv_entry ([.ref (ad 0 0), .int (nI k), .int u, .int v]) (n := 6) (Nat.le_of_ble_eq_true rfl)
  rw [lg_entry_eq]
  generalize (lg_sl ([.ref (ad 0 0), .int (nI k), .int u, .int v]) ++ List.replicate (6 - (lg_sl ([.ref (ad 0 0), .int (nI k), .int u, .int v])).length) Slot.unset).toArray = ls at hl ⊢
  have hl : lv_has ls 6 [(0, .ref (ad 0 0)), (1, .int (nI k)), (2, .int u), (3, .int v)] := hl
  refine lv_aload_n hx hb zd_M_between_0 rfl (lv_at hl 0 rfl) ?_
  refine pw_get (C := "PausedFabricModel") (T := zT_M) (N := 28) hx hb hT zin_M hown hK hP (fb_memM (k := 0) rfl) rfl rfl 16 (by decide) (hT _ zi_452) (fun _ h9 => h9) rfl zd_M_between_1 ?_
  refine lv_iload_n hx hb zd_M_between_4 rfl (lv_at hl 1 rfl) ?_
  refine pw_iald (v := st 16 k) hx hb hK hP (fb_memM (k := 16) rfl) 0 rfl rfl (vp_in_nI (by omega) (by decide)) (congrArg (st 16) (nI_clamp (by omega))) zd_M_between_5 ?_
  refine lv_istore (lv' := [(4, .int (st 16 k)), (0, .ref (ad 0 0)), (1, .int (nI k)), (2, .int u), (3, .int v)]) hx hb zd_M_between_6 hl (by decide) rfl (fun ls hl => ?_)
  refine lv_aload_n hx hb zd_M_between_8 rfl (lv_at hl 1 rfl) ?_
  refine pw_get (C := "PausedFabricModel") (T := zT_M) (N := 28) hx hb hT zin_M hown hK hP (fb_memM (k := 0) rfl) rfl rfl 19 (by decide) (hT _ zi_455) (fun _ h9 => h9) rfl zd_M_between_9 ?_
  refine lv_iload_n hx hb zd_M_between_12 rfl (lv_at hl 2 rfl) ?_
  refine pw_iald (v := st 19 k) hx hb hK hP (fb_memM (k := 19) rfl) 0 rfl rfl (vp_in_nI (by omega) (by decide)) (congrArg (st 19) (nI_clamp (by omega))) zd_M_between_13 ?_
  refine lv_istore (lv' := [(5, .int (st 19 k)), (4, .int (st 16 k)), (0, .ref (ad 0 0)), (1, .int (nI k)), (2, .int u), (3, .int v)]) hx hb zd_M_between_14 hl (by decide) rfl (fun ls hl => ?_)
  refine lv_aload_n hx hb zd_M_between_16 rfl (lv_at hl 2 rfl) ?_
  refine pw_get (C := "PausedFabricModel") (T := zT_M) (N := 28) hx hb hT zin_M hown hK hP (fb_memM (k := 0) rfl) rfl rfl 18 (by decide) (hT _ zi_454) (fun _ h9 => h9) rfl zd_M_between_17 ?_
  refine lv_iload_n hx hb zd_M_between_20 rfl (lv_at hl 3 rfl) ?_
  refine pw_iald (v := st 18 k) hx hb hK hP (fb_memM (k := 18) rfl) 0 rfl rfl (vp_in_nI (by omega) (by decide)) (congrArg (st 18) (nI_clamp (by omega))) zd_M_between_21 ?_
  refine lv_iconst (v := 4) hx hb zd_M_between_22 (by decide) ?_
  refine lv_icmp_ge (tgt := 56) hx hb zd_M_between_23 (by decide) (fun h1 => ?_) (fun h1 => ?_)
  · skip
    refine lv_iconst (v := 0) hx hb zd_M_between_56 (by decide) ?_
    exact W.zret (v := 0) hx hb hr rfl (fun t ht hW => ⟨⟨0, st, rfl, ⟨(by simp only [mf_btw, if_pos h1, fb_b_t, fb_b_f]), rfl, hok⟩, by rw [ht]; exact hP, va_K.moved hW.alike hK, hD⟩, hS.F ht⟩) hS.2.2 zd_M_between_57
  · skip
    refine lv_aload_n hx hb zd_M_between_26 rfl (lv_at hl 2 rfl) ?_
    refine lv_iload hx hb zd_M_between_27 (lv_at hl 1 rfl) ?_
    refine lv_iload hx hb zd_M_between_29 (lv_at hl 0 rfl) ?_
    refine pw_Vi (bytes := zb_M_nodeAt) (maxL := 4) (ret := (some .int)) (As := [.int (st 16 k), .int (st 19 k)]) (rest := []) ⟨hx, hb, hml, hown, hT⟩ (c_M_nodeAt l D cA ad fl fr T st hflr hok (st 16 k) (st 19 k) (hok 16 _).1) (cwV 2 hT (fb_gV zi_554 zi_556 zs_M_nodeAt zi_5 zc_M_nodeAt) rfl rfl rfl (by decide +kernel) ⟨Nat.le_of_ble_eq_true rfl, Nat.le_of_ble_eq_true rfl⟩) hK hP hD hS (fb_recv hK hP (fb_memM (k := 0) rfl) rfl rfl) rfl hl.1 rfl (lv_room (Nat.le_of_ble_eq_true rfl)) zd_M_between_31 ⟨Nat.zero_le _, Nat.zero_le _⟩ (fun rx sx H locs hp hP hD hS => ?_)
    obtain ⟨hr9, hs, hok9⟩ := hp
    rw [hr9]
    rw [hs] at hP hD
    refine lv_iload_n hx hb zd_M_between_34 rfl (lv_at hl 4 rfl) ?_
    refine lv_icmp_ne (tgt := 56) hx hb zd_M_between_35 (by decide) (fun h2 => ?_) (fun h2 => ?_)
    · skip
      refine lv_iconst (v := 0) hx hb zd_M_between_56 (by decide) ?_
      exact W.zret (v := 0) hx hb hr rfl (fun t ht hW => ⟨⟨0, st, rfl, ⟨(by simp only [mf_btw, if_neg h1, if_neg h2, fb_b_t, fb_b_f]), rfl, hok⟩, by rw [ht]; exact hP, va_K.moved hW.alike hK, hD⟩, hS.F ht⟩) hS.2.2 zd_M_between_57
    · skip
      refine lv_aload_n hx hb zd_M_between_38 rfl (lv_at hl 2 rfl) ?_
      refine lv_iload hx hb zd_M_between_39 (lv_at hl 1 rfl) ?_
      refine lv_iload hx hb zd_M_between_41 (lv_at hl 0 rfl) ?_
      refine lv_iconst (v := 1) hx hb zd_M_between_43 (by decide) ?_
      refine lv_iadd hx hb zd_M_between_44 ?_
      refine pw_Vi (bytes := zb_M_nodeAt) (maxL := 4) (ret := (some .int)) (As := [.int (st 16 k), .int ((st 19 k) + 1)]) (rest := []) ⟨hx, hb, hml, hown, hT⟩ (c_M_nodeAt l D cA ad fl fr T st hflr hok (st 16 k) ((st 19 k) + 1) (hok 16 _).1) (cwV 2 hT (fb_gV zi_554 zi_556 zs_M_nodeAt zi_5 zc_M_nodeAt) rfl rfl rfl (by decide +kernel) ⟨Nat.le_of_ble_eq_true rfl, Nat.le_of_ble_eq_true rfl⟩) hK hP hD hS (fb_recv hK hP (fb_memM (k := 0) rfl) rfl rfl) rfl hl.1 rfl (lv_room (Nat.le_of_ble_eq_true rfl)) zd_M_between_45 ⟨Nat.zero_le _, Nat.zero_le _⟩ (fun rx sx H locs hp hP hD hS => ?_)
      obtain ⟨hr9, hs, hok9⟩ := hp
      rw [hr9]
      rw [hs] at hP hD
      refine lv_iload_n hx hb zd_M_between_48 rfl (lv_at hl 5 rfl) ?_
      refine lv_icmp_ne (tgt := 56) hx hb zd_M_between_49 (by decide) (fun h3 => ?_) (fun h3 => ?_)
      · skip
        refine lv_iconst (v := 0) hx hb zd_M_between_56 (by decide) ?_
        exact W.zret (v := 0) hx hb hr rfl (fun t ht hW => ⟨⟨0, st, rfl, ⟨(by simp only [mf_btw, if_neg h1, if_pos h2, if_neg h3, fb_b_t, fb_b_f]), rfl, hok⟩, by rw [ht]; exact hP, va_K.moved hW.alike hK, hD⟩, hS.F ht⟩) hS.2.2 zd_M_between_57
      · skip
        refine lv_iconst (v := 1) hx hb zd_M_between_52 (by decide) ?_
        refine lv_goto (tgt := 57) hx hb zd_M_between_53 (by decide) ?_
        exact W.zret (v := 1) hx hb hr rfl (fun t ht hW => ⟨⟨1, st, rfl, ⟨(by simp only [mf_btw, if_neg h1, if_pos h2, if_pos h3, fb_b_t, fb_b_f]), rfl, hok⟩, by rw [ht]; exact hP, va_K.moved hW.alike hK, hD⟩, hS.F ht⟩) hS.2.2 zd_M_between_57

set_option maxHeartbeats 4000000 in
set_option maxRecDepth 100000 in
theorem c_M_clock (l : Launch) (D : va_G) (cA : Nat → ClassId) (ad : Nat → Nat → Nat) (fl fr T : Nat) (st : fb_S) (hflr : fl ≤ 12 ∧ fr ≤ 100 ∧ T ≤ 30000) (hok : fb_okM fl fr T st) : fb_Mi l zy_M_clock (zw_M_clock :: lw_gd) { frames := 0, cells := 0, slots := 0, locals := 0 } (fb_cM cA) D fb_cl (fb_tys cA) ad fb_LM st [.ref (ad 0 0)] (fun rr st1 => rr = st 4 0 ∧ st1 = st ∧ fb_okM fl fr T st1) := by
  have hfl : fl ≤ 12 := hflr.1
  have hfr : fr ≤ 100 := hflr.2.1
  have hTb : T ≤ 30000 := hflr.2.2
  intro sz
  refine Met.ofW (cc := zb_M_clock) (maxL := 1) (ret := (some .int)) (by decide) rfl ?_
  intro p e s m args below meth c s₁ B hml hv
  obtain ⟨rfl, hsz, hP, hK, hD0⟩ := hv
  have hx := B.exec
  have hb := B.bytes
  have hr := B.returns
  have hts := atoms_spec (ws := zw_M_clock :: lw_gd) B.pre
  have hT : ∀ w ∈ lw_gd, w.before _ s = true := fun w h => hts w (List.mem_cons_of_mem _ h)
  have hown : s.vm.findClass "PausedFabricModel" = some m.cls := findClass_of_methodNamed B.named
  have hlocks := B.notSynchronized
  subst hsz
  have hD := fb_D_self (sz := s.heap.size) hD0
  have hS : va_S (fb_A ad fb_LM s.heap.size) s.heap s.heap [] := va_S.rf
  have hl := lv_entry ([.ref (ad 0 0)]) (n := 1) (Nat.le_of_ble_eq_true rfl)
  rw [lg_entry_eq]
  generalize (lg_sl ([.ref (ad 0 0)]) ++ List.replicate (1 - (lg_sl ([.ref (ad 0 0)])).length) Slot.unset).toArray = ls at hl ⊢
  have hl : lv_has ls 1 [(0, .ref (ad 0 0))] := hl
  refine lv_aload_n hx hb zd_M_clock_0 rfl (lv_at hl 0 rfl) ?_
  refine pw_get (C := "PausedFabricModel") (T := zT_M) (N := 28) hx hb hT zin_M hown hK hP (fb_memM (k := 0) rfl) rfl rfl 4 (by decide) (hT _ zi_440) (fun _ h9 => h9) rfl zd_M_clock_1 ?_
  exact W.iret (v := st 4 0) hx hb hr (fun t ht hW => ⟨⟨st 4 0, st, rfl, ⟨(by simp only [fb_b_t, fb_b_f]), rfl, hok⟩, by rw [ht]; exact hP, va_K.moved hW.alike hK, hD⟩, hS.F ht⟩) hS.2.2 zd_M_clock_4

set_option maxHeartbeats 4000000 in
set_option maxRecDepth 100000 in
theorem c_M_state (l : Launch) (D : va_G) (cA : Nat → ClassId) (ad : Nat → Nat → Nat) (fl fr T : Nat) (st : fb_S) (hflr : fl ≤ 12 ∧ fr ≤ 100 ∧ T ≤ 30000) (hok : fb_okM fl fr T st) (k : Int32) : fb_Mi l zy_M_state (zw_M_state :: lw_gd) { frames := 1, cells := 0, slots := 0, locals := 21 } (fb_cM cA) D fb_cl (fb_tys cA) ad fb_LM st [.ref (ad 0 0), .int k] (fun rr st1 => rr = mf_state st k ∧ st1 = st ∧ fb_okM fl fr T st1) := by
  have hfl : fl ≤ 12 := hflr.1
  have hfr : fr ≤ 100 := hflr.2.1
  have hTb : T ≤ 30000 := hflr.2.2
  intro sz
  refine Met.ofW (cc := zb_M_state) (maxL := 2) (ret := (some .int)) (by decide) rfl ?_
  intro p e s m args below meth c s₁ B hml hv
  obtain ⟨rfl, hsz, hP, hK, hD0⟩ := hv
  have hx := B.exec
  have hb := B.bytes
  have hr := B.returns
  have hts := atoms_spec (ws := zw_M_state :: lw_gd) B.pre
  have hT : ∀ w ∈ lw_gd, w.before _ s = true := fun w h => hts w (List.mem_cons_of_mem _ h)
  have hown : s.vm.findClass "PausedFabricModel" = some m.cls := findClass_of_methodNamed B.named
  have hlocks := B.notSynchronized
  subst hsz
  have hD := fb_D_self (sz := s.heap.size) hD0
  have hS : va_S (fb_A ad fb_LM s.heap.size) s.heap s.heap [] := va_S.rf
  have hl := lv_entry ([.ref (ad 0 0), .int k]) (n := 2) (Nat.le_of_ble_eq_true rfl)
  rw [lg_entry_eq]
  generalize (lg_sl ([.ref (ad 0 0), .int k]) ++ List.replicate (2 - (lg_sl ([.ref (ad 0 0), .int k])).length) Slot.unset).toArray = ls at hl ⊢
  have hl : lv_has ls 2 [(0, .ref (ad 0 0)), (1, .int k)] := hl
  refine lv_aload_n hx hb zd_M_state_0 rfl (lv_at hl 0 rfl) ?_
  refine lv_iload_n hx hb zd_M_state_1 rfl (lv_at hl 1 rfl) ?_
  refine pw_Vi (bytes := zb_M_isFrame) (maxL := 2) (ret := (some .boolean)) (As := [.int k]) (rest := []) ⟨hx, hb, hml, hown, hT⟩ (c_M_isFrame l D cA ad fl fr T st hflr hok k) (cwV 1 hT (fb_gV zi_625 zi_627 zs_M_isFrame zi_5 zc_M_isFrame) rfl rfl rfl (by decide +kernel) ⟨Nat.le_of_ble_eq_true rfl, Nat.le_of_ble_eq_true rfl⟩) hK hP hD hS (fb_recv hK hP (fb_memM (k := 0) rfl) rfl rfl) rfl hl.1 rfl (lv_room (Nat.le_of_ble_eq_true rfl)) zd_M_state_2 ⟨Nat.zero_le _, Nat.zero_le _⟩ (fun rx sx H locs hp hP hD hS => ?_)
  obtain ⟨hr9, hs, hok9⟩ := hp
  rw [hr9]
  rw [hs] at hP hD
  refine lv_if_eq (tgt := 17) hx hb zd_M_state_5 (by decide) (fun h1 => ?_) (fun h1 => ?_)
  · skip
    have h1b := fb_b0 h1
    refine lv_iconst (v := (-1)) hx hb zd_M_state_17 (by decide) ?_
    exact W.iret (v := (-1)) hx hb hr (fun t ht hW => ⟨⟨(-1), st, rfl, ⟨(by simp only [mf_state, if_neg h1b, fb_b_t, fb_b_f]), rfl, hok⟩, by rw [ht]; exact hP, va_K.moved hW.alike hK, hD⟩, hS.F ht⟩) hS.2.2 zd_M_state_18
  · skip
    have h1b := fb_b1 h1
    refine lv_aload_n hx hb zd_M_state_8 rfl (lv_at hl 0 rfl) ?_
    refine pw_get (C := "PausedFabricModel") (T := zT_M) (N := 28) hx hb hT zin_M hown hK hP (fb_memM (k := 0) rfl) rfl rfl 18 (by decide) (hT _ zi_454) (fun _ h9 => h9) rfl zd_M_state_9 ?_
    refine lv_iload_n hx hb zd_M_state_12 rfl (lv_at hl 1 rfl) ?_
    refine pw_iald (v := st 18 (fb_n k)) hx hb hK hP (fb_memM (k := 18) rfl) 0 rfl rfl (fb_isK hok hfr h1b) rfl zd_M_state_13 ?_
    refine lv_goto (tgt := 18) hx hb zd_M_state_14 (by decide) ?_
    exact W.iret (v := st 18 (fb_n k)) hx hb hr (fun t ht hW => ⟨⟨st 18 (fb_n k), st, rfl, ⟨(by simp only [mf_state, if_pos h1b, fb_b_t, fb_b_f]), rfl, hok⟩, by rw [ht]; exact hP, va_K.moved hW.alike hK, hD⟩, hS.F ht⟩) hS.2.2 zd_M_state_18

set_option maxHeartbeats 4000000 in
set_option maxRecDepth 100000 in
theorem c_M_node (l : Launch) (D : va_G) (cA : Nat → ClassId) (ad : Nat → Nat → Nat) (fl fr T : Nat) (st : fb_S) (hflr : fl ≤ 12 ∧ fr ≤ 100 ∧ T ≤ 30000) (hok : fb_okM fl fr T st) (k : Int32) : fb_Mi l zy_M_node (zw_M_node :: lw_gd) { frames := 2, cells := 0, slots := 0, locals := 44 } (fb_cM cA) D fb_cl (fb_tys cA) ad fb_LM st [.ref (ad 0 0), .int k] (fun rr st1 => rr = mf_nodeQ st k ∧ st1 = st ∧ fb_okM fl fr T st1) := by
  have hfl : fl ≤ 12 := hflr.1
  have hfr : fr ≤ 100 := hflr.2.1
  have hTb : T ≤ 30000 := hflr.2.2
  intro sz
  refine Met.ofW (cc := zb_M_node) (maxL := 2) (ret := (some .int)) (by decide) rfl ?_
  intro p e s m args below meth c s₁ B hml hv
  obtain ⟨rfl, hsz, hP, hK, hD0⟩ := hv
  have hx := B.exec
  have hb := B.bytes
  have hr := B.returns
  have hts := atoms_spec (ws := zw_M_node :: lw_gd) B.pre
  have hT : ∀ w ∈ lw_gd, w.before _ s = true := fun w h => hts w (List.mem_cons_of_mem _ h)
  have hown : s.vm.findClass "PausedFabricModel" = some m.cls := findClass_of_methodNamed B.named
  have hlocks := B.notSynchronized
  subst hsz
  have hD := fb_D_self (sz := s.heap.size) hD0
  have hS : va_S (fb_A ad fb_LM s.heap.size) s.heap s.heap [] := va_S.rf
  have hl := lv_entry ([.ref (ad 0 0), .int k]) (n := 2) (Nat.le_of_ble_eq_true rfl)
  rw [lg_entry_eq]
  generalize (lg_sl ([.ref (ad 0 0), .int k]) ++ List.replicate (2 - (lg_sl ([.ref (ad 0 0), .int k])).length) Slot.unset).toArray = ls at hl ⊢
  have hl : lv_has ls 2 [(0, .ref (ad 0 0)), (1, .int k)] := hl
  refine lv_aload_n hx hb zd_M_node_0 rfl (lv_at hl 0 rfl) ?_
  refine lv_iload_n hx hb zd_M_node_1 rfl (lv_at hl 1 rfl) ?_
  refine pw_Vi (bytes := zb_M_isFrame) (maxL := 2) (ret := (some .boolean)) (As := [.int k]) (rest := []) ⟨hx, hb, hml, hown, hT⟩ (c_M_isFrame l D cA ad fl fr T st hflr hok k) (cwV 1 hT (fb_gV zi_625 zi_627 zs_M_isFrame zi_5 zc_M_isFrame) rfl rfl rfl (by decide +kernel) ⟨Nat.le_of_ble_eq_true rfl, Nat.le_of_ble_eq_true rfl⟩) hK hP hD hS (fb_recv hK hP (fb_memM (k := 0) rfl) rfl rfl) rfl hl.1 rfl (lv_room (Nat.le_of_ble_eq_true rfl)) zd_M_node_2 ⟨Nat.zero_le _, Nat.zero_le _⟩ (fun rx sx H locs hp hP hD hS => ?_)
  obtain ⟨hr9, hs, hok9⟩ := hp
  rw [hr9]
  rw [hs] at hP hD
  refine lv_if_eq (tgt := 27) hx hb zd_M_node_5 (by decide) (fun h1 => ?_) (fun h1 => ?_)
  · skip
    have h1b := fb_b0 h1
    refine lv_iconst (v := (-1)) hx hb zd_M_node_27 (by decide) ?_
    exact W.iret (v := (-1)) hx hb hr (fun t ht hW => ⟨⟨(-1), st, rfl, ⟨(by simp only [mf_nodeQ, if_neg h1b, fb_b_t, fb_b_f]), rfl, hok⟩, by rw [ht]; exact hP, va_K.moved hW.alike hK, hD⟩, hS.F ht⟩) hS.2.2 zd_M_node_28
  · skip
    have h1b := fb_b1 h1
    refine lv_aload_n hx hb zd_M_node_8 rfl (lv_at hl 0 rfl) ?_
    refine lv_aload_n hx hb zd_M_node_9 rfl (lv_at hl 0 rfl) ?_
    refine pw_get (C := "PausedFabricModel") (T := zT_M) (N := 28) hx hb hT zin_M hown hK hP (fb_memM (k := 0) rfl) rfl rfl 16 (by decide) (hT _ zi_452) (fun _ h9 => h9) rfl zd_M_node_10 ?_
    refine lv_iload_n hx hb zd_M_node_13 rfl (lv_at hl 1 rfl) ?_
    refine pw_iald (v := st 16 (fb_n k)) hx hb hK hP (fb_memM (k := 16) rfl) 0 rfl rfl (fb_isK hok hfr h1b) rfl zd_M_node_14 ?_
    refine lv_aload_n hx hb zd_M_node_15 rfl (lv_at hl 0 rfl) ?_
    refine pw_get (C := "PausedFabricModel") (T := zT_M) (N := 28) hx hb hT zin_M hown hK hP (fb_memM (k := 0) rfl) rfl rfl 19 (by decide) (hT _ zi_455) (fun _ h9 => h9) rfl zd_M_node_16 ?_
    refine lv_iload_n hx hb zd_M_node_19 rfl (lv_at hl 1 rfl) ?_
    refine pw_iald (v := st 19 (fb_n k)) hx hb hK hP (fb_memM (k := 19) rfl) 0 rfl rfl (fb_isK hok hfr h1b) rfl zd_M_node_20 ?_
    refine pw_Vi (bytes := zb_M_nodeAt) (maxL := 4) (ret := (some .int)) (As := [.int (st 16 (fb_n k)), .int (st 19 (fb_n k))]) (rest := []) ⟨hx, hb, hml, hown, hT⟩ (c_M_nodeAt l D cA ad fl fr T st hflr hok (st 16 (fb_n k)) (st 19 (fb_n k)) (hok 16 _).1) (cwV 2 hT (fb_gV zi_554 zi_556 zs_M_nodeAt zi_5 zc_M_nodeAt) rfl rfl rfl (by decide +kernel) ⟨Nat.le_of_ble_eq_true rfl, Nat.le_of_ble_eq_true rfl⟩) hK hP hD hS (fb_recv hK hP (fb_memM (k := 0) rfl) rfl rfl) rfl hl.1 rfl (lv_room (Nat.le_of_ble_eq_true rfl)) zd_M_node_21 ⟨Nat.zero_le _, Nat.zero_le _⟩ (fun rx sx H locs hp hP hD hS => ?_)
    obtain ⟨hr9, hs, hok9⟩ := hp
    rw [hr9]
    rw [hs] at hP hD
    refine lv_goto (tgt := 28) hx hb zd_M_node_24 (by decide) ?_
    exact W.iret (v := mf_node st (st 16 (fb_n k)) (st 19 (fb_n k))) hx hb hr (fun t ht hW => ⟨⟨mf_node st (st 16 (fb_n k)) (st 19 (fb_n k)), st, rfl, ⟨(by simp only [mf_nodeQ, if_pos h1b, fb_b_t, fb_b_f]), rfl, hok⟩, by rw [ht]; exact hP, va_K.moved hW.alike hK, hD⟩, hS.F ht⟩) hS.2.2 zd_M_node_28

set_option maxHeartbeats 4000000 in
set_option maxRecDepth 100000 in
theorem c_M_marked (l : Launch) (D : va_G) (cA : Nat → ClassId) (ad : Nat → Nat → Nat) (fl fr T : Nat) (st : fb_S) (hflr : fl ≤ 12 ∧ fr ≤ 100 ∧ T ≤ 30000) (hok : fb_okM fl fr T st) (k : Int32) : fb_Mi l zy_M_marked (zw_M_marked :: lw_gd) { frames := 1, cells := 0, slots := 0, locals := 21 } (fb_cM cA) D fb_cl (fb_tys cA) ad fb_LM st [.ref (ad 0 0), .int k] (fun rr st1 => rr = mf_marked st k ∧ st1 = st ∧ fb_okM fl fr T st1) := by
  have hfl : fl ≤ 12 := hflr.1
  have hfr : fr ≤ 100 := hflr.2.1
  have hTb : T ≤ 30000 := hflr.2.2
  intro sz
  refine Met.ofW (cc := zb_M_marked) (maxL := 2) (ret := (some .boolean)) (by decide) rfl ?_
  intro p e s m args below meth c s₁ B hml hv
  obtain ⟨rfl, hsz, hP, hK, hD0⟩ := hv
  have hx := B.exec
  have hb := B.bytes
  have hr := B.returns
  have hts := atoms_spec (ws := zw_M_marked :: lw_gd) B.pre
  have hT : ∀ w ∈ lw_gd, w.before _ s = true := fun w h => hts w (List.mem_cons_of_mem _ h)
  have hown : s.vm.findClass "PausedFabricModel" = some m.cls := findClass_of_methodNamed B.named
  have hlocks := B.notSynchronized
  subst hsz
  have hD := fb_D_self (sz := s.heap.size) hD0
  have hS : va_S (fb_A ad fb_LM s.heap.size) s.heap s.heap [] := va_S.rf
  have hl := lv_entry ([.ref (ad 0 0), .int k]) (n := 2) (Nat.le_of_ble_eq_true rfl)
  rw [lg_entry_eq]
  generalize (lg_sl ([.ref (ad 0 0), .int k]) ++ List.replicate (2 - (lg_sl ([.ref (ad 0 0), .int k])).length) Slot.unset).toArray = ls at hl ⊢
  have hl : lv_has ls 2 [(0, .ref (ad 0 0)), (1, .int k)] := hl
  refine lv_aload_n hx hb zd_M_marked_0 rfl (lv_at hl 0 rfl) ?_
  refine lv_iload_n hx hb zd_M_marked_1 rfl (lv_at hl 1 rfl) ?_
  refine pw_Vi (bytes := zb_M_isFrame) (maxL := 2) (ret := (some .boolean)) (As := [.int k]) (rest := []) ⟨hx, hb, hml, hown, hT⟩ (c_M_isFrame l D cA ad fl fr T st hflr hok k) (cwV 1 hT (fb_gV zi_625 zi_627 zs_M_isFrame zi_5 zc_M_isFrame) rfl rfl rfl (by decide +kernel) ⟨Nat.le_of_ble_eq_true rfl, Nat.le_of_ble_eq_true rfl⟩) hK hP hD hS (fb_recv hK hP (fb_memM (k := 0) rfl) rfl rfl) rfl hl.1 rfl (lv_room (Nat.le_of_ble_eq_true rfl)) zd_M_marked_2 ⟨Nat.zero_le _, Nat.zero_le _⟩ (fun rx sx H locs hp hP hD hS => ?_)
  obtain ⟨hr9, hs, hok9⟩ := hp
  rw [hr9]
  rw [hs] at hP hD
  refine lv_if_eq (tgt := 21) hx hb zd_M_marked_5 (by decide) (fun h1 => ?_) (fun h1 => ?_)
  · skip
    have h1b := fb_b0 h1
    refine lv_iconst (v := 0) hx hb zd_M_marked_21 (by decide) ?_
    exact W.zret (v := 0) hx hb hr rfl (fun t ht hW => ⟨⟨0, st, rfl, ⟨(by simp only [mf_marked, if_neg h1b, fb_b_t, fb_b_f]), rfl, hok⟩, by rw [ht]; exact hP, va_K.moved hW.alike hK, hD⟩, hS.F ht⟩) hS.2.2 zd_M_marked_22
  · skip
    have h1b := fb_b1 h1
    refine lv_aload_n hx hb zd_M_marked_8 rfl (lv_at hl 0 rfl) ?_
    refine pw_get (C := "PausedFabricModel") (T := zT_M) (N := 28) hx hb hT zin_M hown hK hP (fb_memM (k := 0) rfl) rfl rfl 22 (by decide) (hT _ zi_458) (fun _ h9 => h9) rfl zd_M_marked_9 ?_
    refine lv_iload_n hx hb zd_M_marked_12 rfl (lv_at hl 1 rfl) ?_
    refine pw_zald (v := st 22 (fb_n k)) hx hb hK hP (fb_memM (k := 22) rfl) 5 rfl rfl (fb_isK hok hfr h1b) rfl zd_M_marked_13 ?_
    refine lv_if_eq (tgt := 21) hx hb zd_M_marked_14 (by decide) (fun h2 => ?_) (fun h2 => ?_)
    · skip
      refine lv_iconst (v := 0) hx hb zd_M_marked_21 (by decide) ?_
      exact W.zret (v := 0) hx hb hr rfl (fun t ht hW => ⟨⟨0, st, rfl, ⟨(by simp only [mf_marked, if_pos h1b, if_pos h2, fb_b_t, fb_b_f]), rfl, hok⟩, by rw [ht]; exact hP, va_K.moved hW.alike hK, hD⟩, hS.F ht⟩) hS.2.2 zd_M_marked_22
    · skip
      refine lv_iconst (v := 1) hx hb zd_M_marked_17 (by decide) ?_
      refine lv_goto (tgt := 22) hx hb zd_M_marked_18 (by decide) ?_
      exact W.zret (v := 1) hx hb hr rfl (fun t ht hW => ⟨⟨1, st, rfl, ⟨(by simp only [mf_marked, if_pos h1b, if_neg h2, fb_b_t, fb_b_f]), rfl, hok⟩, by rw [ht]; exact hP, va_K.moved hW.alike hK, hD⟩, hS.F ht⟩) hS.2.2 zd_M_marked_22

set_option maxHeartbeats 4000000 in
set_option maxRecDepth 100000 in
theorem c_M_rate (l : Launch) (D : va_G) (cA : Nat → ClassId) (ad : Nat → Nat → Nat) (fl fr T : Nat) (st : fb_S) (hflr : fl ≤ 12 ∧ fr ≤ 100 ∧ T ≤ 30000) (hok : fb_okM fl fr T st) (f : Int32) : fb_Mi l zy_M_rate (zw_M_rate :: lw_gd) { frames := 1, cells := 0, slots := 0, locals := 21 } (fb_cM cA) D fb_cl (fb_tys cA) ad fb_LM st [.ref (ad 0 0), .int f] (fun rr st1 => rr = mf_rate st 10 f ∧ st1 = st ∧ fb_okM fl fr T st1) := by
  have hfl : fl ≤ 12 := hflr.1
  have hfr : fr ≤ 100 := hflr.2.1
  have hTb : T ≤ 30000 := hflr.2.2
  intro sz
  refine Met.ofW (cc := zb_M_rate) (maxL := 2) (ret := (some .int)) (by decide) rfl ?_
  intro p e s m args below meth c s₁ B hml hv
  obtain ⟨rfl, hsz, hP, hK, hD0⟩ := hv
  have hx := B.exec
  have hb := B.bytes
  have hr := B.returns
  have hts := atoms_spec (ws := zw_M_rate :: lw_gd) B.pre
  have hT : ∀ w ∈ lw_gd, w.before _ s = true := fun w h => hts w (List.mem_cons_of_mem _ h)
  have hown : s.vm.findClass "PausedFabricModel" = some m.cls := findClass_of_methodNamed B.named
  have hlocks := B.notSynchronized
  subst hsz
  have hD := fb_D_self (sz := s.heap.size) hD0
  have hS : va_S (fb_A ad fb_LM s.heap.size) s.heap s.heap [] := va_S.rf
  have hl := lv_entry ([.ref (ad 0 0), .int f]) (n := 2) (Nat.le_of_ble_eq_true rfl)
  rw [lg_entry_eq]
  generalize (lg_sl ([.ref (ad 0 0), .int f]) ++ List.replicate (2 - (lg_sl ([.ref (ad 0 0), .int f])).length) Slot.unset).toArray = ls at hl ⊢
  have hl : lv_has ls 2 [(0, .ref (ad 0 0)), (1, .int f)] := hl
  refine lv_aload_n hx hb zd_M_rate_0 rfl (lv_at hl 0 rfl) ?_
  refine lv_iload_n hx hb zd_M_rate_1 rfl (lv_at hl 1 rfl) ?_
  refine pw_Vi (bytes := zb_M_isFlow) (maxL := 2) (ret := (some .boolean)) (As := [.int f]) (rest := []) ⟨hx, hb, hml, hown, hT⟩ (c_M_isFlow l D cA ad fl fr T st hflr hok f) (cwV 1 hT (fb_gV zi_534 zi_536 zs_M_isFlow zi_5 zc_M_isFlow) rfl rfl rfl (by decide +kernel) ⟨Nat.le_of_ble_eq_true rfl, Nat.le_of_ble_eq_true rfl⟩) hK hP hD hS (fb_recv hK hP (fb_memM (k := 0) rfl) rfl rfl) rfl hl.1 rfl (lv_room (Nat.le_of_ble_eq_true rfl)) zd_M_rate_2 ⟨Nat.zero_le _, Nat.zero_le _⟩ (fun rx sx H locs hp hP hD hS => ?_)
  obtain ⟨hr9, hs, hok9⟩ := hp
  rw [hr9]
  rw [hs] at hP hD
  refine lv_if_eq (tgt := 17) hx hb zd_M_rate_5 (by decide) (fun h1 => ?_) (fun h1 => ?_)
  · skip
    have h1b := fb_b0 h1
    refine lv_iconst (v := 0) hx hb zd_M_rate_17 (by decide) ?_
    exact W.iret (v := 0) hx hb hr (fun t ht hW => ⟨⟨0, st, rfl, ⟨(by simp only [mf_rate, if_neg h1b, fb_b_t, fb_b_f]), rfl, hok⟩, by rw [ht]; exact hP, va_K.moved hW.alike hK, hD⟩, hS.F ht⟩) hS.2.2 zd_M_rate_18
  · skip
    have h1b := fb_b1 h1
    refine lv_aload_n hx hb zd_M_rate_8 rfl (lv_at hl 0 rfl) ?_
    refine pw_get (C := "PausedFabricModel") (T := zT_M) (N := 28) hx hb hT zin_M hown hK hP (fb_memM (k := 0) rfl) rfl rfl 10 (by decide) (hT _ zi_446) (fun _ h9 => h9) rfl zd_M_rate_9 ?_
    refine lv_iload_n hx hb zd_M_rate_12 rfl (lv_at hl 1 rfl) ?_
    refine pw_iald (v := st 10 (fb_n f)) hx hb hK hP (fb_memM (k := 10) rfl) 0 rfl rfl (fb_isF hok hfl h1b) rfl zd_M_rate_13 ?_
    refine lv_goto (tgt := 18) hx hb zd_M_rate_14 (by decide) ?_
    exact W.iret (v := st 10 (fb_n f)) hx hb hr (fun t ht hW => ⟨⟨st 10 (fb_n f), st, rfl, ⟨(by simp only [mf_rate, if_pos h1b, fb_b_t, fb_b_f]), rfl, hok⟩, by rw [ht]; exact hP, va_K.moved hW.alike hK, hD⟩, hS.F ht⟩) hS.2.2 zd_M_rate_18

set_option maxHeartbeats 4000000 in
set_option maxRecDepth 100000 in
theorem c_M_alpha (l : Launch) (D : va_G) (cA : Nat → ClassId) (ad : Nat → Nat → Nat) (fl fr T : Nat) (st : fb_S) (hflr : fl ≤ 12 ∧ fr ≤ 100 ∧ T ≤ 30000) (hok : fb_okM fl fr T st) (f : Int32) : fb_Mi l zy_M_alpha (zw_M_alpha :: lw_gd) { frames := 1, cells := 0, slots := 0, locals := 21 } (fb_cM cA) D fb_cl (fb_tys cA) ad fb_LM st [.ref (ad 0 0), .int f] (fun rr st1 => rr = mf_rate st 12 f ∧ st1 = st ∧ fb_okM fl fr T st1) := by
  have hfl : fl ≤ 12 := hflr.1
  have hfr : fr ≤ 100 := hflr.2.1
  have hTb : T ≤ 30000 := hflr.2.2
  intro sz
  refine Met.ofW (cc := zb_M_alpha) (maxL := 2) (ret := (some .int)) (by decide) rfl ?_
  intro p e s m args below meth c s₁ B hml hv
  obtain ⟨rfl, hsz, hP, hK, hD0⟩ := hv
  have hx := B.exec
  have hb := B.bytes
  have hr := B.returns
  have hts := atoms_spec (ws := zw_M_alpha :: lw_gd) B.pre
  have hT : ∀ w ∈ lw_gd, w.before _ s = true := fun w h => hts w (List.mem_cons_of_mem _ h)
  have hown : s.vm.findClass "PausedFabricModel" = some m.cls := findClass_of_methodNamed B.named
  have hlocks := B.notSynchronized
  subst hsz
  have hD := fb_D_self (sz := s.heap.size) hD0
  have hS : va_S (fb_A ad fb_LM s.heap.size) s.heap s.heap [] := va_S.rf
  have hl := lv_entry ([.ref (ad 0 0), .int f]) (n := 2) (Nat.le_of_ble_eq_true rfl)
  rw [lg_entry_eq]
  generalize (lg_sl ([.ref (ad 0 0), .int f]) ++ List.replicate (2 - (lg_sl ([.ref (ad 0 0), .int f])).length) Slot.unset).toArray = ls at hl ⊢
  have hl : lv_has ls 2 [(0, .ref (ad 0 0)), (1, .int f)] := hl
  refine lv_aload_n hx hb zd_M_alpha_0 rfl (lv_at hl 0 rfl) ?_
  refine lv_iload_n hx hb zd_M_alpha_1 rfl (lv_at hl 1 rfl) ?_
  refine pw_Vi (bytes := zb_M_isFlow) (maxL := 2) (ret := (some .boolean)) (As := [.int f]) (rest := []) ⟨hx, hb, hml, hown, hT⟩ (c_M_isFlow l D cA ad fl fr T st hflr hok f) (cwV 1 hT (fb_gV zi_534 zi_536 zs_M_isFlow zi_5 zc_M_isFlow) rfl rfl rfl (by decide +kernel) ⟨Nat.le_of_ble_eq_true rfl, Nat.le_of_ble_eq_true rfl⟩) hK hP hD hS (fb_recv hK hP (fb_memM (k := 0) rfl) rfl rfl) rfl hl.1 rfl (lv_room (Nat.le_of_ble_eq_true rfl)) zd_M_alpha_2 ⟨Nat.zero_le _, Nat.zero_le _⟩ (fun rx sx H locs hp hP hD hS => ?_)
  obtain ⟨hr9, hs, hok9⟩ := hp
  rw [hr9]
  rw [hs] at hP hD
  refine lv_if_eq (tgt := 17) hx hb zd_M_alpha_5 (by decide) (fun h1 => ?_) (fun h1 => ?_)
  · skip
    have h1b := fb_b0 h1
    refine lv_iconst (v := 0) hx hb zd_M_alpha_17 (by decide) ?_
    exact W.iret (v := 0) hx hb hr (fun t ht hW => ⟨⟨0, st, rfl, ⟨(by simp only [mf_rate, if_neg h1b, fb_b_t, fb_b_f]), rfl, hok⟩, by rw [ht]; exact hP, va_K.moved hW.alike hK, hD⟩, hS.F ht⟩) hS.2.2 zd_M_alpha_18
  · skip
    have h1b := fb_b1 h1
    refine lv_aload_n hx hb zd_M_alpha_8 rfl (lv_at hl 0 rfl) ?_
    refine pw_get (C := "PausedFabricModel") (T := zT_M) (N := 28) hx hb hT zin_M hown hK hP (fb_memM (k := 0) rfl) rfl rfl 12 (by decide) (hT _ zi_448) (fun _ h9 => h9) rfl zd_M_alpha_9 ?_
    refine lv_iload_n hx hb zd_M_alpha_12 rfl (lv_at hl 1 rfl) ?_
    refine pw_iald (v := st 12 (fb_n f)) hx hb hK hP (fb_memM (k := 12) rfl) 0 rfl rfl (fb_isF hok hfl h1b) rfl zd_M_alpha_13 ?_
    refine lv_goto (tgt := 18) hx hb zd_M_alpha_14 (by decide) ?_
    exact W.iret (v := st 12 (fb_n f)) hx hb hr (fun t ht hW => ⟨⟨st 12 (fb_n f), st, rfl, ⟨(by simp only [mf_rate, if_pos h1b, fb_b_t, fb_b_f]), rfl, hok⟩, by rw [ht]; exact hP, va_K.moved hW.alike hK, hD⟩, hS.F ht⟩) hS.2.2 zd_M_alpha_18

set_option maxHeartbeats 4000000 in
set_option maxRecDepth 100000 in
theorem c_M_share (l : Launch) (D : va_G) (cA : Nat → ClassId) (ad : Nat → Nat → Nat) (fl fr T : Nat) (st : fb_S) (hflr : fl ≤ 12 ∧ fr ≤ 100 ∧ T ≤ 30000) (hok : fb_okM fl fr T st) (q : Int32) (x : Int32) : fb_Mi l zy_M_share (zw_M_share :: lw_gd) { frames := 0, cells := 0, slots := 0, locals := 0 } (fb_cM cA) D fb_cl (fb_tys cA) ad fb_LM st [.ref (ad 0 0), .int q, .int x] (fun rr st1 => rr = mf_shareA q x ∧ st1 = mf_share q x st ∧ fb_okM fl fr T st1) := by
  have hfl : fl ≤ 12 := hflr.1
  have hfr : fr ≤ 100 := hflr.2.1
  have hTb : T ≤ 30000 := hflr.2.2
  intro sz
  refine Met.ofW (cc := zb_M_share) (maxL := 3) (ret := (some .boolean)) (by decide) rfl ?_
  intro p e s m args below meth c s₁ B hml hv
  obtain ⟨rfl, hsz, hP, hK, hD0⟩ := hv
  have hx := B.exec
  have hb := B.bytes
  have hr := B.returns
  have hts := atoms_spec (ws := zw_M_share :: lw_gd) B.pre
  have hT : ∀ w ∈ lw_gd, w.before _ s = true := fun w h => hts w (List.mem_cons_of_mem _ h)
  have hown : s.vm.findClass "PausedFabricModel" = some m.cls := findClass_of_methodNamed B.named
  have hlocks := B.notSynchronized
  subst hsz
  have hD := fb_D_self (sz := s.heap.size) hD0
  have hS : va_S (fb_A ad fb_LM s.heap.size) s.heap s.heap [] := va_S.rf
  have hl := lv_entry ([.ref (ad 0 0), .int q, .int x]) (n := 3) (Nat.le_of_ble_eq_true rfl)
  rw [lg_entry_eq]
  generalize (lg_sl ([.ref (ad 0 0), .int q, .int x]) ++ List.replicate (3 - (lg_sl ([.ref (ad 0 0), .int q, .int x])).length) Slot.unset).toArray = ls at hl ⊢
  have hl : lv_has ls 3 [(0, .ref (ad 0 0)), (1, .int q), (2, .int x)] := hl
  refine lv_iload_n hx hb zd_M_share_0 rfl (lv_at hl 1 rfl) ?_
  refine lv_if_lt (tgt := 20) hx hb zd_M_share_1 (by decide) (fun h1 => ?_) (fun h1 => ?_)
  · skip
    refine lv_iconst (v := 0) hx hb zd_M_share_20 (by decide) ?_
    exact W.zret (v := 0) hx hb hr rfl (fun t ht hW => ⟨⟨0, st, rfl, ⟨(by simp only [mf_shareA, mf_share, if_pos h1, fb_b_t, fb_b_f]), (by simp only [mf_shareA, mf_share, if_pos h1, fb_b_t, fb_b_f]), hok⟩, by rw [ht]; exact hP, va_K.moved hW.alike hK, hD⟩, hS.F ht⟩) hS.2.2 zd_M_share_21
  · skip
    refine lv_iload_n hx hb zd_M_share_4 rfl (lv_at hl 1 rfl) ?_
    refine lv_iconst (v := 1) hx hb zd_M_share_5 (by decide) ?_
    refine lv_icmp_gt (tgt := 20) hx hb zd_M_share_6 (by decide) (fun h2 => ?_) (fun h2 => ?_)
    · skip
      refine lv_iconst (v := 0) hx hb zd_M_share_20 (by decide) ?_
      exact W.zret (v := 0) hx hb hr rfl (fun t ht hW => ⟨⟨0, st, rfl, ⟨(by simp only [mf_shareA, mf_share, if_neg h1, if_pos h2, fb_b_t, fb_b_f]), (by simp only [mf_shareA, mf_share, if_neg h1, if_pos h2, fb_b_t, fb_b_f]), hok⟩, by rw [ht]; exact hP, va_K.moved hW.alike hK, hD⟩, hS.F ht⟩) hS.2.2 zd_M_share_21
    · skip
      refine lv_iload_n hx hb zd_M_share_9 rfl (lv_at hl 2 rfl) ?_
      refine lv_iconst (v := 1) hx hb zd_M_share_10 (by decide) ?_
      refine lv_icmp_lt (tgt := 20) hx hb zd_M_share_11 (by decide) (fun h3 => ?_) (fun h3 => ?_)
      · skip
        refine lv_iconst (v := 0) hx hb zd_M_share_20 (by decide) ?_
        exact W.zret (v := 0) hx hb hr rfl (fun t ht hW => ⟨⟨0, st, rfl, ⟨(by simp only [mf_shareA, mf_share, if_neg h1, if_neg h2, if_pos h3, fb_b_t, fb_b_f]), (by simp only [mf_shareA, mf_share, if_neg h1, if_neg h2, if_pos h3, fb_b_t, fb_b_f]), hok⟩, by rw [ht]; exact hP, va_K.moved hW.alike hK, hD⟩, hS.F ht⟩) hS.2.2 zd_M_share_21
      · skip
        refine lv_iload_n hx hb zd_M_share_14 rfl (lv_at hl 2 rfl) ?_
        refine lv_bipush (v := 8) hx hb zd_M_share_15 (by decide) ?_
        refine lv_icmp_le (tgt := 22) hx hb zd_M_share_17 (by decide) (fun h4 => ?_) (fun h4 => ?_)
        · skip
          refine lv_aload_n hx hb zd_M_share_22 rfl (lv_at hl 0 rfl) ?_
          refine pw_get (C := "PausedFabricModel") (T := zT_M) (N := 28) hx hb hT zin_M hown hK hP (fb_memM (k := 0) rfl) rfl rfl 25 (by decide) (hT _ zi_461) (fun _ h9 => h9) rfl zd_M_share_23 ?_
          refine lv_iload_n hx hb zd_M_share_26 rfl (lv_at hl 1 rfl) ?_
          refine lv_iload_n hx hb zd_M_share_27 rfl (lv_at hl 2 rfl) ?_
          refine pw_iast hx hb hK hP hD hS (fb_memM (k := 25) rfl) 0 rfl rfl (fb_in2 h1 h2) (fb_up st 25 (fb_n q) x) (pa_M25 _ _ _) (fb_hoM _ 25 _ _ owM_25) zd_M_share_28 (fun H locs hP hD hS => ?_)
          obtain ⟨s5, es5⟩ : ∃ z, z = fb_up st 25 (fb_n q) x := ⟨_, rfl⟩
          have oks5 : fb_okM fl fr T s5 := es5 ▸ (fb_okM_up hok (fun _ => ⟨fb_nlt h3, h4⟩))
          rw [← es5] at hP hD
          refine lv_iconst (v := 1) hx hb zd_M_share_29 (by decide) ?_
          exact W.zret (v := 1) hx hb hr rfl (fun t ht hW => ⟨⟨1, s5, rfl, ⟨(by subst es5; simp only [mf_shareA, mf_share, if_neg h1, if_neg h2, if_neg h3, if_pos h4, fb_b_t, fb_b_f]), (by subst es5; simp only [mf_shareA, mf_share, if_neg h1, if_neg h2, if_neg h3, if_pos h4, fb_b_t, fb_b_f]), oks5⟩, by rw [ht]; exact hP, va_K.moved hW.alike hK, hD⟩, hS.F ht⟩) hS.2.2 zd_M_share_30
        · skip
          refine lv_iconst (v := 0) hx hb zd_M_share_20 (by decide) ?_
          exact W.zret (v := 0) hx hb hr rfl (fun t ht hW => ⟨⟨0, st, rfl, ⟨(by simp only [mf_shareA, mf_share, if_neg h1, if_neg h2, if_neg h3, if_neg h4, fb_b_t, fb_b_f]), (by simp only [mf_shareA, mf_share, if_neg h1, if_neg h2, if_neg h3, if_neg h4, fb_b_t, fb_b_f]), hok⟩, by rw [ht]; exact hP, va_K.moved hW.alike hK, hD⟩, hS.F ht⟩) hS.2.2 zd_M_share_21
