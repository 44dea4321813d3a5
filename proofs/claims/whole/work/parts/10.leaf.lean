/-! contracts (by program) -/
set_option maxHeartbeats 4000000 in
set_option maxRecDepth 100000 in
theorem c_X_nearest (l : Launch) (D : va_G) (cA : Nat → ClassId) (cn : fb_C) (ad : Nat → Nat → Nat) (LL : fb_L) (st : fb_S) (v : Int32) (lo : Int32) (hi : Int32) : fb_Mi l zy_X_nearest (zw_X_nearest :: lw_gd) { frames := 1, cells := 0, slots := 0, locals := 16 } cn D fb_cl (fb_tys cA) ad LL st [.int v, .int lo, .int hi] (fun rr st1 => rr = cf_near v lo hi ∧ st1 = st ∧ True) := by
  intro sz
  refine Met.ofW (cc := zb_X_nearest) (maxL := 3) (ret := (some .int)) (by decide) rfl ?_
  intro p e s m args below meth c s₁ B hml hv
  obtain ⟨rfl, hsz, hP, hK, hD0⟩ := hv
  have hx := B.exec
  have hb := B.bytes
  have hr := B.returns
  have hts := atoms_spec (ws := zw_X_nearest :: lw_gd) B.pre
  have hT : ∀ w ∈ lw_gd, w.before _ s = true := fun w h => hts w (List.mem_cons_of_mem _ h)
  have hown : s.vm.findClass "PausedFabric" = some m.cls := findClass_of_methodNamed B.named
  have hlocks := B.notSynchronized
  subst hsz
  have hD := fb_D_self (sz := s.heap.size) hD0
  have hS : va_S (fb_A ad LL s.heap.size) s.heap s.heap [] := va_S.rf
  have hl := lv_entry ([.int v, .int lo, .int hi]) (n := 3) (Nat.le_of_ble_eq_true rfl)
  rw [lg_entry_eq]
  generalize (lg_sl ([.int v, .int lo, .int hi]) ++ List.replicate (3 - (lg_sl ([.int v, .int lo, .int hi])).length) Slot.unset).toArray = ls at hl ⊢
  have hl : lv_has ls 3 [(0, .int v), (1, .int lo), (2, .int hi)] := hl
  refine lv_iload_n hx hb zd_X_nearest_0 rfl (lv_at hl 1 rfl) ?_
  refine lv_iload_n hx hb zd_X_nearest_1 rfl (lv_at hl 2 rfl) ?_
  refine lv_iload_n hx hb zd_X_nearest_2 rfl (lv_at hl 0 rfl) ?_
  refine va_mmin hx hb (hml.trans hl.1.symm) hown (hT _ zi_25) (hT _ zi_26) (hT _ zi_2) (hT _ zc_J_min) (Nat.le_of_ble_eq_true rfl) (Nat.le_of_ble_eq_true rfl) (Nat.zero_le _) (Nat.zero_le _) zd_X_nearest_3 ?_
  refine va_mmax hx hb (hml.trans hl.1.symm) hown (hT _ zi_28) (hT _ zi_29) (hT _ zi_2) (hT _ zc_J_max) (Nat.le_of_ble_eq_true rfl) (Nat.le_of_ble_eq_true rfl) (Nat.zero_le _) (Nat.zero_le _) zd_X_nearest_6 ?_
  exact W.iret (v := if lo < (if v < hi then v else hi) then (if v < hi then v else hi) else lo) hx hb hr (fun t ht hW => ⟨⟨if lo < (if v < hi then v else hi) then (if v < hi then v else hi) else lo, st, rfl, ⟨(by simp only [cf_near, fb_b_t, fb_b_f]), rfl, trivial⟩, by rw [ht]; exact hP, va_K.moved hW.alike hK, hD⟩, hS.F ht⟩) hS.2.2 zd_X_nearest_9

set_option maxHeartbeats 4000000 in
set_option maxRecDepth 100000 in
theorem c_X_isHost (l : Launch) (D : va_G) (cA : Nat → ClassId) (cn : fb_C) (ad : Nat → Nat → Nat) (LL : fb_L) (st : fb_S) (n : Int32) : fb_Mi l zy_X_isHost (zw_X_isHost :: lw_gd) { frames := 0, cells := 0, slots := 0, locals := 0 } cn D fb_cl (fb_tys cA) ad LL st [.int n] (fun rr st1 => rr = fb_b (cf_host n) ∧ st1 = st ∧ True) := by
  intro sz
  refine Met.ofW (cc := zb_X_isHost) (maxL := 1) (ret := (some .boolean)) (by decide) rfl ?_
  intro p e s m args below meth c s₁ B hml hv
  obtain ⟨rfl, hsz, hP, hK, hD0⟩ := hv
  have hx := B.exec
  have hb := B.bytes
  have hr := B.returns
  have hts := atoms_spec (ws := zw_X_isHost :: lw_gd) B.pre
  have hT : ∀ w ∈ lw_gd, w.before _ s = true := fun w h => hts w (List.mem_cons_of_mem _ h)
  have hown : s.vm.findClass "PausedFabric" = some m.cls := findClass_of_methodNamed B.named
  have hlocks := B.notSynchronized
  subst hsz
  have hD := fb_D_self (sz := s.heap.size) hD0
  have hS : va_S (fb_A ad LL s.heap.size) s.heap s.heap [] := va_S.rf
  have hl := lv_entry ([.int n]) (n := 1) (Nat.le_of_ble_eq_true rfl)
  rw [lg_entry_eq]
  generalize (lg_sl ([.int n]) ++ List.replicate (1 - (lg_sl ([.int n])).length) Slot.unset).toArray = ls at hl ⊢
  have hl : lv_has ls 1 [(0, .int n)] := hl
  refine lv_iload_n hx hb zd_X_isHost_0 rfl (lv_at hl 0 rfl) ?_
  refine lv_if_lt (tgt := 14) hx hb zd_X_isHost_1 (by decide) (fun h1 => ?_) (fun h1 => ?_)
  · skip
    refine lv_iconst (v := 0) hx hb zd_X_isHost_14 (by decide) ?_
    exact W.zret (v := 0) hx hb hr rfl (fun t ht hW => ⟨⟨0, st, rfl, ⟨(by simp only [cf_host, if_pos h1, fb_b_t, fb_b_f]), rfl, trivial⟩, by rw [ht]; exact hP, va_K.moved hW.alike hK, hD⟩, hS.F ht⟩) hS.2.2 zd_X_isHost_15
  · skip
    refine lv_iload_n hx hb zd_X_isHost_4 rfl (lv_at hl 0 rfl) ?_
    refine lv_bipush (v := 8) hx hb zd_X_isHost_5 (by decide) ?_
    refine lv_icmp_ge (tgt := 14) hx hb zd_X_isHost_7 (by decide) (fun h2 => ?_) (fun h2 => ?_)
    · skip
      refine lv_iconst (v := 0) hx hb zd_X_isHost_14 (by decide) ?_
      exact W.zret (v := 0) hx hb hr rfl (fun t ht hW => ⟨⟨0, st, rfl, ⟨(by simp only [cf_host, if_neg h1, if_pos h2, fb_b_t, fb_b_f]), rfl, trivial⟩, by rw [ht]; exact hP, va_K.moved hW.alike hK, hD⟩, hS.F ht⟩) hS.2.2 zd_X_isHost_15
    · skip
      refine lv_iconst (v := 1) hx hb zd_X_isHost_10 (by decide) ?_
      refine lv_goto (tgt := 15) hx hb zd_X_isHost_11 (by decide) ?_
      exact W.zret (v := 1) hx hb hr rfl (fun t ht hW => ⟨⟨1, st, rfl, ⟨(by simp only [cf_host, if_neg h1, if_neg h2, fb_b_t, fb_b_f]), rfl, trivial⟩, by rw [ht]; exact hP, va_K.moved hW.alike hK, hD⟩, hS.F ht⟩) hS.2.2 zd_X_isHost_15

set_option maxHeartbeats 4000000 in
set_option maxRecDepth 100000 in
theorem c_X_isPriority (l : Launch) (D : va_G) (cA : Nat → ClassId) (cn : fb_C) (ad : Nat → Nat → Nat) (LL : fb_L) (st : fb_S) (n : Int32) : fb_Mi l zy_X_isPriority (zw_X_isPriority :: lw_gd) { frames := 0, cells := 0, slots := 0, locals := 0 } cn D fb_cl (fb_tys cA) ad LL st [.int n] (fun rr st1 => rr = fb_b (cf_prio n) ∧ st1 = st ∧ True) := by
  intro sz
  refine Met.ofW (cc := zb_X_isPriority) (maxL := 1) (ret := (some .boolean)) (by decide) rfl ?_
  intro p e s m args below meth c s₁ B hml hv
  obtain ⟨rfl, hsz, hP, hK, hD0⟩ := hv
  have hx := B.exec
  have hb := B.bytes
  have hr := B.returns
  have hts := atoms_spec (ws := zw_X_isPriority :: lw_gd) B.pre
  have hT : ∀ w ∈ lw_gd, w.before _ s = true := fun w h => hts w (List.mem_cons_of_mem _ h)
  have hown : s.vm.findClass "PausedFabric" = some m.cls := findClass_of_methodNamed B.named
  have hlocks := B.notSynchronized
  subst hsz
  have hD := fb_D_self (sz := s.heap.size) hD0
  have hS : va_S (fb_A ad LL s.heap.size) s.heap s.heap [] := va_S.rf
  have hl := lv_entry ([.int n]) (n := 1) (Nat.le_of_ble_eq_true rfl)
  rw [lg_entry_eq]
  generalize (lg_sl ([.int n]) ++ List.replicate (1 - (lg_sl ([.int n])).length) Slot.unset).toArray = ls at hl ⊢
  have hl : lv_has ls 1 [(0, .int n)] := hl
  refine lv_iload_n hx hb zd_X_isPriority_0 rfl (lv_at hl 0 rfl) ?_
  refine lv_if_lt (tgt := 13) hx hb zd_X_isPriority_1 (by decide) (fun h1 => ?_) (fun h1 => ?_)
  · skip
    refine lv_iconst (v := 0) hx hb zd_X_isPriority_13 (by decide) ?_
    exact W.zret (v := 0) hx hb hr rfl (fun t ht hW => ⟨⟨0, st, rfl, ⟨(by simp only [cf_prio, if_pos h1, fb_b_t, fb_b_f]), rfl, trivial⟩, by rw [ht]; exact hP, va_K.moved hW.alike hK, hD⟩, hS.F ht⟩) hS.2.2 zd_X_isPriority_14
  · skip
    refine lv_iload_n hx hb zd_X_isPriority_4 rfl (lv_at hl 0 rfl) ?_
    refine lv_iconst (v := 2) hx hb zd_X_isPriority_5 (by decide) ?_
    refine lv_icmp_ge (tgt := 13) hx hb zd_X_isPriority_6 (by decide) (fun h2 => ?_) (fun h2 => ?_)
    · skip
      refine lv_iconst (v := 0) hx hb zd_X_isPriority_13 (by decide) ?_
      exact W.zret (v := 0) hx hb hr rfl (fun t ht hW => ⟨⟨0, st, rfl, ⟨(by simp only [cf_prio, if_neg h1, if_pos h2, fb_b_t, fb_b_f]), rfl, trivial⟩, by rw [ht]; exact hP, va_K.moved hW.alike hK, hD⟩, hS.F ht⟩) hS.2.2 zd_X_isPriority_14
    · skip
      refine lv_iconst (v := 1) hx hb zd_X_isPriority_9 (by decide) ?_
      refine lv_goto (tgt := 14) hx hb zd_X_isPriority_10 (by decide) ?_
      exact W.zret (v := 1) hx hb hr rfl (fun t ht hW => ⟨⟨1, st, rfl, ⟨(by simp only [cf_prio, if_neg h1, if_neg h2, fb_b_t, fb_b_f]), rfl, trivial⟩, by rw [ht]; exact hP, va_K.moved hW.alike hK, hD⟩, hS.F ht⟩) hS.2.2 zd_X_isPriority_14

set_option maxHeartbeats 4000000 in
set_option maxRecDepth 100000 in
theorem c_X_leafOf (l : Launch) (D : va_G) (cA : Nat → ClassId) (cn : fb_C) (ad : Nat → Nat → Nat) (LL : fb_L) (st : fb_S) (n : Int32) : fb_Mi l zy_X_leafOf (zw_X_leafOf :: lw_gd) { frames := 0, cells := 0, slots := 0, locals := 0 } cn D fb_cl (fb_tys cA) ad LL st [.int n] (fun rr st1 => rr = cf_leaf n ∧ st1 = st ∧ True) := by
  intro sz
  refine Met.ofW (cc := zb_X_leafOf) (maxL := 1) (ret := (some .int)) (by decide) rfl ?_
  intro p e s m args below meth c s₁ B hml hv
  obtain ⟨rfl, hsz, hP, hK, hD0⟩ := hv
  have hx := B.exec
  have hb := B.bytes
  have hr := B.returns
  have hts := atoms_spec (ws := zw_X_leafOf :: lw_gd) B.pre
  have hT : ∀ w ∈ lw_gd, w.before _ s = true := fun w h => hts w (List.mem_cons_of_mem _ h)
  have hown : s.vm.findClass "PausedFabric" = some m.cls := findClass_of_methodNamed B.named
  have hlocks := B.notSynchronized
  subst hsz
  have hD := fb_D_self (sz := s.heap.size) hD0
  have hS : va_S (fb_A ad LL s.heap.size) s.heap s.heap [] := va_S.rf
  have hl := lv_entry ([.int n]) (n := 1) (Nat.le_of_ble_eq_true rfl)
  rw [lg_entry_eq]
  generalize (lg_sl ([.int n]) ++ List.replicate (1 - (lg_sl ([.int n])).length) Slot.unset).toArray = ls at hl ⊢
  have hl : lv_has ls 1 [(0, .int n)] := hl
  refine lv_bipush (v := 8) hx hb zd_X_leafOf_0 (by decide) ?_
  refine lv_iload_n hx hb zd_X_leafOf_2 rfl (lv_at hl 0 rfl) ?_
  refine lv_iconst (v := 2) hx hb zd_X_leafOf_3 (by decide) ?_
  refine lv_idiv hx hb zd_X_leafOf_4 (by decide) ?_
  refine lv_iadd hx hb zd_X_leafOf_5 ?_
  exact W.iret (v := 8 + (n / 2)) hx hb hr (fun t ht hW => ⟨⟨8 + (n / 2), st, rfl, ⟨(by simp only [cf_leaf, fb_b_t, fb_b_f]), rfl, trivial⟩, by rw [ht]; exact hP, va_K.moved hW.alike hK, hD⟩, hS.F ht⟩) hS.2.2 zd_X_leafOf_6

set_option maxHeartbeats 4000000 in
set_option maxRecDepth 100000 in
theorem c_X_areLinked (l : Launch) (D : va_G) (cA : Nat → ClassId) (cn : fb_C) (ad : Nat → Nat → Nat) (LL : fb_L) (st : fb_S) (u : Int32) (v : Int32) : fb_Mi l zy_X_areLinked (zw_X_areLinked :: lw_gd) { frames := 1, cells := 0, slots := 0, locals := 20 } cn D fb_cl (fb_tys cA) ad LL st [.int u, .int v] (fun rr st1 => rr = fb_b (cf_linked u v) ∧ st1 = st ∧ True) := by
  intro sz
  refine Met.ofW (cc := zb_X_areLinked) (maxL := 4) (ret := (some .boolean)) (by decide) rfl ?_
  intro p e s m args below meth c s₁ B hml hv
  obtain ⟨rfl, hsz, hP, hK, hD0⟩ := hv
  have hx := B.exec
  have hb := B.bytes
  have hr := B.returns
  have hts := atoms_spec (ws := zw_X_areLinked :: lw_gd) B.pre
  have hT : ∀ w ∈ lw_gd, w.before _ s = true := fun w h => hts w (List.mem_cons_of_mem _ h)
  have hown : s.vm.findClass "PausedFabric" = some m.cls := findClass_of_methodNamed B.named
  have hlocks := B.notSynchronized
  subst hsz
  have hD := fb_D_self (sz := s.heap.size) hD0
  have hS : va_S (fb_A ad LL s.heap.size) s.heap s.heap [] := va_S.rf
  have hl := lv_entry ([.int u, .int v]) (n := 4) (Nat.le_of_ble_eq_true rfl)
  rw [lg_entry_eq]
  generalize (lg_sl ([.int u, .int v]) ++ List.replicate (4 - (lg_sl ([.int u, .int v])).length) Slot.unset).toArray = ls at hl ⊢
  have hl : lv_has ls 4 [(0, .int u), (1, .int v)] := hl
  refine lv_iload_n hx hb zd_X_areLinked_0 rfl (lv_at hl 0 rfl) ?_
  refine lv_iload_n hx hb zd_X_areLinked_1 rfl (lv_at hl 1 rfl) ?_
  refine va_mmin hx hb (hml.trans hl.1.symm) hown (hT _ zi_25) (hT _ zi_26) (hT _ zi_2) (hT _ zc_J_min) (Nat.le_of_ble_eq_true rfl) (Nat.le_of_ble_eq_true rfl) (Nat.zero_le _) (Nat.zero_le _) zd_X_areLinked_2 ?_
  refine lv_istore_n (lv' := [(2, .int (if v < u then v else u)), (0, .int u), (1, .int v)]) hx hb zd_X_areLinked_5 rfl hl (by decide) rfl (fun ls hl => ?_)
  refine lv_iload_n hx hb zd_X_areLinked_6 rfl (lv_at hl 1 rfl) ?_
  refine lv_iload_n hx hb zd_X_areLinked_7 rfl (lv_at hl 2 rfl) ?_
  refine va_mmax hx hb (hml.trans hl.1.symm) hown (hT _ zi_28) (hT _ zi_29) (hT _ zi_2) (hT _ zc_J_max) (Nat.le_of_ble_eq_true rfl) (Nat.le_of_ble_eq_true rfl) (Nat.zero_le _) (Nat.zero_le _) zd_X_areLinked_8 ?_
  refine lv_istore_n (lv' := [(3, .int (if u < v then v else u)), (2, .int (if v < u then v else u)), (0, .int u), (1, .int v)]) hx hb zd_X_areLinked_11 rfl hl (by decide) rfl (fun ls hl => ?_)
  refine lv_iload_n hx hb zd_X_areLinked_12 rfl (lv_at hl 1 rfl) ?_
  refine pw_Si (bytes := zb_X_isHost) (maxL := 1) (ret := (some .boolean)) (As := [.int (if v < u then v else u)]) (rest := []) ⟨hx, hb, hml, hown, hT⟩ (c_X_isHost l D cA cn ad LL st (if v < u then v else u)) (cwS 1 hT (fb_gS zi_31 zi_32 zi_1 zc_X_isHost) rfl rfl rfl (by decide +kernel) ⟨Nat.le_of_ble_eq_true rfl, Nat.le_of_ble_eq_true rfl⟩) hK hP hD hS rfl hl.1 rfl (lv_room (Nat.le_of_ble_eq_true rfl)) zd_X_areLinked_13 ⟨Nat.zero_le _, Nat.zero_le _⟩ (fun rx sx H locs hp hP hD hS => ?_)
  obtain ⟨hr9, hs, hok9⟩ := hp
  rw [hr9]
  rw [hs] at hP hD
  refine lv_if_eq (tgt := 35) hx hb zd_X_areLinked_16 (by decide) (fun h1 => ?_) (fun h1 => ?_)
  · skip
    have h1b := fb_b0 h1
    refine lv_iload_n hx hb zd_X_areLinked_35 rfl (lv_at hl 1 rfl) ?_
    refine lv_bipush (v := 12) hx hb zd_X_areLinked_36 (by decide) ?_
    refine lv_icmp_ge (tgt := 51) hx hb zd_X_areLinked_38 (by decide) (fun h2 => ?_) (fun h2 => ?_)
    · skip
      refine lv_iconst (v := 0) hx hb zd_X_areLinked_51 (by decide) ?_
      exact W.zret (v := 0) hx hb hr rfl (fun t ht hW => ⟨⟨0, st, rfl, ⟨(by simp only [cf_linked, if_neg h1b, if_pos h2, fb_b_t, fb_b_f]), rfl, trivial⟩, by rw [ht]; exact hP, va_K.moved hW.alike hK, hD⟩, hS.F ht⟩) hS.2.2 zd_X_areLinked_52
    · skip
      refine lv_iload_n hx hb zd_X_areLinked_41 rfl (lv_at hl 0 rfl) ?_
      refine lv_bipush (v := 12) hx hb zd_X_areLinked_42 (by decide) ?_
      refine lv_icmp_lt (tgt := 51) hx hb zd_X_areLinked_44 (by decide) (fun h3 => ?_) (fun h3 => ?_)
      · skip
        refine lv_iconst (v := 0) hx hb zd_X_areLinked_51 (by decide) ?_
        exact W.zret (v := 0) hx hb hr rfl (fun t ht hW => ⟨⟨0, st, rfl, ⟨(by simp only [cf_linked, if_neg h1b, if_neg h2, if_pos h3, fb_b_t, fb_b_f]), rfl, trivial⟩, by rw [ht]; exact hP, va_K.moved hW.alike hK, hD⟩, hS.F ht⟩) hS.2.2 zd_X_areLinked_52
      · skip
        refine lv_iconst (v := 1) hx hb zd_X_areLinked_47 (by decide) ?_
        refine lv_goto (tgt := 52) hx hb zd_X_areLinked_48 (by decide) ?_
        exact W.zret (v := 1) hx hb hr rfl (fun t ht hW => ⟨⟨1, st, rfl, ⟨(by simp only [cf_linked, if_neg h1b, if_neg h2, if_neg h3, fb_b_t, fb_b_f]), rfl, trivial⟩, by rw [ht]; exact hP, va_K.moved hW.alike hK, hD⟩, hS.F ht⟩) hS.2.2 zd_X_areLinked_52
  · skip
    have h1b := fb_b1 h1
    refine lv_iload_n hx hb zd_X_areLinked_19 rfl (lv_at hl 0 rfl) ?_
    refine lv_iload_n hx hb zd_X_areLinked_20 rfl (lv_at hl 1 rfl) ?_
    refine pw_Si (bytes := zb_X_leafOf) (maxL := 1) (ret := (some .int)) (As := [.int (if v < u then v else u)]) (rest := [.int (if u < v then v else u)]) ⟨hx, hb, hml, hown, hT⟩ (c_X_leafOf l D cA cn ad LL st (if v < u then v else u)) (cwS 1 hT (fb_gS zi_34 zi_35 zi_1 zc_X_leafOf) rfl rfl rfl (by decide +kernel) ⟨Nat.le_of_ble_eq_true rfl, Nat.le_of_ble_eq_true rfl⟩) hK hP hD hS rfl hl.1 rfl (lv_room (Nat.le_of_ble_eq_true rfl)) zd_X_areLinked_21 ⟨Nat.zero_le _, Nat.zero_le _⟩ (fun rx sx H locs hp hP hD hS => ?_)
    obtain ⟨hr9, hs, hok9⟩ := hp
    rw [hr9]
    rw [hs] at hP hD
    refine lv_icmp_ne (tgt := 31) hx hb zd_X_areLinked_24 (by decide) (fun h4 => ?_) (fun h4 => ?_)
    · skip
      refine lv_iconst (v := 0) hx hb zd_X_areLinked_31 (by decide) ?_
      refine lv_goto (tgt := 52) hx hb zd_X_areLinked_32 (by decide) ?_
      exact W.zret (v := 0) hx hb hr rfl (fun t ht hW => ⟨⟨0, st, rfl, ⟨(by simp only [cf_linked, if_pos h1b, if_neg h4, fb_b_t, fb_b_f]), rfl, trivial⟩, by rw [ht]; exact hP, va_K.moved hW.alike hK, hD⟩, hS.F ht⟩) hS.2.2 zd_X_areLinked_52
    · skip
      refine lv_iconst (v := 1) hx hb zd_X_areLinked_27 (by decide) ?_
      refine lv_goto (tgt := 52) hx hb zd_X_areLinked_28 (by decide) ?_
      exact W.zret (v := 1) hx hb hr rfl (fun t ht hW => ⟨⟨1, st, rfl, ⟨(by simp only [cf_linked, if_pos h1b, if_pos h4, fb_b_t, fb_b_f]), rfl, trivial⟩, by rw [ht]; exact hP, va_K.moved hW.alike hK, hD⟩, hS.F ht⟩) hS.2.2 zd_X_areLinked_52

set_option maxHeartbeats 4000000 in
set_option maxRecDepth 100000 in
theorem c_X_withLatest (l : Launch) (D : va_G) (cA : Nat → ClassId) (cn : fb_C) (ad : Nat → Nat → Nat) (LL : fb_L) (st : fb_S) (hist : Int32) (bb : Int32) : fb_Mi l zy_X_withLatest (zw_X_withLatest :: lw_gd) { frames := 0, cells := 0, slots := 0, locals := 0 } cn D fb_cl (fb_tys cA) ad LL st [.int hist, .int bb] (fun rr st1 => rr = cf_latest hist bb ∧ st1 = st ∧ True) := by
  intro sz
  refine Met.ofW (cc := zb_X_withLatest) (maxL := 3) (ret := (some .int)) (by decide) rfl ?_
  intro p e s m args below meth c s₁ B hml hv
  obtain ⟨rfl, hsz, hP, hK, hD0⟩ := hv
  have hx := B.exec
  have hb := B.bytes
  have hr := B.returns
  have hts := atoms_spec (ws := zw_X_withLatest :: lw_gd) B.pre
  have hT : ∀ w ∈ lw_gd, w.before _ s = true := fun w h => hts w (List.mem_cons_of_mem _ h)
  have hown : s.vm.findClass "PausedFabric" = some m.cls := findClass_of_methodNamed B.named
  have hlocks := B.notSynchronized
  subst hsz
  have hD := fb_D_self (sz := s.heap.size) hD0
  have hS : va_S (fb_A ad LL s.heap.size) s.heap s.heap [] := va_S.rf
  have hl := lv_entry ([.int hist, .int bb]) (n := 3) (Nat.le_of_ble_eq_true rfl)
  rw [lg_entry_eq]
  generalize (lg_sl ([.int hist, .int bb]) ++ List.replicate (3 - (lg_sl ([.int hist, .int bb])).length) Slot.unset).toArray = ls at hl ⊢
  have hl : lv_has ls 3 [(0, .int hist), (1, .int bb)] := hl
  refine lv_sipush (v := 255) hx hb zd_X_withLatest_0 (by decide) ?_
  refine lv_istore_n (lv' := [(2, .int 255), (0, .int hist), (1, .int bb)]) hx hb zd_X_withLatest_3 rfl hl (by decide) rfl (fun ls hl => ?_)
  refine lv_iload_n hx hb zd_X_withLatest_4 rfl (lv_at hl 1 rfl) ?_
  refine lv_iconst (v := 1) hx hb zd_X_withLatest_5 (by decide) ?_
  refine lv_ishl hx hb zd_X_withLatest_6 ?_
  refine lv_iload_n hx hb zd_X_withLatest_7 rfl (lv_at hl 2 rfl) ?_
  refine lv_if_eq (tgt := 15) hx hb zd_X_withLatest_8 (by decide) (fun h1 => ?_) (fun h1 => ?_)
  · skip
    refine lv_iconst (v := 0) hx hb zd_X_withLatest_15 (by decide) ?_
    refine lv_ior hx hb zd_X_withLatest_16 ?_
    refine lv_iload_n hx hb zd_X_withLatest_17 rfl (lv_at hl 0 rfl) ?_
    refine lv_iand hx hb zd_X_withLatest_18 ?_
    exact W.iret (v := ((hist <<< ((1 : Int32) &&& 31)) ||| 0) &&& 255) hx hb hr (fun t ht hW => ⟨⟨((hist <<< ((1 : Int32) &&& 31)) ||| 0) &&& 255, st, rfl, ⟨(by simp only [cf_latest, if_pos h1, fb_b_t, fb_b_f]), rfl, trivial⟩, by rw [ht]; exact hP, va_K.moved hW.alike hK, hD⟩, hS.F ht⟩) hS.2.2 zd_X_withLatest_19
  · skip
    refine lv_iconst (v := 1) hx hb zd_X_withLatest_11 (by decide) ?_
    refine lv_goto (tgt := 16) hx hb zd_X_withLatest_12 (by decide) ?_
    refine lv_ior hx hb zd_X_withLatest_16 ?_
    refine lv_iload_n hx hb zd_X_withLatest_17 rfl (lv_at hl 0 rfl) ?_
    refine lv_iand hx hb zd_X_withLatest_18 ?_
    exact W.iret (v := ((hist <<< ((1 : Int32) &&& 31)) ||| 1) &&& 255) hx hb hr (fun t ht hW => ⟨⟨((hist <<< ((1 : Int32) &&& 31)) ||| 1) &&& 255, st, rfl, ⟨(by simp only [cf_latest, if_neg h1, fb_b_t, fb_b_f]), rfl, trivial⟩, by rw [ht]; exact hP, va_K.moved hW.alike hK, hD⟩, hS.F ht⟩) hS.2.2 zd_X_withLatest_19

set_option maxHeartbeats 4000000 in
set_option maxRecDepth 100000 in
theorem c_X_wasSo (l : Launch) (D : va_G) (cA : Nat → ClassId) (ad : Nat → Nat → Nat) (LL : fb_L) (fl fr : Nat) (st : fb_S) (hL : fb_lvC LL fl fr) (hok : fb_okC fl fr st) (hist : Int32) : fb_Mi l zy_X_wasSo (zw_X_wasSo :: lw_gd) { frames := 0, cells := 0, slots := 0, locals := 0 } (fb_cC cA) D fb_cl (fb_tys cA) ad LL st [.ref (ad 0 0), .int hist] (fun rr st1 => rr = fb_b (cf_was st hist) ∧ st1 = st ∧ fb_okC fl fr st1) := by
  have hfl : fl ≤ 12 := hL.2.2.2.2.2.2.1
  have hfr : fr ≤ 100 := hL.2.2.2.2.2.2.2
  intro sz
  refine Met.ofW (cc := zb_X_wasSo) (maxL := 2) (ret := (some .boolean)) (by decide) rfl ?_
  intro p e s m args below meth c s₁ B hml hv
  obtain ⟨rfl, hsz, hP, hK, hD0⟩ := hv
  have hx := B.exec
  have hb := B.bytes
  have hr := B.returns
  have hts := atoms_spec (ws := zw_X_wasSo :: lw_gd) B.pre
  have hT : ∀ w ∈ lw_gd, w.before _ s = true := fun w h => hts w (List.mem_cons_of_mem _ h)
  have hown : s.vm.findClass "PausedFabric" = some m.cls := findClass_of_methodNamed B.named
  have hlocks := B.notSynchronized
  subst hsz
  have hD := fb_D_self (sz := s.heap.size) hD0
  have hS : va_S (fb_A ad LL s.heap.size) s.heap s.heap [] := va_S.rf
  have hl := lv_entry ([.ref (ad 0 0), .int hist]) (n := 2) (Nat.le_of_ble_eq_true rfl)
  rw [lg_entry_eq]
  generalize (lg_sl ([.ref (ad 0 0), .int hist]) ++ List.replicate (2 - (lg_sl ([.ref (ad 0 0), .int hist])).length) Slot.unset).toArray = ls at hl ⊢
  have hl : lv_has ls 2 [(0, .ref (ad 0 0)), (1, .int hist)] := hl
  refine lv_iload_n hx hb zd_X_wasSo_0 rfl (lv_at hl 1 rfl) ?_
  refine lv_aload_n hx hb zd_X_wasSo_1 rfl (lv_at hl 0 rfl) ?_
  refine pw_get (C := "PausedFabric") (T := zT_X) (N := 11) hx hb hT zin_X hown hK hP (hL.2.1 0 (by decide)) rfl rfl 0 (by decide) (hT _ zi_114) (fun _ h9 => h9) rfl zd_X_wasSo_2 ?_
  refine lv_iconst (v := 1) hx hb zd_X_wasSo_5 (by decide) ?_
  refine lv_isub hx hb zd_X_wasSo_6 ?_
  refine lv_ishr hx hb zd_X_wasSo_7 ?_
  refine lv_iconst (v := 1) hx hb zd_X_wasSo_8 (by decide) ?_
  refine lv_iand hx hb zd_X_wasSo_9 ?_
  refine lv_iconst (v := 1) hx hb zd_X_wasSo_10 (by decide) ?_
  refine lv_icmp_ne (tgt := 18) hx hb zd_X_wasSo_11 (by decide) (fun h1 => ?_) (fun h1 => ?_)
  · skip
    refine lv_iconst (v := 0) hx hb zd_X_wasSo_18 (by decide) ?_
    exact W.zret (v := 0) hx hb hr rfl (fun t ht hW => ⟨⟨0, st, rfl, ⟨(by simp only [cf_was, if_neg h1, fb_b_t, fb_b_f]), rfl, hok⟩, by rw [ht]; exact hP, va_K.moved hW.alike hK, hD⟩, hS.F ht⟩) hS.2.2 zd_X_wasSo_19
  · skip
    refine lv_iconst (v := 1) hx hb zd_X_wasSo_14 (by decide) ?_
    refine lv_goto (tgt := 19) hx hb zd_X_wasSo_15 (by decide) ?_
    exact W.zret (v := 1) hx hb hr rfl (fun t ht hW => ⟨⟨1, st, rfl, ⟨(by simp only [cf_was, if_pos h1, fb_b_t, fb_b_f]), rfl, hok⟩, by rw [ht]; exact hP, va_K.moved hW.alike hK, hD⟩, hS.F ht⟩) hS.2.2 zd_X_wasSo_19

set_option maxHeartbeats 4000000 in
set_option maxRecDepth 100000 in
theorem c_X_clock (l : Launch) (D : va_G) (cA : Nat → ClassId) (ad : Nat → Nat → Nat) (LL : fb_L) (fl fr : Nat) (st : fb_S) (hL : fb_lvC LL fl fr) (hok : fb_okC fl fr st) : fb_Mi l zy_X_clock (zw_X_clock :: lw_gd) { frames := 0, cells := 0, slots := 0, locals := 0 } (fb_cC cA) D fb_cl (fb_tys cA) ad LL st [.ref (ad 0 0)] (fun rr st1 => rr = st 6 0 ∧ st1 = st ∧ fb_okC fl fr st1) := by
  have hfl : fl ≤ 12 := hL.2.2.2.2.2.2.1
  have hfr : fr ≤ 100 := hL.2.2.2.2.2.2.2
  intro sz
  refine Met.ofW (cc := zb_X_clock) (maxL := 1) (ret := (some .int)) (by decide) rfl ?_
  intro p e s m args below meth c s₁ B hml hv
  obtain ⟨rfl, hsz, hP, hK, hD0⟩ := hv
  have hx := B.exec
  have hb := B.bytes
  have hr := B.returns
  have hts := atoms_spec (ws := zw_X_clock :: lw_gd) B.pre
  have hT : ∀ w ∈ lw_gd, w.before _ s = true := fun w h => hts w (List.mem_cons_of_mem _ h)
  have hown : s.vm.findClass "PausedFabric" = some m.cls := findClass_of_methodNamed B.named
  have hlocks := B.notSynchronized
  subst hsz
  have hD := fb_D_self (sz := s.heap.size) hD0
  have hS : va_S (fb_A ad LL s.heap.size) s.heap s.heap [] := va_S.rf
  have hl := lv_entry ([.ref (ad 0 0)]) (n := 1) (Nat.le_of_ble_eq_true rfl)
  rw [lg_entry_eq]
  generalize (lg_sl ([.ref (ad 0 0)]) ++ List.replicate (1 - (lg_sl ([.ref (ad 0 0)])).length) Slot.unset).toArray = ls at hl ⊢
  have hl : lv_has ls 1 [(0, .ref (ad 0 0))] := hl
  refine lv_aload_n hx hb zd_X_clock_0 rfl (lv_at hl 0 rfl) ?_
  refine pw_get (C := "PausedFabric") (T := zT_X) (N := 11) hx hb hT zin_X hown hK hP (hL.2.1 0 (by decide)) rfl rfl 10 (by decide) (hT _ zi_124) (fun _ h9 => h9) rfl zd_X_clock_1 ?_
  exact W.iret (v := st 6 0) hx hb hr (fun t ht hW => ⟨⟨st 6 0, st, rfl, ⟨(by simp only [fb_b_t, fb_b_f]), rfl, hok⟩, by rw [ht]; exact hP, va_K.moved hW.alike hK, hD⟩, hS.F ht⟩) hS.2.2 zd_X_clock_4

set_option maxHeartbeats 4000000 in
set_option maxRecDepth 100000 in
theorem c_Q_add (l : Launch) (D : va_G) (cA : Nat → ClassId) (ad : Nat → Nat → Nat) (LL : fb_L) (fl fr : Nat) (st : fb_S) (hL : fb_lvC LL fl fr) (hok : fb_okC fl fr st) (j : Nat) (hj : j < 96) (k : Nat) (hk : k < fr) : fb_Mv l zy_Q_add (zw_Q_add :: lw_gd) { frames := 0, cells := 0, slots := 0, locals := 0 } (fb_cC cA) D fb_cl (fb_tys cA) ad LL st [.ref (ad 11 j), .ref (ad 7 k)] (fun st1 => st1 = cf_add j k st ∧ fb_okC fl fr st1) := by
  have hfl : fl ≤ 12 := hL.2.2.2.2.2.2.1
  have hfr : fr ≤ 100 := hL.2.2.2.2.2.2.2
  intro sz
  refine Met.ofW (cc := zb_Q_add) (maxL := 2) (ret := none) (by decide) rfl ?_
  intro p e s m args below meth c s₁ B hml hv
  obtain ⟨rfl, hsz, hP, hK, hD0⟩ := hv
  have hx := B.exec
  have hb := B.bytes
  have hr := B.returns
  have hts := atoms_spec (ws := zw_Q_add :: lw_gd) B.pre
  have hT : ∀ w ∈ lw_gd, w.before _ s = true := fun w h => hts w (List.mem_cons_of_mem _ h)
  have hown : s.vm.findClass "PausedFabric$FrameQueue" = some m.cls := findClass_of_methodNamed B.named
  have hlocks := B.notSynchronized
  subst hsz
  have hD := fb_D_self (sz := s.heap.size) hD0
  have hS : va_S (fb_A ad LL s.heap.size) s.heap s.heap [] := va_S.rf
  have hl := lv_entry ([.ref (ad 11 j), .ref (ad 7 k)]) (n := 2) (Nat.le_of_ble_eq_true rfl)
  rw [lg_entry_eq]
  generalize (lg_sl ([.ref (ad 11 j), .ref (ad 7 k)]) ++ List.replicate (2 - (lg_sl ([.ref (ad 11 j), .ref (ad 7 k)])).length) Slot.unset).toArray = ls at hl ⊢
  have hl : lv_has ls 2 [(0, .ref (ad 11 j)), (1, .ref (ad 7 k))] := hl
  refine lv_aload_n hx hb zd_Q_add_0 rfl (lv_at hl 1 rfl) ?_
  refine lv_null hx hb zd_Q_add_1 ?_
  refine pw_put (C := "PausedFabric$Frame") (T := zT_K) (N := 10) (ty := (.object "PausedFabric$Frame")) (v := .null) hx hb hT zin_K zt_K ztok_K znm_K hown hK hP hD hS (hL.2.2.2.2.2.1 _ hk) rfl rfl 9 (by decide) (hT _ zi_257) (fun _ h9 => h9) rfl (by decide +kernel) rfl rfl (Nat.le_of_ble_eq_true rfl) (fb_up st 44 k (-1)) (psn_C44 _ _ fb_m1) (fb_hoC hL _ 44 _ _ ow_44 (ix_44 _)) zd_Q_add_2 (fun H locs hP hD hS => ?_)
  obtain ⟨s1, es1⟩ : ∃ z, z = fb_up st 44 k (-1) := ⟨_, rfl⟩
  have oks1 : fb_okC fl fr s1 := es1 ▸ (fb_okC_up hok (Or.inl rfl))
  rw [← es1] at hP hD
  refine lv_aload_n hx hb zd_Q_add_5 rfl (lv_at hl 0 rfl) ?_
  refine pw_get (C := "PausedFabric$FrameQueue") (T := zT_Q) (N := 3) hx hb hT zin_Q hown hK hP (hL.2.2.2.1 _ hj) rfl rfl 1 (by decide) (hT _ zi_51) (fun _ h9 => h9) rfl zd_Q_add_6 ?_
  refine pw_split (fun hz2 => ?_) (fun hz2 => ?_)
  · skip
    refine lv_ifnonnullN hx hb zd_Q_add_9 ?_
    refine lv_aload_n hx hb zd_Q_add_12 rfl (lv_at hl 0 rfl) ?_
    refine lv_aload_n hx hb zd_Q_add_13 rfl (lv_at hl 1 rfl) ?_
    refine pw_put (C := "PausedFabric$FrameQueue") (T := zT_Q) (N := 3) (ty := (.object "PausedFabric$Frame")) (v := .ref (ad 7 k)) hx hb hT zin_Q zt_Q ztok_Q znm_Q hown hK hP hD hS (hL.2.2.2.1 _ hj) rfl rfl 0 (by decide) (hT _ zi_49) (fun _ h9 => h9) rfl (by decide +kernel) rfl rfl (Nat.le_of_ble_eq_true rfl) (fb_up s1 19 j (nI k)) (psk_C19 _ _ (fb_l31 hk hfr)) (fb_hoC hL _ 19 _ _ ow_19 (ix_19 _)) zd_Q_add_14 (fun H locs hP hD hS => ?_)
    obtain ⟨s3, es3⟩ : ∃ z, z = fb_up s1 19 j (nI k) := ⟨_, rfl⟩
    have oks3 : fb_okC fl fr s3 := es3 ▸ (fb_okC_up oks1 (fb_rk hk (by omega)))
    rw [← es3] at hP hD
    refine lv_goto (tgt := 28) hx hb zd_Q_add_17 (by decide) ?_
    refine lv_aload_n hx hb zd_Q_add_28 rfl (lv_at hl 0 rfl) ?_
    refine lv_aload_n hx hb zd_Q_add_29 rfl (lv_at hl 1 rfl) ?_
    refine pw_put (C := "PausedFabric$FrameQueue") (T := zT_Q) (N := 3) (ty := (.object "PausedFabric$Frame")) (v := .ref (ad 7 k)) hx hb hT zin_Q zt_Q ztok_Q znm_Q hown hK hP hD hS (hL.2.2.2.1 _ hj) rfl rfl 1 (by decide) (hT _ zi_51) (fun _ h9 => h9) rfl (by decide +kernel) rfl rfl (Nat.le_of_ble_eq_true rfl) (fb_up s3 20 j (nI k)) (psk_C20 _ _ (fb_l31 hk hfr)) (fb_hoC hL _ 20 _ _ ow_20 (ix_20 _)) zd_Q_add_30 (fun H locs hP hD hS => ?_)
    obtain ⟨s4, es4⟩ : ∃ z, z = fb_up s3 20 j (nI k) := ⟨_, rfl⟩
    have oks4 : fb_okC fl fr s4 := es4 ▸ (fb_okC_up oks3 (fb_rk hk (by omega)))
    rw [← es4] at hP hD
    refine lv_aload_n hx hb zd_Q_add_33 rfl (lv_at hl 0 rfl) ?_
    refine lv_dup hx hb zd_Q_add_34 rfl ?_
    refine pw_get (C := "PausedFabric$FrameQueue") (T := zT_Q) (N := 3) hx hb hT zin_Q hown hK hP (hL.2.2.2.1 _ hj) rfl rfl 2 (by decide) (hT _ zi_52) (fun _ h9 => h9) rfl zd_Q_add_35 ?_
    refine lv_aload_n hx hb zd_Q_add_38 rfl (lv_at hl 1 rfl) ?_
    refine pw_get (C := "PausedFabric$Frame") (T := zT_K) (N := 10) hx hb hT zin_K hown hK hP (hL.2.2.2.2.2.1 _ hk) rfl rfl 2 (by decide) (hT _ zi_242) (fun _ h9 => h9) rfl zd_Q_add_39 ?_
    refine lv_iadd hx hb zd_Q_add_42 ?_
    refine pw_put (C := "PausedFabric$FrameQueue") (T := zT_Q) (N := 3) (ty := .int) (v := .int ((s4 21 j) + (s4 37 k))) hx hb hT zin_Q zt_Q ztok_Q znm_Q hown hK hP hD hS (hL.2.2.2.1 _ hj) rfl rfl 2 (by decide) (hT _ zi_52) (fun _ h9 => h9) rfl (by decide +kernel) rfl rfl (Nat.le_of_ble_eq_true rfl) (fb_up s4 21 j ((s4 21 j) + (s4 37 k))) (ps_C21 _ _ _) (fb_hoC hL _ 21 _ _ ow_21 (ix_21 _)) zd_Q_add_43 (fun H locs hP hD hS => ?_)
    obtain ⟨s5, es5⟩ : ∃ z, z = fb_up s4 21 j ((s4 21 j) + (s4 37 k)) := ⟨_, rfl⟩
    have oks5 : fb_okC fl fr s5 := es5 ▸ (fb_okC_up oks4 trivial)
    rw [← es5] at hP hD
    exact W.vret hx hb hr (fun t ht hW => ⟨⟨s5, rfl, ⟨(by subst es5 es4 es3 es1; simp only [cf_add, if_pos hz2, fb_b_t, fb_b_f]), oks5⟩, by rw [ht]; exact hP, va_K.moved hW.alike hK, hD⟩, hS.F ht⟩) hS.2.2 zd_Q_add_46
  · skip
    refine lv_ifnonnull (tgt := 20) hx hb zd_Q_add_9 (by decide) ?_
    refine lv_aload_n hx hb zd_Q_add_20 rfl (lv_at hl 0 rfl) ?_
    refine pw_get (C := "PausedFabric$FrameQueue") (T := zT_Q) (N := 3) hx hb hT zin_Q hown hK hP (hL.2.2.2.1 _ hj) rfl rfl 1 (by decide) (hT _ zi_51) (fun _ h9 => h9) rfl zd_Q_add_21 ?_
    refine pw_split (fun h9 => absurd h9 hz2) (fun _ => ?_)
    refine lv_aload_n hx hb zd_Q_add_24 rfl (lv_at hl 1 rfl) ?_
    refine pw_put (C := "PausedFabric$Frame") (T := zT_K) (N := 10) (ty := (.object "PausedFabric$Frame")) (v := .ref (ad 7 k)) hx hb hT zin_K zt_K ztok_K znm_K hown hK hP hD hS (hL.2.2.2.2.2.1 _ (fb_rl (oks1 20 _) hz2)) rfl rfl 9 (by decide) (hT _ zi_257) (fun _ h9 => h9) rfl (by decide +kernel) rfl rfl (Nat.le_of_ble_eq_true rfl) (fb_up s1 44 (fb_n (s1 20 j)) (nI k)) (psk_C44 _ _ (fb_l31 hk hfr)) (fb_hoC hL _ 44 _ _ ow_44 (ix_44 _)) zd_Q_add_25 (fun H locs hP hD hS => ?_)
    obtain ⟨s6, es6⟩ : ∃ z, z = fb_up s1 44 (fb_n (s1 20 j)) (nI k) := ⟨_, rfl⟩
    have oks6 : fb_okC fl fr s6 := es6 ▸ (fb_okC_up oks1 (fb_rk hk (by omega)))
    rw [← es6] at hP hD
    refine lv_aload_n hx hb zd_Q_add_28 rfl (lv_at hl 0 rfl) ?_
    refine lv_aload_n hx hb zd_Q_add_29 rfl (lv_at hl 1 rfl) ?_
    refine pw_put (C := "PausedFabric$FrameQueue") (T := zT_Q) (N := 3) (ty := (.object "PausedFabric$Frame")) (v := .ref (ad 7 k)) hx hb hT zin_Q zt_Q ztok_Q znm_Q hown hK hP hD hS (hL.2.2.2.1 _ hj) rfl rfl 1 (by decide) (hT _ zi_51) (fun _ h9 => h9) rfl (by decide +kernel) rfl rfl (Nat.le_of_ble_eq_true rfl) (fb_up s6 20 j (nI k)) (psk_C20 _ _ (fb_l31 hk hfr)) (fb_hoC hL _ 20 _ _ ow_20 (ix_20 _)) zd_Q_add_30 (fun H locs hP hD hS => ?_)
    obtain ⟨s7, es7⟩ : ∃ z, z = fb_up s6 20 j (nI k) := ⟨_, rfl⟩
    have oks7 : fb_okC fl fr s7 := es7 ▸ (fb_okC_up oks6 (fb_rk hk (by omega)))
    rw [← es7] at hP hD
    refine lv_aload_n hx hb zd_Q_add_33 rfl (lv_at hl 0 rfl) ?_
    refine lv_dup hx hb zd_Q_add_34 rfl ?_
    refine pw_get (C := "PausedFabric$FrameQueue") (T := zT_Q) (N := 3) hx hb hT zin_Q hown hK hP (hL.2.2.2.1 _ hj) rfl rfl 2 (by decide) (hT _ zi_52) (fun _ h9 => h9) rfl zd_Q_add_35 ?_
    refine lv_aload_n hx hb zd_Q_add_38 rfl (lv_at hl 1 rfl) ?_
    refine pw_get (C := "PausedFabric$Frame") (T := zT_K) (N := 10) hx hb hT zin_K hown hK hP (hL.2.2.2.2.2.1 _ hk) rfl rfl 2 (by decide) (hT _ zi_242) (fun _ h9 => h9) rfl zd_Q_add_39 ?_
    refine lv_iadd hx hb zd_Q_add_42 ?_
    refine pw_put (C := "PausedFabric$FrameQueue") (T := zT_Q) (N := 3) (ty := .int) (v := .int ((s7 21 j) + (s7 37 k))) hx hb hT zin_Q zt_Q ztok_Q znm_Q hown hK hP hD hS (hL.2.2.2.1 _ hj) rfl rfl 2 (by decide) (hT _ zi_52) (fun _ h9 => h9) rfl (by decide +kernel) rfl rfl (Nat.le_of_ble_eq_true rfl) (fb_up s7 21 j ((s7 21 j) + (s7 37 k))) (ps_C21 _ _ _) (fb_hoC hL _ 21 _ _ ow_21 (ix_21 _)) zd_Q_add_43 (fun H locs hP hD hS => ?_)
    obtain ⟨s8, es8⟩ : ∃ z, z = fb_up s7 21 j ((s7 21 j) + (s7 37 k)) := ⟨_, rfl⟩
    have oks8 : fb_okC fl fr s8 := es8 ▸ (fb_okC_up oks7 trivial)
    rw [← es8] at hP hD
    exact W.vret hx hb hr (fun t ht hW => ⟨⟨s8, rfl, ⟨(by subst es8 es7 es6 es1; simp only [cf_add, if_neg hz2, fb_b_t, fb_b_f]), oks8⟩, by rw [ht]; exact hP, va_K.moved hW.alike hK, hD⟩, hS.F ht⟩) hS.2.2 zd_Q_add_46

set_option maxHeartbeats 4000000 in
set_option maxRecDepth 100000 in
theorem c_Q_removeFirst (l : Launch) (D : va_G) (cA : Nat → ClassId) (ad : Nat → Nat → Nat) (LL : fb_L) (fl fr : Nat) (st : fb_S) (hL : fb_lvC LL fl fr) (hok : fb_okC fl fr st) (j : Nat) (hj : j < 96) : fb_Mv l zy_Q_removeFirst (zw_Q_removeFirst :: lw_gd) { frames := 0, cells := 0, slots := 0, locals := 0 } (fb_cC cA) D fb_cl (fb_tys cA) ad LL st [.ref (ad 11 j)] (fun st1 => st1 = cf_rem j st ∧ fb_okC fl fr st1) := by
  have hfl : fl ≤ 12 := hL.2.2.2.2.2.2.1
  have hfr : fr ≤ 100 := hL.2.2.2.2.2.2.2
  intro sz
  refine Met.ofW (cc := zb_Q_removeFirst) (maxL := 2) (ret := none) (by decide) rfl ?_
  intro p e s m args below meth c s₁ B hml hv
  obtain ⟨rfl, hsz, hP, hK, hD0⟩ := hv
  have hx := B.exec
  have hb := B.bytes
  have hr := B.returns
  have hts := atoms_spec (ws := zw_Q_removeFirst :: lw_gd) B.pre
  have hT : ∀ w ∈ lw_gd, w.before _ s = true := fun w h => hts w (List.mem_cons_of_mem _ h)
  have hown : s.vm.findClass "PausedFabric$FrameQueue" = some m.cls := findClass_of_methodNamed B.named
  have hlocks := B.notSynchronized
  subst hsz
  have hD := fb_D_self (sz := s.heap.size) hD0
  have hS : va_S (fb_A ad LL s.heap.size) s.heap s.heap [] := va_S.rf
  have hl := lv_entry ([.ref (ad 11 j)]) (n := 2) (Nat.le_of_ble_eq_true rfl)
  rw [lg_entry_eq]
  generalize (lg_sl ([.ref (ad 11 j)]) ++ List.replicate (2 - (lg_sl ([.ref (ad 11 j)])).length) Slot.unset).toArray = ls at hl ⊢
  have hl : lv_has ls 2 [(0, .ref (ad 11 j))] := hl
  refine lv_aload_n hx hb zd_Q_removeFirst_0 rfl (lv_at hl 0 rfl) ?_
  refine pw_get (C := "PausedFabric$FrameQueue") (T := zT_Q) (N := 3) hx hb hT zin_Q hown hK hP (hL.2.2.2.1 _ hj) rfl rfl 0 (by decide) (hT _ zi_49) (fun _ h9 => h9) rfl zd_Q_removeFirst_1 ?_
  refine pw_split (fun hz1 => ?_) (fun hz1 => ?_)
  · skip
    refine lv_astore_nN (lv' := [(1, .null), (0, .ref (ad 11 j))]) hx hb zd_Q_removeFirst_4 rfl hl (by decide) rfl (fun ls hl => ?_)
    refine lv_aload_nN hx hb zd_Q_removeFirst_5 rfl (lv_at hl 0 rfl) ?_
    refine lv_ifnonnullN hx hb zd_Q_removeFirst_6 ?_
    exact W.vret hx hb hr (fun t ht hW => ⟨⟨st, rfl, ⟨(by simp only [cf_rem, if_pos hz1, fb_b_t, fb_b_f]), hok⟩, by rw [ht]; exact hP, va_K.moved hW.alike hK, hD⟩, hS.F ht⟩) hS.2.2 zd_Q_removeFirst_9
  · skip
    refine lv_astore_n (lv' := [(1, .ref (ad 7 (fb_n (st 19 j)))), (0, .ref (ad 11 j))]) hx hb zd_Q_removeFirst_4 rfl hl (by decide) rfl (fun ls hl => ?_)
    refine lv_aload_n hx hb zd_Q_removeFirst_5 rfl (lv_at hl 0 rfl) ?_
    refine lv_ifnonnull (tgt := 10) hx hb zd_Q_removeFirst_6 (by decide) ?_
    refine lv_aload_n hx hb zd_Q_removeFirst_10 rfl (lv_at hl 1 rfl) ?_
    refine lv_aload_n hx hb zd_Q_removeFirst_11 rfl (lv_at hl 0 rfl) ?_
    refine pw_get (C := "PausedFabric$Frame") (T := zT_K) (N := 10) hx hb hT zin_K hown hK hP (hL.2.2.2.2.2.1 _ (fb_rl (hok 19 _) hz1)) rfl rfl 9 (by decide) (hT _ zi_257) (fun _ h9 => h9) rfl zd_Q_removeFirst_12 ?_
    refine pw_split (fun hz2 => ?_) (fun hz2 => ?_)
    · skip
      refine pw_put (C := "PausedFabric$FrameQueue") (T := zT_Q) (N := 3) (ty := (.object "PausedFabric$Frame")) (v := .null) hx hb hT zin_Q zt_Q ztok_Q znm_Q hown hK hP hD hS (hL.2.2.2.1 _ hj) rfl rfl 0 (by decide) (hT _ zi_49) (fun _ h9 => h9) rfl (by decide +kernel) rfl rfl (Nat.le_of_ble_eq_true rfl) (fb_up st 19 j (st 44 (fb_n (st 19 j)))) (psn_C19 _ _ hz2) (fb_hoC hL _ 19 _ _ ow_19 (ix_19 _)) zd_Q_removeFirst_15 (fun H locs hP hD hS => ?_)
      obtain ⟨s3, es3⟩ : ∃ z, z = fb_up st 19 j (st 44 (fb_n (st 19 j))) := ⟨_, rfl⟩
      have oks3 : fb_okC fl fr s3 := es3 ▸ (fb_okC_up hok (hok 44 _))
      rw [← es3] at hP hD
      refine lv_aload_n hx hb zd_Q_removeFirst_18 rfl (lv_at hl 1 rfl) ?_
      refine pw_get (C := "PausedFabric$FrameQueue") (T := zT_Q) (N := 3) hx hb hT zin_Q hown hK hP (hL.2.2.2.1 _ hj) rfl rfl 0 (by decide) (hT _ zi_49) (fun _ h9 => h9) rfl zd_Q_removeFirst_19 ?_
      refine pw_split (fun hz4 => ?_) (fun hz4 => ?_)
      · skip
        refine lv_ifnonnullN hx hb zd_Q_removeFirst_22 ?_
        refine lv_aload_n hx hb zd_Q_removeFirst_25 rfl (lv_at hl 1 rfl) ?_
        refine lv_null hx hb zd_Q_removeFirst_26 ?_
        refine pw_put (C := "PausedFabric$FrameQueue") (T := zT_Q) (N := 3) (ty := (.object "PausedFabric$Frame")) (v := .null) hx hb hT zin_Q zt_Q ztok_Q znm_Q hown hK hP hD hS (hL.2.2.2.1 _ hj) rfl rfl 1 (by decide) (hT _ zi_51) (fun _ h9 => h9) rfl (by decide +kernel) rfl rfl (Nat.le_of_ble_eq_true rfl) (fb_up s3 20 j (-1)) (psn_C20 _ _ fb_m1) (fb_hoC hL _ 20 _ _ ow_20 (ix_20 _)) zd_Q_removeFirst_27 (fun H locs hP hD hS => ?_)
        obtain ⟨s5, es5⟩ : ∃ z, z = fb_up s3 20 j (-1) := ⟨_, rfl⟩
        have oks5 : fb_okC fl fr s5 := es5 ▸ (fb_okC_up oks3 (Or.inl rfl))
        rw [← es5] at hP hD
        refine lv_aload_n hx hb zd_Q_removeFirst_30 rfl (lv_at hl 0 rfl) ?_
        refine lv_null hx hb zd_Q_removeFirst_31 ?_
        refine pw_put (C := "PausedFabric$Frame") (T := zT_K) (N := 10) (ty := (.object "PausedFabric$Frame")) (v := .null) hx hb hT zin_K zt_K ztok_K znm_K hown hK hP hD hS (hL.2.2.2.2.2.1 _ (fb_rl (hok 19 _) hz1)) rfl rfl 9 (by decide) (hT _ zi_257) (fun _ h9 => h9) rfl (by decide +kernel) rfl rfl (Nat.le_of_ble_eq_true rfl) (fb_up s5 44 (fb_n (st 19 j)) (-1)) (psn_C44 _ _ fb_m1) (fb_hoC hL _ 44 _ _ ow_44 (ix_44 _)) zd_Q_removeFirst_32 (fun H locs hP hD hS => ?_)
        obtain ⟨s6, es6⟩ : ∃ z, z = fb_up s5 44 (fb_n (st 19 j)) (-1) := ⟨_, rfl⟩
        have oks6 : fb_okC fl fr s6 := es6 ▸ (fb_okC_up oks5 (Or.inl rfl))
        rw [← es6] at hP hD
        refine lv_aload_n hx hb zd_Q_removeFirst_35 rfl (lv_at hl 1 rfl) ?_
        refine lv_dup hx hb zd_Q_removeFirst_36 rfl ?_
        refine pw_get (C := "PausedFabric$FrameQueue") (T := zT_Q) (N := 3) hx hb hT zin_Q hown hK hP (hL.2.2.2.1 _ hj) rfl rfl 2 (by decide) (hT _ zi_52) (fun _ h9 => h9) rfl zd_Q_removeFirst_37 ?_
        refine lv_aload_n hx hb zd_Q_removeFirst_40 rfl (lv_at hl 0 rfl) ?_
        refine pw_get (C := "PausedFabric$Frame") (T := zT_K) (N := 10) hx hb hT zin_K hown hK hP (hL.2.2.2.2.2.1 _ (fb_rl (hok 19 _) hz1)) rfl rfl 2 (by decide) (hT _ zi_242) (fun _ h9 => h9) rfl zd_Q_removeFirst_41 ?_
        refine lv_isub hx hb zd_Q_removeFirst_44 ?_
        refine pw_put (C := "PausedFabric$FrameQueue") (T := zT_Q) (N := 3) (ty := .int) (v := .int ((s6 21 j) - (s6 37 (fb_n (st 19 j))))) hx hb hT zin_Q zt_Q ztok_Q znm_Q hown hK hP hD hS (hL.2.2.2.1 _ hj) rfl rfl 2 (by decide) (hT _ zi_52) (fun _ h9 => h9) rfl (by decide +kernel) rfl rfl (Nat.le_of_ble_eq_true rfl) (fb_up s6 21 j ((s6 21 j) - (s6 37 (fb_n (st 19 j))))) (ps_C21 _ _ _) (fb_hoC hL _ 21 _ _ ow_21 (ix_21 _)) zd_Q_removeFirst_45 (fun H locs hP hD hS => ?_)
        obtain ⟨s7, es7⟩ : ∃ z, z = fb_up s6 21 j ((s6 21 j) - (s6 37 (fb_n (st 19 j)))) := ⟨_, rfl⟩
        have oks7 : fb_okC fl fr s7 := es7 ▸ (fb_okC_up oks6 trivial)
        rw [← es7] at hP hD
        exact W.vret hx hb hr (fun t ht hW => ⟨⟨s7, rfl, ⟨(by subst es7 es6 es5 es3; simp only [cf_rem, if_neg hz1, if_pos hz2, if_pos hz4, fb_b_t, fb_b_f]), oks7⟩, by rw [ht]; exact hP, va_K.moved hW.alike hK, hD⟩, hS.F ht⟩) hS.2.2 zd_Q_removeFirst_48
      · skip
        refine lv_ifnonnull (tgt := 30) hx hb zd_Q_removeFirst_22 (by decide) ?_
        refine lv_aload_n hx hb zd_Q_removeFirst_30 rfl (lv_at hl 0 rfl) ?_
        refine lv_null hx hb zd_Q_removeFirst_31 ?_
        refine pw_put (C := "PausedFabric$Frame") (T := zT_K) (N := 10) (ty := (.object "PausedFabric$Frame")) (v := .null) hx hb hT zin_K zt_K ztok_K znm_K hown hK hP hD hS (hL.2.2.2.2.2.1 _ (fb_rl (hok 19 _) hz1)) rfl rfl 9 (by decide) (hT _ zi_257) (fun _ h9 => h9) rfl (by decide +kernel) rfl rfl (Nat.le_of_ble_eq_true rfl) (fb_up s3 44 (fb_n (st 19 j)) (-1)) (psn_C44 _ _ fb_m1) (fb_hoC hL _ 44 _ _ ow_44 (ix_44 _)) zd_Q_removeFirst_32 (fun H locs hP hD hS => ?_)
        obtain ⟨s8, es8⟩ : ∃ z, z = fb_up s3 44 (fb_n (st 19 j)) (-1) := ⟨_, rfl⟩
        have oks8 : fb_okC fl fr s8 := es8 ▸ (fb_okC_up oks3 (Or.inl rfl))
        rw [← es8] at hP hD
        refine lv_aload_n hx hb zd_Q_removeFirst_35 rfl (lv_at hl 1 rfl) ?_
        refine lv_dup hx hb zd_Q_removeFirst_36 rfl ?_
        refine pw_get (C := "PausedFabric$FrameQueue") (T := zT_Q) (N := 3) hx hb hT zin_Q hown hK hP (hL.2.2.2.1 _ hj) rfl rfl 2 (by decide) (hT _ zi_52) (fun _ h9 => h9) rfl zd_Q_removeFirst_37 ?_
        refine lv_aload_n hx hb zd_Q_removeFirst_40 rfl (lv_at hl 0 rfl) ?_
        refine pw_get (C := "PausedFabric$Frame") (T := zT_K) (N := 10) hx hb hT zin_K hown hK hP (hL.2.2.2.2.2.1 _ (fb_rl (hok 19 _) hz1)) rfl rfl 2 (by decide) (hT _ zi_242) (fun _ h9 => h9) rfl zd_Q_removeFirst_41 ?_
        refine lv_isub hx hb zd_Q_removeFirst_44 ?_
        refine pw_put (C := "PausedFabric$FrameQueue") (T := zT_Q) (N := 3) (ty := .int) (v := .int ((s8 21 j) - (s8 37 (fb_n (st 19 j))))) hx hb hT zin_Q zt_Q ztok_Q znm_Q hown hK hP hD hS (hL.2.2.2.1 _ hj) rfl rfl 2 (by decide) (hT _ zi_52) (fun _ h9 => h9) rfl (by decide +kernel) rfl rfl (Nat.le_of_ble_eq_true rfl) (fb_up s8 21 j ((s8 21 j) - (s8 37 (fb_n (st 19 j))))) (ps_C21 _ _ _) (fb_hoC hL _ 21 _ _ ow_21 (ix_21 _)) zd_Q_removeFirst_45 (fun H locs hP hD hS => ?_)
        obtain ⟨s9, es9⟩ : ∃ z, z = fb_up s8 21 j ((s8 21 j) - (s8 37 (fb_n (st 19 j)))) := ⟨_, rfl⟩
        have oks9 : fb_okC fl fr s9 := es9 ▸ (fb_okC_up oks8 trivial)
        rw [← es9] at hP hD
        exact W.vret hx hb hr (fun t ht hW => ⟨⟨s9, rfl, ⟨(by subst es9 es8 es3; simp only [cf_rem, if_neg hz1, if_pos hz2, if_neg hz4, fb_b_t, fb_b_f]), oks9⟩, by rw [ht]; exact hP, va_K.moved hW.alike hK, hD⟩, hS.F ht⟩) hS.2.2 zd_Q_removeFirst_48
    · skip
      refine pw_put (C := "PausedFabric$FrameQueue") (T := zT_Q) (N := 3) (ty := (.object "PausedFabric$Frame")) (v := .ref (ad 7 (fb_n (st 44 (fb_n (st 19 j)))))) hx hb hT zin_Q zt_Q ztok_Q znm_Q hown hK hP hD hS (hL.2.2.2.1 _ hj) rfl rfl 0 (by decide) (hT _ zi_49) (fun _ h9 => h9) rfl (by decide +kernel) rfl rfl (Nat.le_of_ble_eq_true rfl) (fb_up st 19 j (st 44 (fb_n (st 19 j)))) (psr_C19 _ _ hz2) (fb_hoC hL _ 19 _ _ ow_19 (ix_19 _)) zd_Q_removeFirst_15 (fun H locs hP hD hS => ?_)
      obtain ⟨s10, es10⟩ : ∃ z, z = fb_up st 19 j (st 44 (fb_n (st 19 j))) := ⟨_, rfl⟩
      have oks10 : fb_okC fl fr s10 := es10 ▸ (fb_okC_up hok (hok 44 _))
      rw [← es10] at hP hD
      refine lv_aload_n hx hb zd_Q_removeFirst_18 rfl (lv_at hl 1 rfl) ?_
      refine pw_get (C := "PausedFabric$FrameQueue") (T := zT_Q) (N := 3) hx hb hT zin_Q hown hK hP (hL.2.2.2.1 _ hj) rfl rfl 0 (by decide) (hT _ zi_49) (fun _ h9 => h9) rfl zd_Q_removeFirst_19 ?_
      refine pw_split (fun hz11 => ?_) (fun hz11 => ?_)
      · skip
        refine lv_ifnonnullN hx hb zd_Q_removeFirst_22 ?_
        refine lv_aload_n hx hb zd_Q_removeFirst_25 rfl (lv_at hl 1 rfl) ?_
        refine lv_null hx hb zd_Q_removeFirst_26 ?_
        refine pw_put (C := "PausedFabric$FrameQueue") (T := zT_Q) (N := 3) (ty := (.object "PausedFabric$Frame")) (v := .null) hx hb hT zin_Q zt_Q ztok_Q znm_Q hown hK hP hD hS (hL.2.2.2.1 _ hj) rfl rfl 1 (by decide) (hT _ zi_51) (fun _ h9 => h9) rfl (by decide +kernel) rfl rfl (Nat.le_of_ble_eq_true rfl) (fb_up s10 20 j (-1)) (psn_C20 _ _ fb_m1) (fb_hoC hL _ 20 _ _ ow_20 (ix_20 _)) zd_Q_removeFirst_27 (fun H locs hP hD hS => ?_)
        obtain ⟨s12, es12⟩ : ∃ z, z = fb_up s10 20 j (-1) := ⟨_, rfl⟩
        have oks12 : fb_okC fl fr s12 := es12 ▸ (fb_okC_up oks10 (Or.inl rfl))
        rw [← es12] at hP hD
        refine lv_aload_n hx hb zd_Q_removeFirst_30 rfl (lv_at hl 0 rfl) ?_
        refine lv_null hx hb zd_Q_removeFirst_31 ?_
        refine pw_put (C := "PausedFabric$Frame") (T := zT_K) (N := 10) (ty := (.object "PausedFabric$Frame")) (v := .null) hx hb hT zin_K zt_K ztok_K znm_K hown hK hP hD hS (hL.2.2.2.2.2.1 _ (fb_rl (hok 19 _) hz1)) rfl rfl 9 (by decide) (hT _ zi_257) (fun _ h9 => h9) rfl (by decide +kernel) rfl rfl (Nat.le_of_ble_eq_true rfl) (fb_up s12 44 (fb_n (st 19 j)) (-1)) (psn_C44 _ _ fb_m1) (fb_hoC hL _ 44 _ _ ow_44 (ix_44 _)) zd_Q_removeFirst_32 (fun H locs hP hD hS => ?_)
        obtain ⟨s13, es13⟩ : ∃ z, z = fb_up s12 44 (fb_n (st 19 j)) (-1) := ⟨_, rfl⟩
        have oks13 : fb_okC fl fr s13 := es13 ▸ (fb_okC_up oks12 (Or.inl rfl))
        rw [← es13] at hP hD
        refine lv_aload_n hx hb zd_Q_removeFirst_35 rfl (lv_at hl 1 rfl) ?_
        refine lv_dup hx hb zd_Q_removeFirst_36 rfl ?_
        refine pw_get (C := "PausedFabric$FrameQueue") (T := zT_Q) (N := 3) hx hb hT zin_Q hown hK hP (hL.2.2.2.1 _ hj) rfl rfl 2 (by decide) (hT _ zi_52) (fun _ h9 => h9) rfl zd_Q_removeFirst_37 ?_
        refine lv_aload_n hx hb zd_Q_removeFirst_40 rfl (lv_at hl 0 rfl) ?_
        refine pw_get (C := "PausedFabric$Frame") (T := zT_K) (N := 10) hx hb hT zin_K hown hK hP (hL.2.2.2.2.2.1 _ (fb_rl (hok 19 _) hz1)) rfl rfl 2 (by decide) (hT _ zi_242) (fun _ h9 => h9) rfl zd_Q_removeFirst_41 ?_
        refine lv_isub hx hb zd_Q_removeFirst_44 ?_
        refine pw_put (C := "PausedFabric$FrameQueue") (T := zT_Q) (N := 3) (ty := .int) (v := .int ((s13 21 j) - (s13 37 (fb_n (st 19 j))))) hx hb hT zin_Q zt_Q ztok_Q znm_Q hown hK hP hD hS (hL.2.2.2.1 _ hj) rfl rfl 2 (by decide) (hT _ zi_52) (fun _ h9 => h9) rfl (by decide +kernel) rfl rfl (Nat.le_of_ble_eq_true rfl) (fb_up s13 21 j ((s13 21 j) - (s13 37 (fb_n (st 19 j))))) (ps_C21 _ _ _) (fb_hoC hL _ 21 _ _ ow_21 (ix_21 _)) zd_Q_removeFirst_45 (fun H locs hP hD hS => ?_)
        obtain ⟨s14, es14⟩ : ∃ z, z = fb_up s13 21 j ((s13 21 j) - (s13 37 (fb_n (st 19 j)))) := ⟨_, rfl⟩
        have oks14 : fb_okC fl fr s14 := es14 ▸ (fb_okC_up oks13 trivial)
        rw [← es14] at hP hD
        exact W.vret hx hb hr (fun t ht hW => ⟨⟨s14, rfl, ⟨(by subst es14 es13 es12 es10; simp only [cf_rem, if_neg hz1, if_neg hz2, if_pos hz11, fb_b_t, fb_b_f]), oks14⟩, by rw [ht]; exact hP, va_K.moved hW.alike hK, hD⟩, hS.F ht⟩) hS.2.2 zd_Q_removeFirst_48
      · skip
        refine lv_ifnonnull (tgt := 30) hx hb zd_Q_removeFirst_22 (by decide) ?_
        refine lv_aload_n hx hb zd_Q_removeFirst_30 rfl (lv_at hl 0 rfl) ?_
        refine lv_null hx hb zd_Q_removeFirst_31 ?_
        refine pw_put (C := "PausedFabric$Frame") (T := zT_K) (N := 10) (ty := (.object "PausedFabric$Frame")) (v := .null) hx hb hT zin_K zt_K ztok_K znm_K hown hK hP hD hS (hL.2.2.2.2.2.1 _ (fb_rl (hok 19 _) hz1)) rfl rfl 9 (by decide) (hT _ zi_257) (fun _ h9 => h9) rfl (by decide +kernel) rfl rfl (Nat.le_of_ble_eq_true rfl) (fb_up s10 44 (fb_n (st 19 j)) (-1)) (psn_C44 _ _ fb_m1) (fb_hoC hL _ 44 _ _ ow_44 (ix_44 _)) zd_Q_removeFirst_32 (fun H locs hP hD hS => ?_)
        obtain ⟨s15, es15⟩ : ∃ z, z = fb_up s10 44 (fb_n (st 19 j)) (-1) := ⟨_, rfl⟩
        have oks15 : fb_okC fl fr s15 := es15 ▸ (fb_okC_up oks10 (Or.inl rfl))
        rw [← es15] at hP hD
        refine lv_aload_n hx hb zd_Q_removeFirst_35 rfl (lv_at hl 1 rfl) ?_
        refine lv_dup hx hb zd_Q_removeFirst_36 rfl ?_
        refine pw_get (C := "PausedFabric$FrameQueue") (T := zT_Q) (N := 3) hx hb hT zin_Q hown hK hP (hL.2.2.2.1 _ hj) rfl rfl 2 (by decide) (hT _ zi_52) (fun _ h9 => h9) rfl zd_Q_removeFirst_37 ?_
        refine lv_aload_n hx hb zd_Q_removeFirst_40 rfl (lv_at hl 0 rfl) ?_
        refine pw_get (C := "PausedFabric$Frame") (T := zT_K) (N := 10) hx hb hT zin_K hown hK hP (hL.2.2.2.2.2.1 _ (fb_rl (hok 19 _) hz1)) rfl rfl 2 (by decide) (hT _ zi_242) (fun _ h9 => h9) rfl zd_Q_removeFirst_41 ?_
        refine lv_isub hx hb zd_Q_removeFirst_44 ?_
        refine pw_put (C := "PausedFabric$FrameQueue") (T := zT_Q) (N := 3) (ty := .int) (v := .int ((s15 21 j) - (s15 37 (fb_n (st 19 j))))) hx hb hT zin_Q zt_Q ztok_Q znm_Q hown hK hP hD hS (hL.2.2.2.1 _ hj) rfl rfl 2 (by decide) (hT _ zi_52) (fun _ h9 => h9) rfl (by decide +kernel) rfl rfl (Nat.le_of_ble_eq_true rfl) (fb_up s15 21 j ((s15 21 j) - (s15 37 (fb_n (st 19 j))))) (ps_C21 _ _ _) (fb_hoC hL _ 21 _ _ ow_21 (ix_21 _)) zd_Q_removeFirst_45 (fun H locs hP hD hS => ?_)
        obtain ⟨s16, es16⟩ : ∃ z, z = fb_up s15 21 j ((s15 21 j) - (s15 37 (fb_n (st 19 j)))) := ⟨_, rfl⟩
        have oks16 : fb_okC fl fr s16 := es16 ▸ (fb_okC_up oks15 trivial)
        rw [← es16] at hP hD
        exact W.vret hx hb hr (fun t ht hW => ⟨⟨s16, rfl, ⟨(by subst es16 es15 es10; simp only [cf_rem, if_neg hz1, if_neg hz2, if_neg hz11, fb_b_t, fb_b_f]), oks16⟩, by rw [ht]; exact hP, va_K.moved hW.alike hK, hD⟩, hS.F ht⟩) hS.2.2 zd_Q_removeFirst_48
