/-! constructors (by program) -/
set_option maxHeartbeats 4000000 in
set_option maxRecDepth 100000 in
theorem c_Q_init (l : Launch) (D : va_G) (cA : Nat → ClassId) (b : Nat) (sz : Nat) : Met l zy_Q_init (zw_Q_init :: lw_gd) { frames := 1, cells := 0, slots := 0, locals := 24 } (va_Pc [.ref b] (fun U => U.heap.size = sz ∧ va_P D fb_cl [(b, .inr (4, [.null, .null, .int 0]))] U.heap ∧ va_K D fb_cl (fb_tys cA) U ∧ va_D (fun _ => True) [(b, .inr (4, [.null, .null, .int 0]))])) (va_Qv (fun _ : Unit => True) (fun u t => va_P D fb_cl [(b, .inr (4, [.null, .null, .int 0]))] t.heap ∧ va_K D fb_cl (fb_tys cA) t ∧ va_D (va_A [(b, .inr (4, [.null, .null, .int 0]))] sz) [(b, .inr (4, [.null, .null, .int 0]))]) (va_A [(b, .inr (4, [.null, .null, .int 0]))] sz)) 0 0 (va_A [(b, .inr (4, [.null, .null, .int 0]))] sz) := by
  refine Met.ofW (cc := zb_Q_init) (maxL := 1) (ret := none) (by decide) rfl ?_
  intro p e s m args below meth c s₁ B hml hv
  obtain ⟨rfl, hsz, hP, hK, hD0⟩ := hv
  have hx := B.exec
  have hb := B.bytes
  have hr := B.returns
  have hts := atoms_spec (ws := zw_Q_init :: lw_gd) B.pre
  have hT : ∀ w ∈ lw_gd, w.before _ s = true := fun w h => hts w (List.mem_cons_of_mem _ h)
  have hown : s.vm.findClass "PausedFabric$FrameQueue" = some m.cls := findClass_of_methodNamed B.named
  have hlocks := B.notSynchronized
  have hin : meth.name = "<init>" := (name_of_methodNamed B.named B.method).1
  subst hsz
  have hD := hD0.self (sz := s.heap.size)
  generalize hAe : va_A [(b, .inr (4, [.null, .null, .int 0]))] s.heap.size = A at hD ⊢
  have hA : ∀ q : Nat, s.heap.size ≤ q → A q := fun q h => by rw [← hAe]; exact Or.inr h
  have hS : va_S A s.heap s.heap [] := va_S.rf
  have hl := lv_entry ([.ref b]) (n := 1) (Nat.le_of_ble_eq_true rfl)
  rw [lg_entry_eq]
  generalize (lg_sl ([.ref b]) ++ List.replicate (1 - (lg_sl ([.ref b])).length) Slot.unset).toArray = ls at hl ⊢
  have hl : lv_has ls 1 [(0, .ref b)] := hl
  have hP : va_P D fb_cl [(b, .inr (4, [.null, .null, .int 0]))] s.heap := hP
  refine lv_aload_n hx hb zd_Q_init_0 rfl (lv_at hl 0 rfl) ?_
  refine W.objInit hx hb hown (hT _ zi_48) (hT _ zi_15) (hT _ zc_O_init) rfl (by rw [hml]; exact hl.1) rfl zd_Q_init_1 (Nat.le_of_ble_eq_true rfl) (Nat.le_of_ble_eq_true rfl) ?_
  refine W.eq (g2 := F0 m 4 ls []) rfl ?_
  refine lv_aload_n hx hb zd_Q_init_4 rfl (lv_at hl 0 rfl) ?_
  refine lv_null hx hb zd_Q_init_5 ?_
  refine va_put (D := D) (ci := 4) (v := .null) (ty := (.object "PausedFabric$Frame")) (C := "PausedFabric$FrameQueue") (T := zT_Q) (N := 3) hx hb hT zin_Q zt_Q ztok_Q znm_Q hown hK hP hD hS 0 rfl rfl 0 (by decide) (hT _ zi_49) (fun _ h9 => h9) rfl (by decide +kernel) rfl rfl (Nat.le_of_ble_eq_true rfl) zd_Q_init_6 (fun H locs hP hD hS => ?_)
  have hP : va_P D fb_cl [(b, .inr (4, [.null, .null, .int 0]))] H := hP
  have hD : va_D A [(b, .inr (4, [.null, .null, .int 0]))] := hD
  refine lv_aload_n hx hb zd_Q_init_9 rfl (lv_at hl 0 rfl) ?_
  refine lv_null hx hb zd_Q_init_10 ?_
  refine va_put (D := D) (ci := 4) (v := .null) (ty := (.object "PausedFabric$Frame")) (C := "PausedFabric$FrameQueue") (T := zT_Q) (N := 3) hx hb hT zin_Q zt_Q ztok_Q znm_Q hown hK hP hD hS 0 rfl rfl 1 (by decide) (hT _ zi_51) (fun _ h9 => h9) rfl (by decide +kernel) rfl rfl (Nat.le_of_ble_eq_true rfl) zd_Q_init_11 (fun H locs hP hD hS => ?_)
  have hP : va_P D fb_cl [(b, .inr (4, [.null, .null, .int 0]))] H := hP
  have hD : va_D A [(b, .inr (4, [.null, .null, .int 0]))] := hD
  refine lv_aload_n hx hb zd_Q_init_14 rfl (lv_at hl 0 rfl) ?_
  refine lv_iconst (v := 0) hx hb zd_Q_init_15 (by decide) ?_
  refine va_put (D := D) (ci := 4) (v := .int 0) (ty := .int) (C := "PausedFabric$FrameQueue") (T := zT_Q) (N := 3) hx hb hT zin_Q zt_Q ztok_Q znm_Q hown hK hP hD hS 0 rfl rfl 2 (by decide) (hT _ zi_52) (fun _ h9 => h9) rfl (by decide +kernel) rfl rfl (Nat.le_of_ble_eq_true rfl) zd_Q_init_16 (fun H locs hP hD hS => ?_)
  have hP : va_P D fb_cl [(b, .inr (4, [.null, .null, .int 0]))] H := hP
  have hD : va_D A [(b, .inr (4, [.null, .null, .int 0]))] := hD
  exact W.vret hx hb hr (fun t ht hW => ⟨⟨(), rfl, trivial, by rw [ht]; exact hP, va_K.moved hW.alike hK, hD⟩, hS.F ht⟩) hS.2.2 zd_Q_init_19

set_option maxHeartbeats 4000000 in
set_option maxRecDepth 100000 in
theorem c_K_init (l : Launch) (D : va_G) (cA : Nat → ClassId) (b : Nat) (nn : Int32) (fa : Nat) (len : Int32) (sz : Nat) : Met l zy_K_init (zw_K_init :: lw_gd) { frames := 1, cells := 0, slots := 0, locals := 24 } (va_Pc [.ref b, .int nn, .ref fa, .int len] (fun U => U.heap.size = sz ∧ va_P D fb_cl [(b, .inr (3, [.int 0, .null, .int 0, .int 0, .int 0, .int 0, .int 0, .null, .int 0, .null]))] U.heap ∧ va_K D fb_cl (fb_tys cA) U ∧ va_D (fun _ => True) [(b, .inr (3, [.int 0, .null, .int 0, .int 0, .int 0, .int 0, .int 0, .null, .int 0, .null]))])) (va_Qv (fun _ : Unit => True) (fun u t => va_P D fb_cl [(b, .inr (3, [.int nn, .ref fa, .int len, .int 1, .int (-1), .int 0, .int 0, .null, .int 0, .null]))] t.heap ∧ va_K D fb_cl (fb_tys cA) t ∧ va_D (va_A [(b, .inr (3, [.int 0, .null, .int 0, .int 0, .int 0, .int 0, .int 0, .null, .int 0, .null]))] sz) [(b, .inr (3, [.int nn, .ref fa, .int len, .int 1, .int (-1), .int 0, .int 0, .null, .int 0, .null]))]) (va_A [(b, .inr (3, [.int 0, .null, .int 0, .int 0, .int 0, .int 0, .int 0, .null, .int 0, .null]))] sz)) 0 0 (va_A [(b, .inr (3, [.int 0, .null, .int 0, .int 0, .int 0, .int 0, .int 0, .null, .int 0, .null]))] sz) := by
  refine Met.ofW (cc := zb_K_init) (maxL := 4) (ret := none) (by decide) rfl ?_
  intro p e s m args below meth c s₁ B hml hv
  obtain ⟨rfl, hsz, hP, hK, hD0⟩ := hv
  have hx := B.exec
  have hb := B.bytes
  have hr := B.returns
  have hts := atoms_spec (ws := zw_K_init :: lw_gd) B.pre
  have hT : ∀ w ∈ lw_gd, w.before _ s = true := fun w h => hts w (List.mem_cons_of_mem _ h)
  have hown : s.vm.findClass "PausedFabric$Frame" = some m.cls := findClass_of_methodNamed B.named
  have hlocks := B.notSynchronized
  have hin : meth.name = "<init>" := (name_of_methodNamed B.named B.method).1
  subst hsz
  have hD := hD0.self (sz := s.heap.size)
  generalize hAe : va_A [(b, .inr (3, [.int 0, .null, .int 0, .int 0, .int 0, .int 0, .int 0, .null, .int 0, .null]))] s.heap.size = A at hD ⊢
  have hA : ∀ q : Nat, s.heap.size ≤ q → A q := fun q h => by rw [← hAe]; exact Or.inr h
  have hS : va_S A s.heap s.heap [] := va_S.rf
  have hl := lv_entry ([.ref b, .int nn, .ref fa, .int len]) (n := 4) (Nat.le_of_ble_eq_true rfl)
  rw [lg_entry_eq]
  generalize (lg_sl ([.ref b, .int nn, .ref fa, .int len]) ++ List.replicate (4 - (lg_sl ([.ref b, .int nn, .ref fa, .int len])).length) Slot.unset).toArray = ls at hl ⊢
  have hl : lv_has ls 4 [(0, .ref b), (1, .int nn), (2, .ref fa), (3, .int len)] := hl
  have hP : va_P D fb_cl [(b, .inr (3, [.int 0, .null, .int 0, .int 0, .int 0, .int 0, .int 0, .null, .int 0, .null]))] s.heap := hP
  refine lv_aload_n hx hb zd_K_init_0 rfl (lv_at hl 0 rfl) ?_
  refine W.objInit hx hb hown (hT _ zi_236) (hT _ zi_15) (hT _ zc_O_init) rfl (by rw [hml]; exact hl.1) rfl zd_K_init_1 (Nat.le_of_ble_eq_true rfl) (Nat.le_of_ble_eq_true rfl) ?_
  refine W.eq (g2 := F0 m 4 ls []) rfl ?_
  refine lv_aload_n hx hb zd_K_init_4 rfl (lv_at hl 0 rfl) ?_
  refine lv_iconst (v := 1) hx hb zd_K_init_5 (by decide) ?_
  refine va_put (D := D) (ci := 3) (v := .int 1) (ty := .int) (C := "PausedFabric$Frame") (T := zT_K) (N := 10) hx hb hT zin_K zt_K ztok_K znm_K hown hK hP hD hS 0 rfl rfl 3 (by decide) (hT _ zi_244) (fun _ h9 => h9) rfl (by decide +kernel) rfl rfl (Nat.le_of_ble_eq_true rfl) zd_K_init_6 (fun H locs hP hD hS => ?_)
  have hP : va_P D fb_cl [(b, .inr (3, [.int 0, .null, .int 0, .int 1, .int 0, .int 0, .int 0, .null, .int 0, .null]))] H := hP
  have hD : va_D A [(b, .inr (3, [.int 0, .null, .int 0, .int 1, .int 0, .int 0, .int 0, .null, .int 0, .null]))] := hD
  refine lv_aload_n hx hb zd_K_init_9 rfl (lv_at hl 0 rfl) ?_
  refine lv_iconst (v := (-1)) hx hb zd_K_init_10 (by decide) ?_
  refine va_put (D := D) (ci := 3) (v := .int (-1)) (ty := .int) (C := "PausedFabric$Frame") (T := zT_K) (N := 10) hx hb hT zin_K zt_K ztok_K znm_K hown hK hP hD hS 0 rfl rfl 4 (by decide) (hT _ zi_246) (fun _ h9 => h9) rfl (by decide +kernel) rfl rfl (Nat.le_of_ble_eq_true rfl) zd_K_init_11 (fun H locs hP hD hS => ?_)
  have hP : va_P D fb_cl [(b, .inr (3, [.int 0, .null, .int 0, .int 1, .int (-1), .int 0, .int 0, .null, .int 0, .null]))] H := hP
  have hD : va_D A [(b, .inr (3, [.int 0, .null, .int 0, .int 1, .int (-1), .int 0, .int 0, .null, .int 0, .null]))] := hD
  refine lv_aload_n hx hb zd_K_init_14 rfl (lv_at hl 0 rfl) ?_
  refine lv_iconst (v := 0) hx hb zd_K_init_15 (by decide) ?_
  refine va_put (D := D) (ci := 3) (v := .int 0) (ty := .boolean) (C := "PausedFabric$Frame") (T := zT_K) (N := 10) hx hb hT zin_K zt_K ztok_K znm_K hown hK hP hD hS 0 rfl rfl 5 (by decide) (hT _ zi_248) (fun _ h9 => h9) rfl (by decide +kernel) rfl rfl (Nat.le_of_ble_eq_true rfl) zd_K_init_16 (fun H locs hP hD hS => ?_)
  have hP : va_P D fb_cl [(b, .inr (3, [.int 0, .null, .int 0, .int 1, .int (-1), .int 0, .int 0, .null, .int 0, .null]))] H := hP
  have hD : va_D A [(b, .inr (3, [.int 0, .null, .int 0, .int 1, .int (-1), .int 0, .int 0, .null, .int 0, .null]))] := hD
  refine lv_aload_n hx hb zd_K_init_19 rfl (lv_at hl 0 rfl) ?_
  refine lv_iconst (v := 0) hx hb zd_K_init_20 (by decide) ?_
  refine va_put (D := D) (ci := 3) (v := .int 0) (ty := .int) (C := "PausedFabric$Frame") (T := zT_K) (N := 10) hx hb hT zin_K zt_K ztok_K znm_K hown hK hP hD hS 0 rfl rfl 6 (by decide) (hT _ zi_250) (fun _ h9 => h9) rfl (by decide +kernel) rfl rfl (Nat.le_of_ble_eq_true rfl) zd_K_init_21 (fun H locs hP hD hS => ?_)
  have hP : va_P D fb_cl [(b, .inr (3, [.int 0, .null, .int 0, .int 1, .int (-1), .int 0, .int 0, .null, .int 0, .null]))] H := hP
  have hD : va_D A [(b, .inr (3, [.int 0, .null, .int 0, .int 1, .int (-1), .int 0, .int 0, .null, .int 0, .null]))] := hD
  refine lv_aload_n hx hb zd_K_init_24 rfl (lv_at hl 0 rfl) ?_
  refine lv_null hx hb zd_K_init_25 ?_
  refine va_put (D := D) (ci := 3) (v := .null) (ty := (.object "PausedFabric$Port")) (C := "PausedFabric$Frame") (T := zT_K) (N := 10) hx hb hT zin_K zt_K ztok_K znm_K hown hK hP hD hS 0 rfl rfl 7 (by decide) (hT _ zi_252) (fun _ h9 => h9) rfl (by decide +kernel) rfl rfl (Nat.le_of_ble_eq_true rfl) zd_K_init_26 (fun H locs hP hD hS => ?_)
  have hP : va_P D fb_cl [(b, .inr (3, [.int 0, .null, .int 0, .int 1, .int (-1), .int 0, .int 0, .null, .int 0, .null]))] H := hP
  have hD : va_D A [(b, .inr (3, [.int 0, .null, .int 0, .int 1, .int (-1), .int 0, .int 0, .null, .int 0, .null]))] := hD
  refine lv_aload_n hx hb zd_K_init_29 rfl (lv_at hl 0 rfl) ?_
  refine lv_iconst (v := 0) hx hb zd_K_init_30 (by decide) ?_
  refine va_put (D := D) (ci := 3) (v := .int 0) (ty := .int) (C := "PausedFabric$Frame") (T := zT_K) (N := 10) hx hb hT zin_K zt_K ztok_K znm_K hown hK hP hD hS 0 rfl rfl 8 (by decide) (hT _ zi_254) (fun _ h9 => h9) rfl (by decide +kernel) rfl rfl (Nat.le_of_ble_eq_true rfl) zd_K_init_31 (fun H locs hP hD hS => ?_)
  have hP : va_P D fb_cl [(b, .inr (3, [.int 0, .null, .int 0, .int 1, .int (-1), .int 0, .int 0, .null, .int 0, .null]))] H := hP
  have hD : va_D A [(b, .inr (3, [.int 0, .null, .int 0, .int 1, .int (-1), .int 0, .int 0, .null, .int 0, .null]))] := hD
  refine lv_aload_n hx hb zd_K_init_34 rfl (lv_at hl 0 rfl) ?_
  refine lv_null hx hb zd_K_init_35 ?_
  refine va_put (D := D) (ci := 3) (v := .null) (ty := (.object "PausedFabric$Frame")) (C := "PausedFabric$Frame") (T := zT_K) (N := 10) hx hb hT zin_K zt_K ztok_K znm_K hown hK hP hD hS 0 rfl rfl 9 (by decide) (hT _ zi_256) (fun _ h9 => h9) rfl (by decide +kernel) rfl rfl (Nat.le_of_ble_eq_true rfl) zd_K_init_36 (fun H locs hP hD hS => ?_)
  have hP : va_P D fb_cl [(b, .inr (3, [.int 0, .null, .int 0, .int 1, .int (-1), .int 0, .int 0, .null, .int 0, .null]))] H := hP
  have hD : va_D A [(b, .inr (3, [.int 0, .null, .int 0, .int 1, .int (-1), .int 0, .int 0, .null, .int 0, .null]))] := hD
  refine lv_aload_n hx hb zd_K_init_39 rfl (lv_at hl 0 rfl) ?_
  refine lv_iload_n hx hb zd_K_init_40 rfl (lv_at hl 1 rfl) ?_
  refine va_putF (D := D) (ci := 3) (v := .int nn) (ty := .int) (C := "PausedFabric$Frame") (T := zT_K) (N := 10) hx hb hT zin_K zt_K ztok_K znm_K hown hK hP hD hS 0 rfl rfl 0 (by decide) (hT _ zi_237) (fun _ h9 => h9) rfl hin rfl (by decide +kernel) rfl rfl (Nat.le_of_ble_eq_true rfl) zd_K_init_41 (fun H locs hP hD hS => ?_)
  have hP : va_P D fb_cl [(b, .inr (3, [.int nn, .null, .int 0, .int 1, .int (-1), .int 0, .int 0, .null, .int 0, .null]))] H := hP
  have hD : va_D A [(b, .inr (3, [.int nn, .null, .int 0, .int 1, .int (-1), .int 0, .int 0, .null, .int 0, .null]))] := hD
  refine lv_aload_n hx hb zd_K_init_44 rfl (lv_at hl 0 rfl) ?_
  refine lv_aload_n hx hb zd_K_init_45 rfl (lv_at hl 2 rfl) ?_
  refine va_putF (D := D) (ci := 3) (v := .ref fa) (ty := (.object "PausedFabric$Flow")) (C := "PausedFabric$Frame") (T := zT_K) (N := 10) hx hb hT zin_K zt_K ztok_K znm_K hown hK hP hD hS 0 rfl rfl 1 (by decide) (hT _ zi_239) (fun _ h9 => h9) rfl hin rfl (by decide +kernel) rfl rfl (Nat.le_of_ble_eq_true rfl) zd_K_init_46 (fun H locs hP hD hS => ?_)
  have hP : va_P D fb_cl [(b, .inr (3, [.int nn, .ref fa, .int 0, .int 1, .int (-1), .int 0, .int 0, .null, .int 0, .null]))] H := hP
  have hD : va_D A [(b, .inr (3, [.int nn, .ref fa, .int 0, .int 1, .int (-1), .int 0, .int 0, .null, .int 0, .null]))] := hD
  refine lv_aload_n hx hb zd_K_init_49 rfl (lv_at hl 0 rfl) ?_
  refine lv_iload_n hx hb zd_K_init_50 rfl (lv_at hl 3 rfl) ?_
  refine va_putF (D := D) (ci := 3) (v := .int len) (ty := .int) (C := "PausedFabric$Frame") (T := zT_K) (N := 10) hx hb hT zin_K zt_K ztok_K znm_K hown hK hP hD hS 0 rfl rfl 2 (by decide) (hT _ zi_241) (fun _ h9 => h9) rfl hin rfl (by decide +kernel) rfl rfl (Nat.le_of_ble_eq_true rfl) zd_K_init_51 (fun H locs hP hD hS => ?_)
  have hP : va_P D fb_cl [(b, .inr (3, [.int nn, .ref fa, .int len, .int 1, .int (-1), .int 0, .int 0, .null, .int 0, .null]))] H := hP
  have hD : va_D A [(b, .inr (3, [.int nn, .ref fa, .int len, .int 1, .int (-1), .int 0, .int 0, .null, .int 0, .null]))] := hD
  exact W.vret hx hb hr (fun t ht hW => ⟨⟨(), rfl, trivial, by rw [ht]; exact hP, va_K.moved hW.alike hK, hD⟩, hS.F ht⟩) hS.2.2 zd_K_init_54

set_option maxHeartbeats 4000000 in
set_option maxRecDepth 100000 in
theorem c_F_init (l : Launch) (D : va_G) (cA : Nat → ClassId) (b : Nat) (pr : Int32) (ra : Nat) (sz : Nat) : Met l zy_F_init (zw_F_init :: lw_gd) { frames := 1, cells := 0, slots := 0, locals := 24 } (va_Pc [.ref b, .int pr, .ref ra] (fun U => U.heap.size = sz ∧ va_P D fb_cl [(b, .inr (2, [.int 0, .null, .int 0, .int 0, .int 0, .int 0, .int 0, .int 0, .int 0, .int 0, .int 0, .int 0]))] U.heap ∧ va_K D fb_cl (fb_tys cA) U ∧ va_D (fun _ => True) [(b, .inr (2, [.int 0, .null, .int 0, .int 0, .int 0, .int 0, .int 0, .int 0, .int 0, .int 0, .int 0, .int 0]))])) (va_Qv (fun _ : Unit => True) (fun u t => va_P D fb_cl [(b, .inr (2, [.int pr, .ref ra, .int 64, .int 64, .int 64, .int 0, .int 0, .int 0, .int 0, .int 0, .int 0, .int (-1)]))] t.heap ∧ va_K D fb_cl (fb_tys cA) t ∧ va_D (va_A [(b, .inr (2, [.int 0, .null, .int 0, .int 0, .int 0, .int 0, .int 0, .int 0, .int 0, .int 0, .int 0, .int 0]))] sz) [(b, .inr (2, [.int pr, .ref ra, .int 64, .int 64, .int 64, .int 0, .int 0, .int 0, .int 0, .int 0, .int 0, .int (-1)]))]) (va_A [(b, .inr (2, [.int 0, .null, .int 0, .int 0, .int 0, .int 0, .int 0, .int 0, .int 0, .int 0, .int 0, .int 0]))] sz)) 0 0 (va_A [(b, .inr (2, [.int 0, .null, .int 0, .int 0, .int 0, .int 0, .int 0, .int 0, .int 0, .int 0, .int 0, .int 0]))] sz) := by
  refine Met.ofW (cc := zb_F_init) (maxL := 3) (ret := none) (by decide) rfl ?_
  intro p e s m args below meth c s₁ B hml hv
  obtain ⟨rfl, hsz, hP, hK, hD0⟩ := hv
  have hx := B.exec
  have hb := B.bytes
  have hr := B.returns
  have hts := atoms_spec (ws := zw_F_init :: lw_gd) B.pre
  have hT : ∀ w ∈ lw_gd, w.before _ s = true := fun w h => hts w (List.mem_cons_of_mem _ h)
  have hown : s.vm.findClass "PausedFabric$Flow" = some m.cls := findClass_of_methodNamed B.named
  have hlocks := B.notSynchronized
  have hin : meth.name = "<init>" := (name_of_methodNamed B.named B.method).1
  subst hsz
  have hD := hD0.self (sz := s.heap.size)
  generalize hAe : va_A [(b, .inr (2, [.int 0, .null, .int 0, .int 0, .int 0, .int 0, .int 0, .int 0, .int 0, .int 0, .int 0, .int 0]))] s.heap.size = A at hD ⊢
  have hA : ∀ q : Nat, s.heap.size ≤ q → A q := fun q h => by rw [← hAe]; exact Or.inr h
  have hS : va_S A s.heap s.heap [] := va_S.rf
  have hl := lv_entry ([.ref b, .int pr, .ref ra]) (n := 3) (Nat.le_of_ble_eq_true rfl)
  rw [lg_entry_eq]
  generalize (lg_sl ([.ref b, .int pr, .ref ra]) ++ List.replicate (3 - (lg_sl ([.ref b, .int pr, .ref ra])).length) Slot.unset).toArray = ls at hl ⊢
  have hl : lv_has ls 3 [(0, .ref b), (1, .int pr), (2, .ref ra)] := hl
  have hP : va_P D fb_cl [(b, .inr (2, [.int 0, .null, .int 0, .int 0, .int 0, .int 0, .int 0, .int 0, .int 0, .int 0, .int 0, .int 0]))] s.heap := hP
  refine lv_aload_n hx hb zd_F_init_0 rfl (lv_at hl 0 rfl) ?_
  refine W.objInit hx hb hown (hT _ zi_173) (hT _ zi_15) (hT _ zc_O_init) rfl (by rw [hml]; exact hl.1) rfl zd_F_init_1 (Nat.le_of_ble_eq_true rfl) (Nat.le_of_ble_eq_true rfl) ?_
  refine W.eq (g2 := F0 m 4 ls []) rfl ?_
  refine lv_aload_n hx hb zd_F_init_4 rfl (lv_at hl 0 rfl) ?_
  refine lv_bipush (v := 64) hx hb zd_F_init_5 (by decide) ?_
  refine va_put (D := D) (ci := 2) (v := .int 64) (ty := .int) (C := "PausedFabric$Flow") (T := zT_F) (N := 12) hx hb hT zin_F zt_F ztok_F znm_F hown hK hP hD hS 0 rfl rfl 2 (by decide) (hT _ zi_177) (fun _ h9 => h9) rfl (by decide +kernel) rfl rfl (Nat.le_of_ble_eq_true rfl) zd_F_init_7 (fun H locs hP hD hS => ?_)
  have hP : va_P D fb_cl [(b, .inr (2, [.int 0, .null, .int 64, .int 0, .int 0, .int 0, .int 0, .int 0, .int 0, .int 0, .int 0, .int 0]))] H := hP
  have hD : va_D A [(b, .inr (2, [.int 0, .null, .int 64, .int 0, .int 0, .int 0, .int 0, .int 0, .int 0, .int 0, .int 0, .int 0]))] := hD
  refine lv_aload_n hx hb zd_F_init_10 rfl (lv_at hl 0 rfl) ?_
  refine lv_bipush (v := 64) hx hb zd_F_init_11 (by decide) ?_
  refine va_put (D := D) (ci := 2) (v := .int 64) (ty := .int) (C := "PausedFabric$Flow") (T := zT_F) (N := 12) hx hb hT zin_F zt_F ztok_F znm_F hown hK hP hD hS 0 rfl rfl 3 (by decide) (hT _ zi_179) (fun _ h9 => h9) rfl (by decide +kernel) rfl rfl (Nat.le_of_ble_eq_true rfl) zd_F_init_13 (fun H locs hP hD hS => ?_)
  have hP : va_P D fb_cl [(b, .inr (2, [.int 0, .null, .int 64, .int 64, .int 0, .int 0, .int 0, .int 0, .int 0, .int 0, .int 0, .int 0]))] H := hP
  have hD : va_D A [(b, .inr (2, [.int 0, .null, .int 64, .int 64, .int 0, .int 0, .int 0, .int 0, .int 0, .int 0, .int 0, .int 0]))] := hD
  refine lv_aload_n hx hb zd_F_init_16 rfl (lv_at hl 0 rfl) ?_
  refine lv_bipush (v := 64) hx hb zd_F_init_17 (by decide) ?_
  refine va_put (D := D) (ci := 2) (v := .int 64) (ty := .int) (C := "PausedFabric$Flow") (T := zT_F) (N := 12) hx hb hT zin_F zt_F ztok_F znm_F hown hK hP hD hS 0 rfl rfl 4 (by decide) (hT _ zi_180) (fun _ h9 => h9) rfl (by decide +kernel) rfl rfl (Nat.le_of_ble_eq_true rfl) zd_F_init_19 (fun H locs hP hD hS => ?_)
  have hP : va_P D fb_cl [(b, .inr (2, [.int 0, .null, .int 64, .int 64, .int 64, .int 0, .int 0, .int 0, .int 0, .int 0, .int 0, .int 0]))] H := hP
  have hD : va_D A [(b, .inr (2, [.int 0, .null, .int 64, .int 64, .int 64, .int 0, .int 0, .int 0, .int 0, .int 0, .int 0, .int 0]))] := hD
  refine lv_aload_n hx hb zd_F_init_22 rfl (lv_at hl 0 rfl) ?_
  refine lv_iconst (v := 0) hx hb zd_F_init_23 (by decide) ?_
  refine va_put (D := D) (ci := 2) (v := .int 0) (ty := .int) (C := "PausedFabric$Flow") (T := zT_F) (N := 12) hx hb hT zin_F zt_F ztok_F znm_F hown hK hP hD hS 0 rfl rfl 5 (by decide) (hT _ zi_182) (fun _ h9 => h9) rfl (by decide +kernel) rfl rfl (Nat.le_of_ble_eq_true rfl) zd_F_init_24 (fun H locs hP hD hS => ?_)
  have hP : va_P D fb_cl [(b, .inr (2, [.int 0, .null, .int 64, .int 64, .int 64, .int 0, .int 0, .int 0, .int 0, .int 0, .int 0, .int 0]))] H := hP
  have hD : va_D A [(b, .inr (2, [.int 0, .null, .int 64, .int 64, .int 64, .int 0, .int 0, .int 0, .int 0, .int 0, .int 0, .int 0]))] := hD
  refine lv_aload_n hx hb zd_F_init_27 rfl (lv_at hl 0 rfl) ?_
  refine lv_iconst (v := 0) hx hb zd_F_init_28 (by decide) ?_
  refine va_put (D := D) (ci := 2) (v := .int 0) (ty := .int) (C := "PausedFabric$Flow") (T := zT_F) (N := 12) hx hb hT zin_F zt_F ztok_F znm_F hown hK hP hD hS 0 rfl rfl 6 (by decide) (hT _ zi_183) (fun _ h9 => h9) rfl (by decide +kernel) rfl rfl (Nat.le_of_ble_eq_true rfl) zd_F_init_29 (fun H locs hP hD hS => ?_)
  have hP : va_P D fb_cl [(b, .inr (2, [.int 0, .null, .int 64, .int 64, .int 64, .int 0, .int 0, .int 0, .int 0, .int 0, .int 0, .int 0]))] H := hP
  have hD : va_D A [(b, .inr (2, [.int 0, .null, .int 64, .int 64, .int 64, .int 0, .int 0, .int 0, .int 0, .int 0, .int 0, .int 0]))] := hD
  refine lv_aload_n hx hb zd_F_init_32 rfl (lv_at hl 0 rfl) ?_
  refine lv_iconst (v := 0) hx hb zd_F_init_33 (by decide) ?_
  refine va_put (D := D) (ci := 2) (v := .int 0) (ty := .boolean) (C := "PausedFabric$Flow") (T := zT_F) (N := 12) hx hb hT zin_F zt_F ztok_F znm_F hown hK hP hD hS 0 rfl rfl 7 (by decide) (hT _ zi_185) (fun _ h9 => h9) rfl (by decide +kernel) rfl rfl (Nat.le_of_ble_eq_true rfl) zd_F_init_34 (fun H locs hP hD hS => ?_)
  have hP : va_P D fb_cl [(b, .inr (2, [.int 0, .null, .int 64, .int 64, .int 64, .int 0, .int 0, .int 0, .int 0, .int 0, .int 0, .int 0]))] H := hP
  have hD : va_D A [(b, .inr (2, [.int 0, .null, .int 64, .int 64, .int 64, .int 0, .int 0, .int 0, .int 0, .int 0, .int 0, .int 0]))] := hD
  refine lv_aload_n hx hb zd_F_init_37 rfl (lv_at hl 0 rfl) ?_
  refine lv_iconst (v := 0) hx hb zd_F_init_38 (by decide) ?_
  refine va_put (D := D) (ci := 2) (v := .int 0) (ty := .int) (C := "PausedFabric$Flow") (T := zT_F) (N := 12) hx hb hT zin_F zt_F ztok_F znm_F hown hK hP hD hS 0 rfl rfl 8 (by decide) (hT _ zi_187) (fun _ h9 => h9) rfl (by decide +kernel) rfl rfl (Nat.le_of_ble_eq_true rfl) zd_F_init_39 (fun H locs hP hD hS => ?_)
  have hP : va_P D fb_cl [(b, .inr (2, [.int 0, .null, .int 64, .int 64, .int 64, .int 0, .int 0, .int 0, .int 0, .int 0, .int 0, .int 0]))] H := hP
  have hD : va_D A [(b, .inr (2, [.int 0, .null, .int 64, .int 64, .int 64, .int 0, .int 0, .int 0, .int 0, .int 0, .int 0, .int 0]))] := hD
  refine lv_aload_n hx hb zd_F_init_42 rfl (lv_at hl 0 rfl) ?_
  refine lv_iconst (v := 0) hx hb zd_F_init_43 (by decide) ?_
  refine va_put (D := D) (ci := 2) (v := .int 0) (ty := .int) (C := "PausedFabric$Flow") (T := zT_F) (N := 12) hx hb hT zin_F zt_F ztok_F znm_F hown hK hP hD hS 0 rfl rfl 9 (by decide) (hT _ zi_189) (fun _ h9 => h9) rfl (by decide +kernel) rfl rfl (Nat.le_of_ble_eq_true rfl) zd_F_init_44 (fun H locs hP hD hS => ?_)
  have hP : va_P D fb_cl [(b, .inr (2, [.int 0, .null, .int 64, .int 64, .int 64, .int 0, .int 0, .int 0, .int 0, .int 0, .int 0, .int 0]))] H := hP
  have hD : va_D A [(b, .inr (2, [.int 0, .null, .int 64, .int 64, .int 64, .int 0, .int 0, .int 0, .int 0, .int 0, .int 0, .int 0]))] := hD
  refine lv_aload_n hx hb zd_F_init_47 rfl (lv_at hl 0 rfl) ?_
  refine lv_iconst (v := 0) hx hb zd_F_init_48 (by decide) ?_
  refine va_put (D := D) (ci := 2) (v := .int 0) (ty := .int) (C := "PausedFabric$Flow") (T := zT_F) (N := 12) hx hb hT zin_F zt_F ztok_F znm_F hown hK hP hD hS 0 rfl rfl 10 (by decide) (hT _ zi_191) (fun _ h9 => h9) rfl (by decide +kernel) rfl rfl (Nat.le_of_ble_eq_true rfl) zd_F_init_49 (fun H locs hP hD hS => ?_)
  have hP : va_P D fb_cl [(b, .inr (2, [.int 0, .null, .int 64, .int 64, .int 64, .int 0, .int 0, .int 0, .int 0, .int 0, .int 0, .int 0]))] H := hP
  have hD : va_D A [(b, .inr (2, [.int 0, .null, .int 64, .int 64, .int 64, .int 0, .int 0, .int 0, .int 0, .int 0, .int 0, .int 0]))] := hD
  refine lv_aload_n hx hb zd_F_init_52 rfl (lv_at hl 0 rfl) ?_
  refine lv_iconst (v := (-1)) hx hb zd_F_init_53 (by decide) ?_
  refine va_put (D := D) (ci := 2) (v := .int (-1)) (ty := .int) (C := "PausedFabric$Flow") (T := zT_F) (N := 12) hx hb hT zin_F zt_F ztok_F znm_F hown hK hP hD hS 0 rfl rfl 11 (by decide) (hT _ zi_193) (fun _ h9 => h9) rfl (by decide +kernel) rfl rfl (Nat.le_of_ble_eq_true rfl) zd_F_init_54 (fun H locs hP hD hS => ?_)
  have hP : va_P D fb_cl [(b, .inr (2, [.int 0, .null, .int 64, .int 64, .int 64, .int 0, .int 0, .int 0, .int 0, .int 0, .int 0, .int (-1)]))] H := hP
  have hD : va_D A [(b, .inr (2, [.int 0, .null, .int 64, .int 64, .int 64, .int 0, .int 0, .int 0, .int 0, .int 0, .int 0, .int (-1)]))] := hD
  refine lv_aload_n hx hb zd_F_init_57 rfl (lv_at hl 0 rfl) ?_
  refine lv_iload_n hx hb zd_F_init_58 rfl (lv_at hl 1 rfl) ?_
  refine va_putF (D := D) (ci := 2) (v := .int pr) (ty := .int) (C := "PausedFabric$Flow") (T := zT_F) (N := 12) hx hb hT zin_F zt_F ztok_F znm_F hown hK hP hD hS 0 rfl rfl 0 (by decide) (hT _ zi_174) (fun _ h9 => h9) rfl hin rfl (by decide +kernel) rfl rfl (Nat.le_of_ble_eq_true rfl) zd_F_init_59 (fun H locs hP hD hS => ?_)
  have hP : va_P D fb_cl [(b, .inr (2, [.int pr, .null, .int 64, .int 64, .int 64, .int 0, .int 0, .int 0, .int 0, .int 0, .int 0, .int (-1)]))] H := hP
  have hD : va_D A [(b, .inr (2, [.int pr, .null, .int 64, .int 64, .int 64, .int 0, .int 0, .int 0, .int 0, .int 0, .int 0, .int (-1)]))] := hD
  refine lv_aload_n hx hb zd_F_init_62 rfl (lv_at hl 0 rfl) ?_
  refine lv_aload_n hx hb zd_F_init_63 rfl (lv_at hl 2 rfl) ?_
  refine va_putF (D := D) (ci := 2) (v := .ref ra) (ty := (.array (.object "PausedFabric$Port"))) (C := "PausedFabric$Flow") (T := zT_F) (N := 12) hx hb hT zin_F zt_F ztok_F znm_F hown hK hP hD hS 0 rfl rfl 1 (by decide) (hT _ zi_176) (fun _ h9 => h9) rfl hin rfl (by decide +kernel) rfl rfl (Nat.le_of_ble_eq_true rfl) zd_F_init_64 (fun H locs hP hD hS => ?_)
  have hP : va_P D fb_cl [(b, .inr (2, [.int pr, .ref ra, .int 64, .int 64, .int 64, .int 0, .int 0, .int 0, .int 0, .int 0, .int 0, .int (-1)]))] H := hP
  have hD : va_D A [(b, .inr (2, [.int pr, .ref ra, .int 64, .int 64, .int 64, .int 0, .int 0, .int 0, .int 0, .int 0, .int 0, .int (-1)]))] := hD
  exact W.vret hx hb hr (fun t ht hW => ⟨⟨(), rfl, trivial, by rw [ht]; exact hP, va_K.moved hW.alike hK, hD⟩, hS.F ht⟩) hS.2.2 zd_F_init_67

set_option maxHeartbeats 4000000 in
set_option maxRecDepth 100000 in
theorem c_P_init (l : Launch) (D : va_G) (cA : Nat → ClassId) (b : Nat) (fm : Int32) (tt : Int32) (sz : Nat) : Met l zy_P_init (zw_P_init :: lw_gd) { frames := 2, cells := 6, slots := 15, locals := 44 } (va_Pc [.ref b, .int fm, .int tt] (fun U => U.heap.size = sz ∧ va_P D fb_cl [(b, .inr (1, [.int 0, .int 0, .null, .null, .int 0, .null, .null, .null, .int 0, .int 0, .int 0]))] U.heap ∧ va_K D fb_cl (fb_tys cA) U ∧ va_D (fun _ => True) [(b, .inr (1, [.int 0, .int 0, .null, .null, .int 0, .null, .null, .null, .int 0, .int 0, .int 0]))] ∧ va_AO "PausedFabric$FrameQueue" U ∧ va_Nw (.methodLinkNest "PausedFabric$Port" 9 zy_Q_init "PausedFabric") U)) (va_Qv (fun _ : Nat → Nat => True) (fun u t => va_P D fb_cl [(b, .inr (1, [.int fm, .int tt, .ref (u 0), .ref (u 3), .int 0, .null, .ref (u 4), .ref (u 5), .int 0, .int 0, .int 0])), ((u 0), .inl (cA 4, 2, .inr (.inr (.inr (.inr (va_up (va_up (fun _ => none) (0 : Int32).toNatClampNeg (some (u 1))) (1 : Int32).toNatClampNeg (some (u 2)))))))), ((u 1), .inr (4, [.null, .null, .int 0])), ((u 2), .inr (4, [.null, .null, .int 0])), ((u 3), .inl (cA 0, 2, .inl (upd (upd (fun _ => 0) (0 : Int32).toNatClampNeg 0) (1 : Int32).toNatClampNeg 0))), ((u 4), .inr (4, [.null, .null, .int 0])), ((u 5), .inl (cA 0, 2, .inl (upd (upd (fun _ => 0) (0 : Int32).toNatClampNeg 0) (1 : Int32).toNatClampNeg 0)))] t.heap ∧ va_K D fb_cl (fb_tys cA) t ∧ va_D (va_A [(b, .inr (1, [.int 0, .int 0, .null, .null, .int 0, .null, .null, .null, .int 0, .int 0, .int 0]))] sz) [(b, .inr (1, [.int fm, .int tt, .ref (u 0), .ref (u 3), .int 0, .null, .ref (u 4), .ref (u 5), .int 0, .int 0, .int 0])), ((u 0), .inl (cA 4, 2, .inr (.inr (.inr (.inr (va_up (va_up (fun _ => none) (0 : Int32).toNatClampNeg (some (u 1))) (1 : Int32).toNatClampNeg (some (u 2)))))))), ((u 1), .inr (4, [.null, .null, .int 0])), ((u 2), .inr (4, [.null, .null, .int 0])), ((u 3), .inl (cA 0, 2, .inl (upd (upd (fun _ => 0) (0 : Int32).toNatClampNeg 0) (1 : Int32).toNatClampNeg 0))), ((u 4), .inr (4, [.null, .null, .int 0])), ((u 5), .inl (cA 0, 2, .inl (upd (upd (fun _ => 0) (0 : Int32).toNatClampNeg 0) (1 : Int32).toNatClampNeg 0)))]) (va_A [(b, .inr (1, [.int 0, .int 0, .null, .null, .int 0, .null, .null, .null, .int 0, .int 0, .int 0]))] sz)) 6 15 (va_A [(b, .inr (1, [.int 0, .int 0, .null, .null, .int 0, .null, .null, .null, .int 0, .int 0, .int 0]))] sz) := by
  refine Met.ofW (cc := zb_P_init) (maxL := 3) (ret := none) (by decide) rfl ?_
  intro p e s m args below meth c s₁ B hml hv
  obtain ⟨rfl, hsz, hP, hK, hD0, hao4, hnw⟩ := hv
  have hx := B.exec
  have hb := B.bytes
  have hr := B.returns
  have hts := atoms_spec (ws := zw_P_init :: lw_gd) B.pre
  have hT : ∀ w ∈ lw_gd, w.before _ s = true := fun w h => hts w (List.mem_cons_of_mem _ h)
  have hown : s.vm.findClass "PausedFabric$Port" = some m.cls := findClass_of_methodNamed B.named
  have hlocks := B.notSynchronized
  have hin : meth.name = "<init>" := (name_of_methodNamed B.named B.method).1
  subst hsz
  have hD := hD0.self (sz := s.heap.size)
  generalize hAe : va_A [(b, .inr (1, [.int 0, .int 0, .null, .null, .int 0, .null, .null, .null, .int 0, .int 0, .int 0]))] s.heap.size = A at hD ⊢
  have hA : ∀ q : Nat, s.heap.size ≤ q → A q := fun q h => by rw [← hAe]; exact Or.inr h
  have hS : va_S A s.heap s.heap [] := va_S.rf
  have hl := lv_entry ([.ref b, .int fm, .int tt]) (n := 3) (Nat.le_of_ble_eq_true rfl)
  rw [lg_entry_eq]
  generalize (lg_sl ([.ref b, .int fm, .int tt]) ++ List.replicate (3 - (lg_sl ([.ref b, .int fm, .int tt])).length) Slot.unset).toArray = ls at hl ⊢
  have hl : lv_has ls 3 [(0, .ref b), (1, .int fm), (2, .int tt)] := hl
  have hP : va_P D fb_cl [(b, .inr (1, [.int 0, .int 0, .null, .null, .int 0, .null, .null, .null, .int 0, .int 0, .int 0]))] s.heap := hP
  refine lv_aload_n hx hb zd_P_init_0 rfl (lv_at hl 0 rfl) ?_
  refine W.objInit hx hb hown (hT _ zi_41) (hT _ zi_15) (hT _ zc_O_init) rfl (by rw [hml]; exact hl.1) rfl zd_P_init_1 (Nat.le_of_ble_eq_true rfl) (Nat.le_of_ble_eq_true rfl) ?_
  refine W.eq (g2 := F0 m 4 ls []) rfl ?_
  refine lv_aload_n hx hb zd_P_init_4 rfl (lv_at hl 0 rfl) ?_
  refine lv_iconst (v := 2) hx hb zd_P_init_5 (by decide) ?_
  refine va_newq (C := "PausedFabric$FrameQueue") (n := 2) (N' := 2) hx hb hown (hT _ zi_42) hao4 hK hP hD hS hA (by decide) (by decide) (by decide) (show 1 ≤ 6 by decide) (show 2 ≤ 15 by decide) zd_P_init_6 (fun q6 cQ H hK9 hP hD hS => ?_)
  obtain rfl := fb_uni hK9 (i := 4) (j := 6) rfl rfl
  have hP : va_P D fb_cl [(b, .inr (1, [.int 0, .int 0, .null, .null, .int 0, .null, .null, .null, .int 0, .int 0, .int 0])), (q6, .inl (cA 4, 2, .inr (.inr (.inr (.inr (fun _ => none))))))] H := hP
  have hD : va_D A [(b, .inr (1, [.int 0, .int 0, .null, .null, .int 0, .null, .null, .null, .int 0, .int 0, .int 0])), (q6, .inl (cA 4, 2, .inr (.inr (.inr (.inr (fun _ => none))))))] := hD
  refine W.widen (k := 1) (n := 2) (by omega) (by omega) ?_
  refine lv_dup hx hb zd_P_init_9 rfl ?_
  refine lv_iconst (v := 0) hx hb zd_P_init_10 (by decide) ?_
  refine va_new (ci := 4) (fs := [.null, .null, .int 0]) (C := "PausedFabric$FrameQueue") (T := zT_Q) (N := 3) hx hb hT zin_Q zt_Q ztok_Q hown (hT _ zi_42) (hT _ zi_44) (hT _ zi_4) hK hP hD hS hA rfl (fun j hj => by rcases (show j = 0 ∨ j = 1 ∨ j = 2 by omega) with rfl | rfl | rfl <;> rfl) (show 2 ≤ 6 by decide) (show 5 ≤ 15 by decide) zd_P_init_11 (fun q11 H hP hD hS => ?_)
  have hP : va_P D fb_cl [(b, .inr (1, [.int 0, .int 0, .null, .null, .int 0, .null, .null, .null, .int 0, .int 0, .int 0])), (q6, .inl (cA 4, 2, .inr (.inr (.inr (.inr (fun _ => none)))))), (q11, .inr (4, [.null, .null, .int 0]))] H := hP
  have hD : va_D A [(b, .inr (1, [.int 0, .int 0, .null, .null, .int 0, .null, .null, .null, .int 0, .int 0, .int 0])), (q6, .inl (cA 4, 2, .inr (.inr (.inr (.inr (fun _ => none)))))), (q11, .inr (4, [.null, .null, .int 0]))] := hD
  refine W.widen (k := 2) (n := 5) (by omega) (by omega) ?_
  refine lv_dup hx hb zd_P_init_14 rfl ?_
  have hPc := hP.sub (ws' := [(q11, .inr (4, [.null, .null, .int 0]))]) [2] rfl
  have hDc := hD.sub (ws' := [(q11, .inr (4, [.null, .null, .int 0]))]) [2] (by decide) rfl
  have hFc := va_free (wc := [(q11, .inr (4, [.null, .null, .int 0]))]) hD hS hA [2] rfl
  refine va_callv (va_runIN (As := []) (rest := [.ref q11, .int 0, .ref q6, .ref q6, .ref b]) ⟨hx, hb, hml, hown, hT⟩ (c_Q_init l D cA q11  H.size) ⟨va_cnB 0 hT (fb_gI zc_Q_init) rfl rfl rfl hnw (hT _ zi_4) (by decide +kernel) ⟨Nat.le_of_ble_eq_true rfl, Nat.le_of_ble_eq_true rfl⟩, rfl, hT _ zi_46⟩ ⟨fun a U g mk q => by obtain ⟨q0, q1, qP, qK, qD⟩ := q; exact ⟨q0, q1, qP, va_K.moved (u := U) (U := U.calling g mk a) (Vm.Alike.refl U.vm) qK, qD⟩, fun U hU hW => ⟨rfl, by rw [hU], by rw [hU]; exact hPc, va_K.moved hW.alike hK, hDc.weaken (fun _ _ _ _ => trivial)⟩⟩ rfl rfl hl.1 rfl (lv_room (Nat.le_of_ble_eq_true rfl)) zd_P_init_15 ⟨show 2 ≤ 6 by decide, show 5 ≤ 15 by decide⟩) hS (fun q _ h => hFc q h) hFc (fun u15 t H1 locs ht hvm h5 hB hz1 hk1 hS => ?_)
  obtain ⟨hP1, hK1, hD1⟩ := hB
  rw [ht] at hP1
  obtain ⟨hP, hD⟩ := va_join (wr := [(b, .inr (1, [.int 0, .int 0, .null, .null, .int 0, .null, .null, .null, .int 0, .int 0, .int 0])), (q6, .inl (cA 4, 2, .inr (.inr (.inr (.inr (fun _ => none))))))]) (w1 := [(q11, .inr (4, [.null, .null, .int 0]))]) hP hD [2] [0, 1] rfl rfl (by decide) (by decide) hk1 hFc hP1 hD1
  generalize H1 = H at hP hS ⊢
  have hP : va_P D fb_cl [(b, .inr (1, [.int 0, .int 0, .null, .null, .int 0, .null, .null, .null, .int 0, .int 0, .int 0])), (q6, .inl (cA 4, 2, .inr (.inr (.inr (.inr (fun _ => none)))))), (q11, .inr (4, [.null, .null, .int 0]))] H := hP
  have hD : va_D A [(b, .inr (1, [.int 0, .int 0, .null, .null, .int 0, .null, .null, .null, .int 0, .int 0, .int 0])), (q6, .inl (cA 4, 2, .inr (.inr (.inr (.inr (fun _ => none)))))), (q11, .inr (4, [.null, .null, .int 0]))] := hD
  refine W.widen (k := 2) (n := 5) (by omega) (by omega) ?_
  refine va_astq hx hb hK hP hD hS 1 4 2 4 rfl rfl rfl rfl (i := 0) fb_v0 zd_P_init_18 (fun H locs hP hD hS => ?_)
  have hP : va_P D fb_cl [(b, .inr (1, [.int 0, .int 0, .null, .null, .int 0, .null, .null, .null, .int 0, .int 0, .int 0])), (q6, .inl (cA 4, 2, .inr (.inr (.inr (.inr (va_up (fun _ => none) (0 : Int32).toNatClampNeg (some q11))))))), (q11, .inr (4, [.null, .null, .int 0]))] H := hP
  have hD : va_D A [(b, .inr (1, [.int 0, .int 0, .null, .null, .int 0, .null, .null, .null, .int 0, .int 0, .int 0])), (q6, .inl (cA 4, 2, .inr (.inr (.inr (.inr (va_up (fun _ => none) (0 : Int32).toNatClampNeg (some q11))))))), (q11, .inr (4, [.null, .null, .int 0]))] := hD
  refine lv_dup hx hb zd_P_init_19 rfl ?_
  refine lv_iconst (v := 1) hx hb zd_P_init_20 (by decide) ?_
  refine va_new (ci := 4) (fs := [.null, .null, .int 0]) (C := "PausedFabric$FrameQueue") (T := zT_Q) (N := 3) hx hb hT zin_Q zt_Q ztok_Q hown (hT _ zi_42) (hT _ zi_44) (hT _ zi_4) hK hP hD hS hA rfl (fun j hj => by rcases (show j = 0 ∨ j = 1 ∨ j = 2 by omega) with rfl | rfl | rfl <;> rfl) (show 3 ≤ 6 by decide) (show 8 ≤ 15 by decide) zd_P_init_21 (fun q21 H hP hD hS => ?_)
  have hP : va_P D fb_cl [(b, .inr (1, [.int 0, .int 0, .null, .null, .int 0, .null, .null, .null, .int 0, .int 0, .int 0])), (q6, .inl (cA 4, 2, .inr (.inr (.inr (.inr (va_up (fun _ => none) (0 : Int32).toNatClampNeg (some q11))))))), (q11, .inr (4, [.null, .null, .int 0])), (q21, .inr (4, [.null, .null, .int 0]))] H := hP
  have hD : va_D A [(b, .inr (1, [.int 0, .int 0, .null, .null, .int 0, .null, .null, .null, .int 0, .int 0, .int 0])), (q6, .inl (cA 4, 2, .inr (.inr (.inr (.inr (va_up (fun _ => none) (0 : Int32).toNatClampNeg (some q11))))))), (q11, .inr (4, [.null, .null, .int 0])), (q21, .inr (4, [.null, .null, .int 0]))] := hD
  refine W.widen (k := 3) (n := 8) (by omega) (by omega) ?_
  refine lv_dup hx hb zd_P_init_24 rfl ?_
  have hPc := hP.sub (ws' := [(q21, .inr (4, [.null, .null, .int 0]))]) [3] rfl
  have hDc := hD.sub (ws' := [(q21, .inr (4, [.null, .null, .int 0]))]) [3] (by decide) rfl
  have hFc := va_free (wc := [(q21, .inr (4, [.null, .null, .int 0]))]) hD hS hA [3] rfl
  refine va_callv (va_runIN (As := []) (rest := [.ref q21, .int 1, .ref q6, .ref q6, .ref b]) ⟨hx, hb, hml, hown, hT⟩ (c_Q_init l D cA q21  H.size) ⟨va_cnB 0 hT (fb_gI zc_Q_init) rfl rfl rfl hnw (hT _ zi_4) (by decide +kernel) ⟨Nat.le_of_ble_eq_true rfl, Nat.le_of_ble_eq_true rfl⟩, rfl, hT _ zi_46⟩ ⟨fun a U g mk q => by obtain ⟨q0, q1, qP, qK, qD⟩ := q; exact ⟨q0, q1, qP, va_K.moved (u := U) (U := U.calling g mk a) (Vm.Alike.refl U.vm) qK, qD⟩, fun U hU hW => ⟨rfl, by rw [hU], by rw [hU]; exact hPc, va_K.moved hW.alike hK, hDc.weaken (fun _ _ _ _ => trivial)⟩⟩ rfl rfl hl.1 rfl (lv_room (Nat.le_of_ble_eq_true rfl)) zd_P_init_25 ⟨show 3 ≤ 6 by decide, show 8 ≤ 15 by decide⟩) hS (fun q _ h => hFc q h) hFc (fun u25 t H1 locs ht hvm h5 hB hz1 hk1 hS => ?_)
  obtain ⟨hP1, hK1, hD1⟩ := hB
  rw [ht] at hP1
  obtain ⟨hP, hD⟩ := va_join (wr := [(b, .inr (1, [.int 0, .int 0, .null, .null, .int 0, .null, .null, .null, .int 0, .int 0, .int 0])), (q6, .inl (cA 4, 2, .inr (.inr (.inr (.inr (va_up (fun _ => none) (0 : Int32).toNatClampNeg (some q11))))))), (q11, .inr (4, [.null, .null, .int 0]))]) (w1 := [(q21, .inr (4, [.null, .null, .int 0]))]) hP hD [3] [0, 1, 2] rfl rfl (by decide) (by decide) hk1 hFc hP1 hD1
  generalize H1 = H at hP hS ⊢
  have hP : va_P D fb_cl [(b, .inr (1, [.int 0, .int 0, .null, .null, .int 0, .null, .null, .null, .int 0, .int 0, .int 0])), (q6, .inl (cA 4, 2, .inr (.inr (.inr (.inr (va_up (fun _ => none) (0 : Int32).toNatClampNeg (some q11))))))), (q11, .inr (4, [.null, .null, .int 0])), (q21, .inr (4, [.null, .null, .int 0]))] H := hP
  have hD : va_D A [(b, .inr (1, [.int 0, .int 0, .null, .null, .int 0, .null, .null, .null, .int 0, .int 0, .int 0])), (q6, .inl (cA 4, 2, .inr (.inr (.inr (.inr (va_up (fun _ => none) (0 : Int32).toNatClampNeg (some q11))))))), (q11, .inr (4, [.null, .null, .int 0])), (q21, .inr (4, [.null, .null, .int 0]))] := hD
  refine W.widen (k := 3) (n := 8) (by omega) (by omega) ?_
  refine va_astq hx hb hK hP hD hS 1 4 3 4 rfl rfl rfl rfl (i := 1) fb_v1 zd_P_init_28 (fun H locs hP hD hS => ?_)
  have hP : va_P D fb_cl [(b, .inr (1, [.int 0, .int 0, .null, .null, .int 0, .null, .null, .null, .int 0, .int 0, .int 0])), (q6, .inl (cA 4, 2, .inr (.inr (.inr (.inr (va_up (va_up (fun _ => none) (0 : Int32).toNatClampNeg (some q11)) (1 : Int32).toNatClampNeg (some q21))))))), (q11, .inr (4, [.null, .null, .int 0])), (q21, .inr (4, [.null, .null, .int 0]))] H := hP
  have hD : va_D A [(b, .inr (1, [.int 0, .int 0, .null, .null, .int 0, .null, .null, .null, .int 0, .int 0, .int 0])), (q6, .inl (cA 4, 2, .inr (.inr (.inr (.inr (va_up (va_up (fun _ => none) (0 : Int32).toNatClampNeg (some q11)) (1 : Int32).toNatClampNeg (some q21))))))), (q11, .inr (4, [.null, .null, .int 0])), (q21, .inr (4, [.null, .null, .int 0]))] := hD
  refine va_putF (D := D) (ci := 1) (v := .ref q6) (ty := (.array (.object "PausedFabric$FrameQueue"))) (C := "PausedFabric$Port") (T := zT_P) (N := 11) hx hb hT zin_P zt_P ztok_P znm_P hown hK hP hD hS 0 rfl rfl 2 (by decide) (hT _ zi_66) (fun _ h9 => h9) rfl hin rfl (by decide +kernel) rfl rfl (Nat.le_of_ble_eq_true rfl) zd_P_init_29 (fun H locs hP hD hS => ?_)
  have hP : va_P D fb_cl [(b, .inr (1, [.int 0, .int 0, .ref q6, .null, .int 0, .null, .null, .null, .int 0, .int 0, .int 0])), (q6, .inl (cA 4, 2, .inr (.inr (.inr (.inr (va_up (va_up (fun _ => none) (0 : Int32).toNatClampNeg (some q11)) (1 : Int32).toNatClampNeg (some q21))))))), (q11, .inr (4, [.null, .null, .int 0])), (q21, .inr (4, [.null, .null, .int 0]))] H := hP
  have hD : va_D A [(b, .inr (1, [.int 0, .int 0, .ref q6, .null, .int 0, .null, .null, .null, .int 0, .int 0, .int 0])), (q6, .inl (cA 4, 2, .inr (.inr (.inr (.inr (va_up (va_up (fun _ => none) (0 : Int32).toNatClampNeg (some q11)) (1 : Int32).toNatClampNeg (some q21))))))), (q11, .inr (4, [.null, .null, .int 0])), (q21, .inr (4, [.null, .null, .int 0]))] := hD
  refine lv_aload_n hx hb zd_P_init_32 rfl (lv_at hl 0 rfl) ?_
  refine lv_iconst (v := 2) hx hb zd_P_init_33 (by decide) ?_
  refine va_newa (atype := .int) (ty := .int) (n := 2) (N' := 2) (a0 := (2, .inl (fun _ => 0))) hx hb (hT _ zi_61) rfl hK hP hD hS hA (fun _ => rfl) (by decide) (by decide) (by decide) (show 4 ≤ 6 by decide) (show 10 ≤ 15 by decide) zd_P_init_34 (fun q34 cQ H hK9 hP hD hS => ?_)
  obtain rfl := fb_uni hK9 (i := 0) (j := 6) rfl rfl
  have hP : va_P D fb_cl [(b, .inr (1, [.int 0, .int 0, .ref q6, .null, .int 0, .null, .null, .null, .int 0, .int 0, .int 0])), (q6, .inl (cA 4, 2, .inr (.inr (.inr (.inr (va_up (va_up (fun _ => none) (0 : Int32).toNatClampNeg (some q11)) (1 : Int32).toNatClampNeg (some q21))))))), (q11, .inr (4, [.null, .null, .int 0])), (q21, .inr (4, [.null, .null, .int 0])), (q34, .inl (cA 0, 2, .inl (fun _ => 0)))] H := hP
  have hD : va_D A [(b, .inr (1, [.int 0, .int 0, .ref q6, .null, .int 0, .null, .null, .null, .int 0, .int 0, .int 0])), (q6, .inl (cA 4, 2, .inr (.inr (.inr (.inr (va_up (va_up (fun _ => none) (0 : Int32).toNatClampNeg (some q11)) (1 : Int32).toNatClampNeg (some q21))))))), (q11, .inr (4, [.null, .null, .int 0])), (q21, .inr (4, [.null, .null, .int 0])), (q34, .inl (cA 0, 2, .inl (fun _ => 0)))] := hD
  refine W.widen (k := 4) (n := 10) (by omega) (by omega) ?_
  refine lv_dup hx hb zd_P_init_36 rfl ?_
  refine lv_iconst (v := 0) hx hb zd_P_init_37 (by decide) ?_
  refine lv_iconst (v := 0) hx hb zd_P_init_38 (by decide) ?_
  refine va_iast hx hb hK hP hD hS 4 0 rfl rfl (i := 0) (x := 0) fb_v0 zd_P_init_39 (fun H locs hP hD hS => ?_)
  have hP : va_P D fb_cl [(b, .inr (1, [.int 0, .int 0, .ref q6, .null, .int 0, .null, .null, .null, .int 0, .int 0, .int 0])), (q6, .inl (cA 4, 2, .inr (.inr (.inr (.inr (va_up (va_up (fun _ => none) (0 : Int32).toNatClampNeg (some q11)) (1 : Int32).toNatClampNeg (some q21))))))), (q11, .inr (4, [.null, .null, .int 0])), (q21, .inr (4, [.null, .null, .int 0])), (q34, .inl (cA 0, 2, .inl (upd (fun _ => 0) (0 : Int32).toNatClampNeg 0)))] H := hP
  have hD : va_D A [(b, .inr (1, [.int 0, .int 0, .ref q6, .null, .int 0, .null, .null, .null, .int 0, .int 0, .int 0])), (q6, .inl (cA 4, 2, .inr (.inr (.inr (.inr (va_up (va_up (fun _ => none) (0 : Int32).toNatClampNeg (some q11)) (1 : Int32).toNatClampNeg (some q21))))))), (q11, .inr (4, [.null, .null, .int 0])), (q21, .inr (4, [.null, .null, .int 0])), (q34, .inl (cA 0, 2, .inl (upd (fun _ => 0) (0 : Int32).toNatClampNeg 0)))] := hD
  refine lv_dup hx hb zd_P_init_40 rfl ?_
  refine lv_iconst (v := 1) hx hb zd_P_init_41 (by decide) ?_
  refine lv_iconst (v := 0) hx hb zd_P_init_42 (by decide) ?_
  refine va_iast hx hb hK hP hD hS 4 0 rfl rfl (i := 1) (x := 0) fb_v1 zd_P_init_43 (fun H locs hP hD hS => ?_)
  have hP : va_P D fb_cl [(b, .inr (1, [.int 0, .int 0, .ref q6, .null, .int 0, .null, .null, .null, .int 0, .int 0, .int 0])), (q6, .inl (cA 4, 2, .inr (.inr (.inr (.inr (va_up (va_up (fun _ => none) (0 : Int32).toNatClampNeg (some q11)) (1 : Int32).toNatClampNeg (some q21))))))), (q11, .inr (4, [.null, .null, .int 0])), (q21, .inr (4, [.null, .null, .int 0])), (q34, .inl (cA 0, 2, .inl (upd (upd (fun _ => 0) (0 : Int32).toNatClampNeg 0) (1 : Int32).toNatClampNeg 0)))] H := hP
  have hD : va_D A [(b, .inr (1, [.int 0, .int 0, .ref q6, .null, .int 0, .null, .null, .null, .int 0, .int 0, .int 0])), (q6, .inl (cA 4, 2, .inr (.inr (.inr (.inr (va_up (va_up (fun _ => none) (0 : Int32).toNatClampNeg (some q11)) (1 : Int32).toNatClampNeg (some q21))))))), (q11, .inr (4, [.null, .null, .int 0])), (q21, .inr (4, [.null, .null, .int 0])), (q34, .inl (cA 0, 2, .inl (upd (upd (fun _ => 0) (0 : Int32).toNatClampNeg 0) (1 : Int32).toNatClampNeg 0)))] := hD
  refine va_putF (D := D) (ci := 1) (v := .ref q34) (ty := (.array .int)) (C := "PausedFabric$Port") (T := zT_P) (N := 11) hx hb hT zin_P zt_P ztok_P znm_P hown hK hP hD hS 0 rfl rfl 3 (by decide) (hT _ zi_68) (fun _ h9 => h9) rfl hin rfl (by decide +kernel) rfl rfl (Nat.le_of_ble_eq_true rfl) zd_P_init_44 (fun H locs hP hD hS => ?_)
  have hP : va_P D fb_cl [(b, .inr (1, [.int 0, .int 0, .ref q6, .ref q34, .int 0, .null, .null, .null, .int 0, .int 0, .int 0])), (q6, .inl (cA 4, 2, .inr (.inr (.inr (.inr (va_up (va_up (fun _ => none) (0 : Int32).toNatClampNeg (some q11)) (1 : Int32).toNatClampNeg (some q21))))))), (q11, .inr (4, [.null, .null, .int 0])), (q21, .inr (4, [.null, .null, .int 0])), (q34, .inl (cA 0, 2, .inl (upd (upd (fun _ => 0) (0 : Int32).toNatClampNeg 0) (1 : Int32).toNatClampNeg 0)))] H := hP
  have hD : va_D A [(b, .inr (1, [.int 0, .int 0, .ref q6, .ref q34, .int 0, .null, .null, .null, .int 0, .int 0, .int 0])), (q6, .inl (cA 4, 2, .inr (.inr (.inr (.inr (va_up (va_up (fun _ => none) (0 : Int32).toNatClampNeg (some q11)) (1 : Int32).toNatClampNeg (some q21))))))), (q11, .inr (4, [.null, .null, .int 0])), (q21, .inr (4, [.null, .null, .int 0])), (q34, .inl (cA 0, 2, .inl (upd (upd (fun _ => 0) (0 : Int32).toNatClampNeg 0) (1 : Int32).toNatClampNeg 0)))] := hD
  refine lv_aload_n hx hb zd_P_init_47 rfl (lv_at hl 0 rfl) ?_
  refine lv_iconst (v := 0) hx hb zd_P_init_48 (by decide) ?_
  refine va_put (D := D) (ci := 1) (v := .int 0) (ty := .int) (C := "PausedFabric$Port") (T := zT_P) (N := 11) hx hb hT zin_P zt_P ztok_P znm_P hown hK hP hD hS 0 rfl rfl 4 (by decide) (hT _ zi_70) (fun _ h9 => h9) rfl (by decide +kernel) rfl rfl (Nat.le_of_ble_eq_true rfl) zd_P_init_49 (fun H locs hP hD hS => ?_)
  have hP : va_P D fb_cl [(b, .inr (1, [.int 0, .int 0, .ref q6, .ref q34, .int 0, .null, .null, .null, .int 0, .int 0, .int 0])), (q6, .inl (cA 4, 2, .inr (.inr (.inr (.inr (va_up (va_up (fun _ => none) (0 : Int32).toNatClampNeg (some q11)) (1 : Int32).toNatClampNeg (some q21))))))), (q11, .inr (4, [.null, .null, .int 0])), (q21, .inr (4, [.null, .null, .int 0])), (q34, .inl (cA 0, 2, .inl (upd (upd (fun _ => 0) (0 : Int32).toNatClampNeg 0) (1 : Int32).toNatClampNeg 0)))] H := hP
  have hD : va_D A [(b, .inr (1, [.int 0, .int 0, .ref q6, .ref q34, .int 0, .null, .null, .null, .int 0, .int 0, .int 0])), (q6, .inl (cA 4, 2, .inr (.inr (.inr (.inr (va_up (va_up (fun _ => none) (0 : Int32).toNatClampNeg (some q11)) (1 : Int32).toNatClampNeg (some q21))))))), (q11, .inr (4, [.null, .null, .int 0])), (q21, .inr (4, [.null, .null, .int 0])), (q34, .inl (cA 0, 2, .inl (upd (upd (fun _ => 0) (0 : Int32).toNatClampNeg 0) (1 : Int32).toNatClampNeg 0)))] := hD
  refine lv_aload_n hx hb zd_P_init_52 rfl (lv_at hl 0 rfl) ?_
  refine lv_null hx hb zd_P_init_53 ?_
  refine va_put (D := D) (ci := 1) (v := .null) (ty := (.object "PausedFabric$Frame")) (C := "PausedFabric$Port") (T := zT_P) (N := 11) hx hb hT zin_P zt_P ztok_P znm_P hown hK hP hD hS 0 rfl rfl 5 (by decide) (hT _ zi_72) (fun _ h9 => h9) rfl (by decide +kernel) rfl rfl (Nat.le_of_ble_eq_true rfl) zd_P_init_54 (fun H locs hP hD hS => ?_)
  have hP : va_P D fb_cl [(b, .inr (1, [.int 0, .int 0, .ref q6, .ref q34, .int 0, .null, .null, .null, .int 0, .int 0, .int 0])), (q6, .inl (cA 4, 2, .inr (.inr (.inr (.inr (va_up (va_up (fun _ => none) (0 : Int32).toNatClampNeg (some q11)) (1 : Int32).toNatClampNeg (some q21))))))), (q11, .inr (4, [.null, .null, .int 0])), (q21, .inr (4, [.null, .null, .int 0])), (q34, .inl (cA 0, 2, .inl (upd (upd (fun _ => 0) (0 : Int32).toNatClampNeg 0) (1 : Int32).toNatClampNeg 0)))] H := hP
  have hD : va_D A [(b, .inr (1, [.int 0, .int 0, .ref q6, .ref q34, .int 0, .null, .null, .null, .int 0, .int 0, .int 0])), (q6, .inl (cA 4, 2, .inr (.inr (.inr (.inr (va_up (va_up (fun _ => none) (0 : Int32).toNatClampNeg (some q11)) (1 : Int32).toNatClampNeg (some q21))))))), (q11, .inr (4, [.null, .null, .int 0])), (q21, .inr (4, [.null, .null, .int 0])), (q34, .inl (cA 0, 2, .inl (upd (upd (fun _ => 0) (0 : Int32).toNatClampNeg 0) (1 : Int32).toNatClampNeg 0)))] := hD
  refine lv_aload_n hx hb zd_P_init_57 rfl (lv_at hl 0 rfl) ?_
  refine va_new (ci := 4) (fs := [.null, .null, .int 0]) (C := "PausedFabric$FrameQueue") (T := zT_Q) (N := 3) hx hb hT zin_Q zt_Q ztok_Q hown (hT _ zi_42) (hT _ zi_44) (hT _ zi_4) hK hP hD hS hA rfl (fun j hj => by rcases (show j = 0 ∨ j = 1 ∨ j = 2 by omega) with rfl | rfl | rfl <;> rfl) (show 5 ≤ 6 by decide) (show 13 ≤ 15 by decide) zd_P_init_58 (fun q58 H hP hD hS => ?_)
  have hP : va_P D fb_cl [(b, .inr (1, [.int 0, .int 0, .ref q6, .ref q34, .int 0, .null, .null, .null, .int 0, .int 0, .int 0])), (q6, .inl (cA 4, 2, .inr (.inr (.inr (.inr (va_up (va_up (fun _ => none) (0 : Int32).toNatClampNeg (some q11)) (1 : Int32).toNatClampNeg (some q21))))))), (q11, .inr (4, [.null, .null, .int 0])), (q21, .inr (4, [.null, .null, .int 0])), (q34, .inl (cA 0, 2, .inl (upd (upd (fun _ => 0) (0 : Int32).toNatClampNeg 0) (1 : Int32).toNatClampNeg 0))), (q58, .inr (4, [.null, .null, .int 0]))] H := hP
  have hD : va_D A [(b, .inr (1, [.int 0, .int 0, .ref q6, .ref q34, .int 0, .null, .null, .null, .int 0, .int 0, .int 0])), (q6, .inl (cA 4, 2, .inr (.inr (.inr (.inr (va_up (va_up (fun _ => none) (0 : Int32).toNatClampNeg (some q11)) (1 : Int32).toNatClampNeg (some q21))))))), (q11, .inr (4, [.null, .null, .int 0])), (q21, .inr (4, [.null, .null, .int 0])), (q34, .inl (cA 0, 2, .inl (upd (upd (fun _ => 0) (0 : Int32).toNatClampNeg 0) (1 : Int32).toNatClampNeg 0))), (q58, .inr (4, [.null, .null, .int 0]))] := hD
  refine W.widen (k := 5) (n := 13) (by omega) (by omega) ?_
  refine lv_dup hx hb zd_P_init_61 rfl ?_
  have hPc := hP.sub (ws' := [(q58, .inr (4, [.null, .null, .int 0]))]) [5] rfl
  have hDc := hD.sub (ws' := [(q58, .inr (4, [.null, .null, .int 0]))]) [5] (by decide) rfl
  have hFc := va_free (wc := [(q58, .inr (4, [.null, .null, .int 0]))]) hD hS hA [5] rfl
  refine va_callv (va_runIN (As := []) (rest := [.ref q58, .ref b]) ⟨hx, hb, hml, hown, hT⟩ (c_Q_init l D cA q58  H.size) ⟨va_cnB 0 hT (fb_gI zc_Q_init) rfl rfl rfl hnw (hT _ zi_4) (by decide +kernel) ⟨Nat.le_of_ble_eq_true rfl, Nat.le_of_ble_eq_true rfl⟩, rfl, hT _ zi_46⟩ ⟨fun a U g mk q => by obtain ⟨q0, q1, qP, qK, qD⟩ := q; exact ⟨q0, q1, qP, va_K.moved (u := U) (U := U.calling g mk a) (Vm.Alike.refl U.vm) qK, qD⟩, fun U hU hW => ⟨rfl, by rw [hU], by rw [hU]; exact hPc, va_K.moved hW.alike hK, hDc.weaken (fun _ _ _ _ => trivial)⟩⟩ rfl rfl hl.1 rfl (lv_room (Nat.le_of_ble_eq_true rfl)) zd_P_init_62 ⟨show 5 ≤ 6 by decide, show 13 ≤ 15 by decide⟩) hS (fun q _ h => hFc q h) hFc (fun u62 t H1 locs ht hvm h5 hB hz1 hk1 hS => ?_)
  obtain ⟨hP1, hK1, hD1⟩ := hB
  rw [ht] at hP1
  obtain ⟨hP, hD⟩ := va_join (wr := [(b, .inr (1, [.int 0, .int 0, .ref q6, .ref q34, .int 0, .null, .null, .null, .int 0, .int 0, .int 0])), (q6, .inl (cA 4, 2, .inr (.inr (.inr (.inr (va_up (va_up (fun _ => none) (0 : Int32).toNatClampNeg (some q11)) (1 : Int32).toNatClampNeg (some q21))))))), (q11, .inr (4, [.null, .null, .int 0])), (q21, .inr (4, [.null, .null, .int 0])), (q34, .inl (cA 0, 2, .inl (upd (upd (fun _ => 0) (0 : Int32).toNatClampNeg 0) (1 : Int32).toNatClampNeg 0)))]) (w1 := [(q58, .inr (4, [.null, .null, .int 0]))]) hP hD [5] [0, 1, 2, 3, 4] rfl rfl (by decide) (by decide) hk1 hFc hP1 hD1
  generalize H1 = H at hP hS ⊢
  have hP : va_P D fb_cl [(b, .inr (1, [.int 0, .int 0, .ref q6, .ref q34, .int 0, .null, .null, .null, .int 0, .int 0, .int 0])), (q6, .inl (cA 4, 2, .inr (.inr (.inr (.inr (va_up (va_up (fun _ => none) (0 : Int32).toNatClampNeg (some q11)) (1 : Int32).toNatClampNeg (some q21))))))), (q11, .inr (4, [.null, .null, .int 0])), (q21, .inr (4, [.null, .null, .int 0])), (q34, .inl (cA 0, 2, .inl (upd (upd (fun _ => 0) (0 : Int32).toNatClampNeg 0) (1 : Int32).toNatClampNeg 0))), (q58, .inr (4, [.null, .null, .int 0]))] H := hP
  have hD : va_D A [(b, .inr (1, [.int 0, .int 0, .ref q6, .ref q34, .int 0, .null, .null, .null, .int 0, .int 0, .int 0])), (q6, .inl (cA 4, 2, .inr (.inr (.inr (.inr (va_up (va_up (fun _ => none) (0 : Int32).toNatClampNeg (some q11)) (1 : Int32).toNatClampNeg (some q21))))))), (q11, .inr (4, [.null, .null, .int 0])), (q21, .inr (4, [.null, .null, .int 0])), (q34, .inl (cA 0, 2, .inl (upd (upd (fun _ => 0) (0 : Int32).toNatClampNeg 0) (1 : Int32).toNatClampNeg 0))), (q58, .inr (4, [.null, .null, .int 0]))] := hD
  refine W.widen (k := 5) (n := 13) (by omega) (by omega) ?_
  refine va_putF (D := D) (ci := 1) (v := .ref q58) (ty := (.object "PausedFabric$FrameQueue")) (C := "PausedFabric$Port") (T := zT_P) (N := 11) hx hb hT zin_P zt_P ztok_P znm_P hown hK hP hD hS 0 rfl rfl 6 (by decide) (hT _ zi_74) (fun _ h9 => h9) rfl hin rfl (by decide +kernel) rfl rfl (Nat.le_of_ble_eq_true rfl) zd_P_init_65 (fun H locs hP hD hS => ?_)
  have hP : va_P D fb_cl [(b, .inr (1, [.int 0, .int 0, .ref q6, .ref q34, .int 0, .null, .ref q58, .null, .int 0, .int 0, .int 0])), (q6, .inl (cA 4, 2, .inr (.inr (.inr (.inr (va_up (va_up (fun _ => none) (0 : Int32).toNatClampNeg (some q11)) (1 : Int32).toNatClampNeg (some q21))))))), (q11, .inr (4, [.null, .null, .int 0])), (q21, .inr (4, [.null, .null, .int 0])), (q34, .inl (cA 0, 2, .inl (upd (upd (fun _ => 0) (0 : Int32).toNatClampNeg 0) (1 : Int32).toNatClampNeg 0))), (q58, .inr (4, [.null, .null, .int 0]))] H := hP
  have hD : va_D A [(b, .inr (1, [.int 0, .int 0, .ref q6, .ref q34, .int 0, .null, .ref q58, .null, .int 0, .int 0, .int 0])), (q6, .inl (cA 4, 2, .inr (.inr (.inr (.inr (va_up (va_up (fun _ => none) (0 : Int32).toNatClampNeg (some q11)) (1 : Int32).toNatClampNeg (some q21))))))), (q11, .inr (4, [.null, .null, .int 0])), (q21, .inr (4, [.null, .null, .int 0])), (q34, .inl (cA 0, 2, .inl (upd (upd (fun _ => 0) (0 : Int32).toNatClampNeg 0) (1 : Int32).toNatClampNeg 0))), (q58, .inr (4, [.null, .null, .int 0]))] := hD
  refine lv_aload_n hx hb zd_P_init_68 rfl (lv_at hl 0 rfl) ?_
  refine lv_iconst (v := 2) hx hb zd_P_init_69 (by decide) ?_
  refine va_newa (atype := .int) (ty := .int) (n := 2) (N' := 2) (a0 := (2, .inl (fun _ => 0))) hx hb (hT _ zi_61) rfl hK hP hD hS hA (fun _ => rfl) (by decide) (by decide) (by decide) (show 6 ≤ 6 by decide) (show 15 ≤ 15 by decide) zd_P_init_70 (fun q70 cQ H hK9 hP hD hS => ?_)
  obtain rfl := fb_uni hK9 (i := 0) (j := 6) rfl rfl
  have hP : va_P D fb_cl [(b, .inr (1, [.int 0, .int 0, .ref q6, .ref q34, .int 0, .null, .ref q58, .null, .int 0, .int 0, .int 0])), (q6, .inl (cA 4, 2, .inr (.inr (.inr (.inr (va_up (va_up (fun _ => none) (0 : Int32).toNatClampNeg (some q11)) (1 : Int32).toNatClampNeg (some q21))))))), (q11, .inr (4, [.null, .null, .int 0])), (q21, .inr (4, [.null, .null, .int 0])), (q34, .inl (cA 0, 2, .inl (upd (upd (fun _ => 0) (0 : Int32).toNatClampNeg 0) (1 : Int32).toNatClampNeg 0))), (q58, .inr (4, [.null, .null, .int 0])), (q70, .inl (cA 0, 2, .inl (fun _ => 0)))] H := hP
  have hD : va_D A [(b, .inr (1, [.int 0, .int 0, .ref q6, .ref q34, .int 0, .null, .ref q58, .null, .int 0, .int 0, .int 0])), (q6, .inl (cA 4, 2, .inr (.inr (.inr (.inr (va_up (va_up (fun _ => none) (0 : Int32).toNatClampNeg (some q11)) (1 : Int32).toNatClampNeg (some q21))))))), (q11, .inr (4, [.null, .null, .int 0])), (q21, .inr (4, [.null, .null, .int 0])), (q34, .inl (cA 0, 2, .inl (upd (upd (fun _ => 0) (0 : Int32).toNatClampNeg 0) (1 : Int32).toNatClampNeg 0))), (q58, .inr (4, [.null, .null, .int 0])), (q70, .inl (cA 0, 2, .inl (fun _ => 0)))] := hD
  refine W.widen (k := 6) (n := 15) (by omega) (by omega) ?_
  refine lv_dup hx hb zd_P_init_72 rfl ?_
  refine lv_iconst (v := 0) hx hb zd_P_init_73 (by decide) ?_
  refine lv_iconst (v := 0) hx hb zd_P_init_74 (by decide) ?_
  refine va_iast hx hb hK hP hD hS 6 0 rfl rfl (i := 0) (x := 0) fb_v0 zd_P_init_75 (fun H locs hP hD hS => ?_)
  have hP : va_P D fb_cl [(b, .inr (1, [.int 0, .int 0, .ref q6, .ref q34, .int 0, .null, .ref q58, .null, .int 0, .int 0, .int 0])), (q6, .inl (cA 4, 2, .inr (.inr (.inr (.inr (va_up (va_up (fun _ => none) (0 : Int32).toNatClampNeg (some q11)) (1 : Int32).toNatClampNeg (some q21))))))), (q11, .inr (4, [.null, .null, .int 0])), (q21, .inr (4, [.null, .null, .int 0])), (q34, .inl (cA 0, 2, .inl (upd (upd (fun _ => 0) (0 : Int32).toNatClampNeg 0) (1 : Int32).toNatClampNeg 0))), (q58, .inr (4, [.null, .null, .int 0])), (q70, .inl (cA 0, 2, .inl (upd (fun _ => 0) (0 : Int32).toNatClampNeg 0)))] H := hP
  have hD : va_D A [(b, .inr (1, [.int 0, .int 0, .ref q6, .ref q34, .int 0, .null, .ref q58, .null, .int 0, .int 0, .int 0])), (q6, .inl (cA 4, 2, .inr (.inr (.inr (.inr (va_up (va_up (fun _ => none) (0 : Int32).toNatClampNeg (some q11)) (1 : Int32).toNatClampNeg (some q21))))))), (q11, .inr (4, [.null, .null, .int 0])), (q21, .inr (4, [.null, .null, .int 0])), (q34, .inl (cA 0, 2, .inl (upd (upd (fun _ => 0) (0 : Int32).toNatClampNeg 0) (1 : Int32).toNatClampNeg 0))), (q58, .inr (4, [.null, .null, .int 0])), (q70, .inl (cA 0, 2, .inl (upd (fun _ => 0) (0 : Int32).toNatClampNeg 0)))] := hD
  refine lv_dup hx hb zd_P_init_76 rfl ?_
  refine lv_iconst (v := 1) hx hb zd_P_init_77 (by decide) ?_
  refine lv_iconst (v := 0) hx hb zd_P_init_78 (by decide) ?_
  refine va_iast hx hb hK hP hD hS 6 0 rfl rfl (i := 1) (x := 0) fb_v1 zd_P_init_79 (fun H locs hP hD hS => ?_)
  have hP : va_P D fb_cl [(b, .inr (1, [.int 0, .int 0, .ref q6, .ref q34, .int 0, .null, .ref q58, .null, .int 0, .int 0, .int 0])), (q6, .inl (cA 4, 2, .inr (.inr (.inr (.inr (va_up (va_up (fun _ => none) (0 : Int32).toNatClampNeg (some q11)) (1 : Int32).toNatClampNeg (some q21))))))), (q11, .inr (4, [.null, .null, .int 0])), (q21, .inr (4, [.null, .null, .int 0])), (q34, .inl (cA 0, 2, .inl (upd (upd (fun _ => 0) (0 : Int32).toNatClampNeg 0) (1 : Int32).toNatClampNeg 0))), (q58, .inr (4, [.null, .null, .int 0])), (q70, .inl (cA 0, 2, .inl (upd (upd (fun _ => 0) (0 : Int32).toNatClampNeg 0) (1 : Int32).toNatClampNeg 0)))] H := hP
  have hD : va_D A [(b, .inr (1, [.int 0, .int 0, .ref q6, .ref q34, .int 0, .null, .ref q58, .null, .int 0, .int 0, .int 0])), (q6, .inl (cA 4, 2, .inr (.inr (.inr (.inr (va_up (va_up (fun _ => none) (0 : Int32).toNatClampNeg (some q11)) (1 : Int32).toNatClampNeg (some q21))))))), (q11, .inr (4, [.null, .null, .int 0])), (q21, .inr (4, [.null, .null, .int 0])), (q34, .inl (cA 0, 2, .inl (upd (upd (fun _ => 0) (0 : Int32).toNatClampNeg 0) (1 : Int32).toNatClampNeg 0))), (q58, .inr (4, [.null, .null, .int 0])), (q70, .inl (cA 0, 2, .inl (upd (upd (fun _ => 0) (0 : Int32).toNatClampNeg 0) (1 : Int32).toNatClampNeg 0)))] := hD
  refine va_putF (D := D) (ci := 1) (v := .ref q70) (ty := (.array .int)) (C := "PausedFabric$Port") (T := zT_P) (N := 11) hx hb hT zin_P zt_P ztok_P znm_P hown hK hP hD hS 0 rfl rfl 7 (by decide) (hT _ zi_76) (fun _ h9 => h9) rfl hin rfl (by decide +kernel) rfl rfl (Nat.le_of_ble_eq_true rfl) zd_P_init_80 (fun H locs hP hD hS => ?_)
  have hP : va_P D fb_cl [(b, .inr (1, [.int 0, .int 0, .ref q6, .ref q34, .int 0, .null, .ref q58, .ref q70, .int 0, .int 0, .int 0])), (q6, .inl (cA 4, 2, .inr (.inr (.inr (.inr (va_up (va_up (fun _ => none) (0 : Int32).toNatClampNeg (some q11)) (1 : Int32).toNatClampNeg (some q21))))))), (q11, .inr (4, [.null, .null, .int 0])), (q21, .inr (4, [.null, .null, .int 0])), (q34, .inl (cA 0, 2, .inl (upd (upd (fun _ => 0) (0 : Int32).toNatClampNeg 0) (1 : Int32).toNatClampNeg 0))), (q58, .inr (4, [.null, .null, .int 0])), (q70, .inl (cA 0, 2, .inl (upd (upd (fun _ => 0) (0 : Int32).toNatClampNeg 0) (1 : Int32).toNatClampNeg 0)))] H := hP
  have hD : va_D A [(b, .inr (1, [.int 0, .int 0, .ref q6, .ref q34, .int 0, .null, .ref q58, .ref q70, .int 0, .int 0, .int 0])), (q6, .inl (cA 4, 2, .inr (.inr (.inr (.inr (va_up (va_up (fun _ => none) (0 : Int32).toNatClampNeg (some q11)) (1 : Int32).toNatClampNeg (some q21))))))), (q11, .inr (4, [.null, .null, .int 0])), (q21, .inr (4, [.null, .null, .int 0])), (q34, .inl (cA 0, 2, .inl (upd (upd (fun _ => 0) (0 : Int32).toNatClampNeg 0) (1 : Int32).toNatClampNeg 0))), (q58, .inr (4, [.null, .null, .int 0])), (q70, .inl (cA 0, 2, .inl (upd (upd (fun _ => 0) (0 : Int32).toNatClampNeg 0) (1 : Int32).toNatClampNeg 0)))] := hD
  refine lv_aload_n hx hb zd_P_init_83 rfl (lv_at hl 0 rfl) ?_
  refine lv_iconst (v := 0) hx hb zd_P_init_84 (by decide) ?_
  refine va_put (D := D) (ci := 1) (v := .int 0) (ty := .boolean) (C := "PausedFabric$Port") (T := zT_P) (N := 11) hx hb hT zin_P zt_P ztok_P znm_P hown hK hP hD hS 0 rfl rfl 8 (by decide) (hT _ zi_78) (fun _ h9 => h9) rfl (by decide +kernel) rfl rfl (Nat.le_of_ble_eq_true rfl) zd_P_init_85 (fun H locs hP hD hS => ?_)
  have hP : va_P D fb_cl [(b, .inr (1, [.int 0, .int 0, .ref q6, .ref q34, .int 0, .null, .ref q58, .ref q70, .int 0, .int 0, .int 0])), (q6, .inl (cA 4, 2, .inr (.inr (.inr (.inr (va_up (va_up (fun _ => none) (0 : Int32).toNatClampNeg (some q11)) (1 : Int32).toNatClampNeg (some q21))))))), (q11, .inr (4, [.null, .null, .int 0])), (q21, .inr (4, [.null, .null, .int 0])), (q34, .inl (cA 0, 2, .inl (upd (upd (fun _ => 0) (0 : Int32).toNatClampNeg 0) (1 : Int32).toNatClampNeg 0))), (q58, .inr (4, [.null, .null, .int 0])), (q70, .inl (cA 0, 2, .inl (upd (upd (fun _ => 0) (0 : Int32).toNatClampNeg 0) (1 : Int32).toNatClampNeg 0)))] H := hP
  have hD : va_D A [(b, .inr (1, [.int 0, .int 0, .ref q6, .ref q34, .int 0, .null, .ref q58, .ref q70, .int 0, .int 0, .int 0])), (q6, .inl (cA 4, 2, .inr (.inr (.inr (.inr (va_up (va_up (fun _ => none) (0 : Int32).toNatClampNeg (some q11)) (1 : Int32).toNatClampNeg (some q21))))))), (q11, .inr (4, [.null, .null, .int 0])), (q21, .inr (4, [.null, .null, .int 0])), (q34, .inl (cA 0, 2, .inl (upd (upd (fun _ => 0) (0 : Int32).toNatClampNeg 0) (1 : Int32).toNatClampNeg 0))), (q58, .inr (4, [.null, .null, .int 0])), (q70, .inl (cA 0, 2, .inl (upd (upd (fun _ => 0) (0 : Int32).toNatClampNeg 0) (1 : Int32).toNatClampNeg 0)))] := hD
  refine lv_aload_n hx hb zd_P_init_88 rfl (lv_at hl 0 rfl) ?_
  refine lv_iconst (v := 0) hx hb zd_P_init_89 (by decide) ?_
  refine va_put (D := D) (ci := 1) (v := .int 0) (ty := .int) (C := "PausedFabric$Port") (T := zT_P) (N := 11) hx hb hT zin_P zt_P ztok_P znm_P hown hK hP hD hS 0 rfl rfl 9 (by decide) (hT _ zi_80) (fun _ h9 => h9) rfl (by decide +kernel) rfl rfl (Nat.le_of_ble_eq_true rfl) zd_P_init_90 (fun H locs hP hD hS => ?_)
  have hP : va_P D fb_cl [(b, .inr (1, [.int 0, .int 0, .ref q6, .ref q34, .int 0, .null, .ref q58, .ref q70, .int 0, .int 0, .int 0])), (q6, .inl (cA 4, 2, .inr (.inr (.inr (.inr (va_up (va_up (fun _ => none) (0 : Int32).toNatClampNeg (some q11)) (1 : Int32).toNatClampNeg (some q21))))))), (q11, .inr (4, [.null, .null, .int 0])), (q21, .inr (4, [.null, .null, .int 0])), (q34, .inl (cA 0, 2, .inl (upd (upd (fun _ => 0) (0 : Int32).toNatClampNeg 0) (1 : Int32).toNatClampNeg 0))), (q58, .inr (4, [.null, .null, .int 0])), (q70, .inl (cA 0, 2, .inl (upd (upd (fun _ => 0) (0 : Int32).toNatClampNeg 0) (1 : Int32).toNatClampNeg 0)))] H := hP
  have hD : va_D A [(b, .inr (1, [.int 0, .int 0, .ref q6, .ref q34, .int 0, .null, .ref q58, .ref q70, .int 0, .int 0, .int 0])), (q6, .inl (cA 4, 2, .inr (.inr (.inr (.inr (va_up (va_up (fun _ => none) (0 : Int32).toNatClampNeg (some q11)) (1 : Int32).toNatClampNeg (some q21))))))), (q11, .inr (4, [.null, .null, .int 0])), (q21, .inr (4, [.null, .null, .int 0])), (q34, .inl (cA 0, 2, .inl (upd (upd (fun _ => 0) (0 : Int32).toNatClampNeg 0) (1 : Int32).toNatClampNeg 0))), (q58, .inr (4, [.null, .null, .int 0])), (q70, .inl (cA 0, 2, .inl (upd (upd (fun _ => 0) (0 : Int32).toNatClampNeg 0) (1 : Int32).toNatClampNeg 0)))] := hD
  refine lv_aload_n hx hb zd_P_init_93 rfl (lv_at hl 0 rfl) ?_
  refine lv_iconst (v := 0) hx hb zd_P_init_94 (by decide) ?_
  refine va_put (D := D) (ci := 1) (v := .int 0) (ty := .boolean) (C := "PausedFabric$Port") (T := zT_P) (N := 11) hx hb hT zin_P zt_P ztok_P znm_P hown hK hP hD hS 0 rfl rfl 10 (by decide) (hT _ zi_82) (fun _ h9 => h9) rfl (by decide +kernel) rfl rfl (Nat.le_of_ble_eq_true rfl) zd_P_init_95 (fun H locs hP hD hS => ?_)
  have hP : va_P D fb_cl [(b, .inr (1, [.int 0, .int 0, .ref q6, .ref q34, .int 0, .null, .ref q58, .ref q70, .int 0, .int 0, .int 0])), (q6, .inl (cA 4, 2, .inr (.inr (.inr (.inr (va_up (va_up (fun _ => none) (0 : Int32).toNatClampNeg (some q11)) (1 : Int32).toNatClampNeg (some q21))))))), (q11, .inr (4, [.null, .null, .int 0])), (q21, .inr (4, [.null, .null, .int 0])), (q34, .inl (cA 0, 2, .inl (upd (upd (fun _ => 0) (0 : Int32).toNatClampNeg 0) (1 : Int32).toNatClampNeg 0))), (q58, .inr (4, [.null, .null, .int 0])), (q70, .inl (cA 0, 2, .inl (upd (upd (fun _ => 0) (0 : Int32).toNatClampNeg 0) (1 : Int32).toNatClampNeg 0)))] H := hP
  have hD : va_D A [(b, .inr (1, [.int 0, .int 0, .ref q6, .ref q34, .int 0, .null, .ref q58, .ref q70, .int 0, .int 0, .int 0])), (q6, .inl (cA 4, 2, .inr (.inr (.inr (.inr (va_up (va_up (fun _ => none) (0 : Int32).toNatClampNeg (some q11)) (1 : Int32).toNatClampNeg (some q21))))))), (q11, .inr (4, [.null, .null, .int 0])), (q21, .inr (4, [.null, .null, .int 0])), (q34, .inl (cA 0, 2, .inl (upd (upd (fun _ => 0) (0 : Int32).toNatClampNeg 0) (1 : Int32).toNatClampNeg 0))), (q58, .inr (4, [.null, .null, .int 0])), (q70, .inl (cA 0, 2, .inl (upd (upd (fun _ => 0) (0 : Int32).toNatClampNeg 0) (1 : Int32).toNatClampNeg 0)))] := hD
  refine lv_aload_n hx hb zd_P_init_98 rfl (lv_at hl 0 rfl) ?_
  refine lv_iload_n hx hb zd_P_init_99 rfl (lv_at hl 1 rfl) ?_
  refine va_putF (D := D) (ci := 1) (v := .int fm) (ty := .int) (C := "PausedFabric$Port") (T := zT_P) (N := 11) hx hb hT zin_P zt_P ztok_P znm_P hown hK hP hD hS 0 rfl rfl 0 (by decide) (hT _ zi_62) (fun _ h9 => h9) rfl hin rfl (by decide +kernel) rfl rfl (Nat.le_of_ble_eq_true rfl) zd_P_init_100 (fun H locs hP hD hS => ?_)
  have hP : va_P D fb_cl [(b, .inr (1, [.int fm, .int 0, .ref q6, .ref q34, .int 0, .null, .ref q58, .ref q70, .int 0, .int 0, .int 0])), (q6, .inl (cA 4, 2, .inr (.inr (.inr (.inr (va_up (va_up (fun _ => none) (0 : Int32).toNatClampNeg (some q11)) (1 : Int32).toNatClampNeg (some q21))))))), (q11, .inr (4, [.null, .null, .int 0])), (q21, .inr (4, [.null, .null, .int 0])), (q34, .inl (cA 0, 2, .inl (upd (upd (fun _ => 0) (0 : Int32).toNatClampNeg 0) (1 : Int32).toNatClampNeg 0))), (q58, .inr (4, [.null, .null, .int 0])), (q70, .inl (cA 0, 2, .inl (upd (upd (fun _ => 0) (0 : Int32).toNatClampNeg 0) (1 : Int32).toNatClampNeg 0)))] H := hP
  have hD : va_D A [(b, .inr (1, [.int fm, .int 0, .ref q6, .ref q34, .int 0, .null, .ref q58, .ref q70, .int 0, .int 0, .int 0])), (q6, .inl (cA 4, 2, .inr (.inr (.inr (.inr (va_up (va_up (fun _ => none) (0 : Int32).toNatClampNeg (some q11)) (1 : Int32).toNatClampNeg (some q21))))))), (q11, .inr (4, [.null, .null, .int 0])), (q21, .inr (4, [.null, .null, .int 0])), (q34, .inl (cA 0, 2, .inl (upd (upd (fun _ => 0) (0 : Int32).toNatClampNeg 0) (1 : Int32).toNatClampNeg 0))), (q58, .inr (4, [.null, .null, .int 0])), (q70, .inl (cA 0, 2, .inl (upd (upd (fun _ => 0) (0 : Int32).toNatClampNeg 0) (1 : Int32).toNatClampNeg 0)))] := hD
  refine lv_aload_n hx hb zd_P_init_103 rfl (lv_at hl 0 rfl) ?_
  refine lv_iload_n hx hb zd_P_init_104 rfl (lv_at hl 2 rfl) ?_
  refine va_putF (D := D) (ci := 1) (v := .int tt) (ty := .int) (C := "PausedFabric$Port") (T := zT_P) (N := 11) hx hb hT zin_P zt_P ztok_P znm_P hown hK hP hD hS 0 rfl rfl 1 (by decide) (hT _ zi_64) (fun _ h9 => h9) rfl hin rfl (by decide +kernel) rfl rfl (Nat.le_of_ble_eq_true rfl) zd_P_init_105 (fun H locs hP hD hS => ?_)
  have hP : va_P D fb_cl [(b, .inr (1, [.int fm, .int tt, .ref q6, .ref q34, .int 0, .null, .ref q58, .ref q70, .int 0, .int 0, .int 0])), (q6, .inl (cA 4, 2, .inr (.inr (.inr (.inr (va_up (va_up (fun _ => none) (0 : Int32).toNatClampNeg (some q11)) (1 : Int32).toNatClampNeg (some q21))))))), (q11, .inr (4, [.null, .null, .int 0])), (q21, .inr (4, [.null, .null, .int 0])), (q34, .inl (cA 0, 2, .inl (upd (upd (fun _ => 0) (0 : Int32).toNatClampNeg 0) (1 : Int32).toNatClampNeg 0))), (q58, .inr (4, [.null, .null, .int 0])), (q70, .inl (cA 0, 2, .inl (upd (upd (fun _ => 0) (0 : Int32).toNatClampNeg 0) (1 : Int32).toNatClampNeg 0)))] H := hP
  have hD : va_D A [(b, .inr (1, [.int fm, .int tt, .ref q6, .ref q34, .int 0, .null, .ref q58, .ref q70, .int 0, .int 0, .int 0])), (q6, .inl (cA 4, 2, .inr (.inr (.inr (.inr (va_up (va_up (fun _ => none) (0 : Int32).toNatClampNeg (some q11)) (1 : Int32).toNatClampNeg (some q21))))))), (q11, .inr (4, [.null, .null, .int 0])), (q21, .inr (4, [.null, .null, .int 0])), (q34, .inl (cA 0, 2, .inl (upd (upd (fun _ => 0) (0 : Int32).toNatClampNeg 0) (1 : Int32).toNatClampNeg 0))), (q58, .inr (4, [.null, .null, .int 0])), (q70, .inl (cA 0, 2, .inl (upd (upd (fun _ => 0) (0 : Int32).toNatClampNeg 0) (1 : Int32).toNatClampNeg 0)))] := hD
  exact W.vret hx hb hr (fun t ht hW => ⟨⟨(fun j => match j with | 0 => q6 | 1 => q11 | 2 => q21 | 3 => q34 | 4 => q58 | _ => q70), rfl, trivial, by rw [ht]; exact hP, va_K.moved hW.alike hK, hD⟩, hS.F ht⟩) hS.2.2 zd_P_init_108
