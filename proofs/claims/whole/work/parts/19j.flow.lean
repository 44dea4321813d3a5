/-! flow (by program) -/
set_option maxHeartbeats 4000000 in
set_option maxRecDepth 100000 in
theorem c_X_flow (l : Launch) (D : va_G) (cA : Nat → ClassId) (ad : Nat → Nat → Nat) (LL : fb_L) (fl fr : Nat) (st : fb_S) (hL : fb_lvC LL fl fr) (hok : fb_okC fl fr st) (u v q : Int32) (sz : Nat) : Met l zy_X_flow (zw_X_flow :: lw_gd) { frames := 2, cells := 2, slots := 16, locals := 52 } (va_Pc [.ref (ad 0 0), .int u, .int v, .int q] (fun U => fb_Pre (fb_cC cA) D fb_cl (fb_tys cA) ad LL st sz U ∧ va_AO "PausedFabric$Port" U)) (va_Qi (fun r (w : fb_S × (Nat → Nat → Nat) × fb_L) => r = cf_flowA st u v q ∧ w.1 = cf_flow fl u v q st ∧ fb_okC (cf_flC st fl u v q) fr w.1 ∧ fb_lvC w.2.2 (cf_flC st fl u v q) fr ∧ w.2.1 0 0 = ad 0 0) (fun w t => va_P D fb_cl (fb_wl (fb_cC cA) w.2.1 w.1 w.2.2) t.heap ∧ va_K D fb_cl (fb_tys cA) t ∧ va_D (fb_A ad LL sz) (fb_wl (fb_cC cA) w.2.1 w.1 w.2.2)) (fb_A ad LL sz)) 2 16 (fb_A ad LL sz) := by
  have hfl : fl ≤ 12 := hL.2.2.2.2.2.2.1
  have hfr : fr ≤ 100 := hL.2.2.2.2.2.2.2
  refine Met.ofW (cc := zb_X_flow) (maxL := 5) (ret := (some .int)) (by decide) rfl ?_
  intro p e s m args below meth c s₁ B hml hv
  obtain ⟨rfl, ⟨hsz, hP, hK, hD0⟩, hao⟩ := hv
  have hx := B.exec
  have hb := B.bytes
  have hr := B.returns
  have hts := atoms_spec (ws := zw_X_flow :: lw_gd) B.pre
  have hT : ∀ w ∈ lw_gd, w.before _ s = true := fun w h => hts w (List.mem_cons_of_mem _ h)
  have hown : s.vm.findClass "PausedFabric" = some m.cls := findClass_of_methodNamed B.named
  have hlocks := B.notSynchronized
  subst hsz
  have hD := fb_D_self (sz := s.heap.size) hD0
  have hS : va_S (fb_A ad LL s.heap.size) s.heap s.heap [] := va_S.rf
  have hA : ∀ q : Nat, s.heap.size ≤ q → fb_A ad LL s.heap.size q := fun q h => Or.inr h
  have hl := lv_entry ([.ref (ad 0 0), .int u, .int v, .int q]) (n := 5) (Nat.le_of_ble_eq_true rfl)
  rw [lg_entry_eq]
  generalize (lg_sl ([.ref (ad 0 0), .int u, .int v, .int q]) ++ List.replicate (5 - (lg_sl ([.ref (ad 0 0), .int u, .int v, .int q])).length) Slot.unset).toArray = ls at hl ⊢
  have hl : lv_has ls 5 [(0, .ref (ad 0 0)), (1, .int u), (2, .int v), (3, .int q)] := hl
  refine lv_iload_n hx hb zd_X_flow_0 rfl (lv_at hl 1 rfl) ?_
  refine pw_Si (bytes := zb_X_isHost) (maxL := 1) (ret := (some .boolean)) (As := [.int u]) (rest := []) ⟨hx, hb, hml, hown, hT⟩ (c_X_isHost l D cA (fb_cC cA) ad LL st u) (cwS 1 hT (fb_gS zi_31 zi_32 zi_1 zc_X_isHost) rfl rfl rfl (by decide +kernel) ⟨Nat.le_of_ble_eq_true rfl, Nat.le_of_ble_eq_true rfl⟩) hK hP hD hS rfl hl.1 rfl (lv_room (Nat.le_of_ble_eq_true rfl)) zd_X_flow_1 ⟨Nat.zero_le _, Nat.zero_le _⟩ (fun rx sx H locs hp hP hD hS => ?_)
  obtain ⟨hr9, hs, hok9⟩ := hp
  rw [hr9]
  rw [hs] at hP hD
  refine lv_if_eq (tgt := 19) hx hb zd_X_flow_4 (by decide) (fun h1 => ?_) (fun h1 => ?_)
  · skip
    have h1b := fb_b0 h1
    refine lv_iconst (v := (-1)) hx hb zd_X_flow_19 (by decide) ?_
    refine W.widen (k := 2) (n := 16) (by omega) (by omega) ?_
    exact W.iret (v := (-1)) hx hb hr (fun t ht hW => ⟨⟨(-1), (st, ad, LL), rfl, ⟨by simp only [cf_flowA, if_neg h1b], by simp only [cf_flow, if_neg h1b], by rw [(show cf_flC st fl u v q = fl from by simp only [cf_flC, if_neg h1b])]; exact hok, by rw [(show cf_flC st fl u v q = fl from by simp only [cf_flC, if_neg h1b])]; exact hL, rfl⟩, by rw [ht]; exact hP, va_K.moved hW.alike hK, hD⟩, hS.F ht⟩) hS.2.2 zd_X_flow_20
  · skip
    have h1b := fb_b1 h1
    refine lv_iload_n hx hb zd_X_flow_7 rfl (lv_at hl 2 rfl) ?_
    refine pw_Si (bytes := zb_X_isHost) (maxL := 1) (ret := (some .boolean)) (As := [.int v]) (rest := []) ⟨hx, hb, hml, hown, hT⟩ (c_X_isHost l D cA (fb_cC cA) ad LL st v) (cwS 1 hT (fb_gS zi_31 zi_32 zi_1 zc_X_isHost) rfl rfl rfl (by decide +kernel) ⟨Nat.le_of_ble_eq_true rfl, Nat.le_of_ble_eq_true rfl⟩) hK hP hD hS rfl hl.1 rfl (lv_room (Nat.le_of_ble_eq_true rfl)) zd_X_flow_8 ⟨Nat.zero_le _, Nat.zero_le _⟩ (fun rx sx H locs hp hP hD hS => ?_)
    obtain ⟨hr9, hs, hok9⟩ := hp
    rw [hr9]
    rw [hs] at hP hD
    refine lv_if_eq (tgt := 19) hx hb zd_X_flow_11 (by decide) (fun h2 => ?_) (fun h2 => ?_)
    · skip
      have h2b := fb_b0 h2
      refine lv_iconst (v := (-1)) hx hb zd_X_flow_19 (by decide) ?_
      refine W.widen (k := 2) (n := 16) (by omega) (by omega) ?_
      exact W.iret (v := (-1)) hx hb hr (fun t ht hW => ⟨⟨(-1), (st, ad, LL), rfl, ⟨by simp only [cf_flowA, if_pos h1b, if_neg h2b], by simp only [cf_flow, if_pos h1b, if_neg h2b], by rw [(show cf_flC st fl u v q = fl from by simp only [cf_flC, if_pos h1b, if_neg h2b])]; exact hok, by rw [(show cf_flC st fl u v q = fl from by simp only [cf_flC, if_pos h1b, if_neg h2b])]; exact hL, rfl⟩, by rw [ht]; exact hP, va_K.moved hW.alike hK, hD⟩, hS.F ht⟩) hS.2.2 zd_X_flow_20
    · skip
      have h2b := fb_b1 h2
      refine lv_iload_n hx hb zd_X_flow_14 rfl (lv_at hl 1 rfl) ?_
      refine lv_iload_n hx hb zd_X_flow_15 rfl (lv_at hl 2 rfl) ?_
      refine lv_icmp_ne (tgt := 21) hx hb zd_X_flow_16 (by decide) (fun h3 => ?_) (fun h3 => ?_)
      · skip
        refine lv_iload_n hx hb zd_X_flow_21 rfl (lv_at hl 3 rfl) ?_
        refine pw_Si (bytes := zb_X_isPriority) (maxL := 1) (ret := (some .boolean)) (As := [.int q]) (rest := []) ⟨hx, hb, hml, hown, hT⟩ (c_X_isPriority l D cA (fb_cC cA) ad LL st q) (cwS 1 hT (fb_gS zi_152 zi_153 zi_1 zc_X_isPriority) rfl rfl rfl (by decide +kernel) ⟨Nat.le_of_ble_eq_true rfl, Nat.le_of_ble_eq_true rfl⟩) hK hP hD hS rfl hl.1 rfl (lv_room (Nat.le_of_ble_eq_true rfl)) zd_X_flow_22 ⟨Nat.zero_le _, Nat.zero_le _⟩ (fun rx sx H locs hp hP hD hS => ?_)
        obtain ⟨hr9, hs, hok9⟩ := hp
        rw [hr9]
        rw [hs] at hP hD
        refine lv_if_eq (tgt := 37) hx hb zd_X_flow_25 (by decide) (fun h4 => ?_) (fun h4 => ?_)
        · skip
          have h4b := fb_b0 h4
          refine lv_iconst (v := (-1)) hx hb zd_X_flow_37 (by decide) ?_
          refine W.widen (k := 2) (n := 16) (by omega) (by omega) ?_
          exact W.iret (v := (-1)) hx hb hr (fun t ht hW => ⟨⟨(-1), (st, ad, LL), rfl, ⟨by simp only [cf_flowA, if_pos h1b, if_pos h2b, if_neg h3, if_neg h4b], by simp only [cf_flow, if_pos h1b, if_pos h2b, if_neg h3, if_neg h4b], by rw [(show cf_flC st fl u v q = fl from by simp only [cf_flC, if_pos h1b, if_pos h2b, if_neg h3, if_neg h4b])]; exact hok, by rw [(show cf_flC st fl u v q = fl from by simp only [cf_flC, if_pos h1b, if_pos h2b, if_neg h3, if_neg h4b])]; exact hL, rfl⟩, by rw [ht]; exact hP, va_K.moved hW.alike hK, hD⟩, hS.F ht⟩) hS.2.2 zd_X_flow_38
        · skip
          have h4b := fb_b1 h4
          refine lv_aload_n hx hb zd_X_flow_28 rfl (lv_at hl 0 rfl) ?_
          refine pw_get (C := "PausedFabric") (T := zT_X) (N := 11) hx hb hT zin_X hown hK hP (hL.2.1 0 (by decide)) rfl rfl 8 (by decide) (hT _ zi_122) (fun _ h9 => h9) rfl zd_X_flow_29 ?_
          refine lv_bipush (v := 12) hx hb zd_X_flow_32 (by decide) ?_
          refine lv_icmp_lt (tgt := 39) hx hb zd_X_flow_34 (by decide) (fun h5 => ?_) (fun h5 => ?_)
          · skip
            refine lv_aload_n hx hb zd_X_flow_39 rfl (lv_at hl 0 rfl) ?_
            refine pw_get (C := "PausedFabric") (T := zT_X) (N := 11) hx hb hT zin_X hown hK hP (hL.2.1 0 (by decide)) rfl rfl 8 (by decide) (hT _ zi_122) (fun _ h9 => h9) rfl zd_X_flow_40 ?_
            refine lv_istore (lv' := [(4, .int (st 4 0)), (0, .ref (ad 0 0)), (1, .int u), (2, .int v), (3, .int q)]) hx hb zd_X_flow_43 hl (by decide) rfl (fun ls hl => ?_)
            refine lv_aload_n hx hb zd_X_flow_45 rfl (lv_at hl 1 rfl) ?_
            refine pw_get (C := "PausedFabric") (T := zT_X) (N := 11) hx hb hT zin_X hown hK hP (hL.2.1 0 (by decide)) rfl rfl 6 (by decide) (hT _ zi_120) (fun _ h9 => h9) rfl zd_X_flow_46 ?_
            refine lv_iload hx hb zd_X_flow_49 (lv_at hl 0 rfl) ?_
            have hc4 : st 4 0 = nI fl := hok 4 0 rfl
            have hfl12 : fl < 12 := fb_lt12 hc4 hfl h5
            refine va_new (ci := 2) (fs := [.int 0, .null, .int 0, .int 0, .int 0, .int 0, .int 0, .int 0, .int 0, .int 0, .int 0, .int 0]) (C := "PausedFabric$Flow") (T := zT_F) (N := 12) hx hb hT zin_F zt_F ztok_F hown (hT _ zi_107) (hT _ zi_155) (hT _ zi_6) hK hP hD hS hA rfl (fun j hj => by rcases (show j = 0 ∨ j = 1 ∨ j = 2 ∨ j = 3 ∨ j = 4 ∨ j = 5 ∨ j = 6 ∨ j = 7 ∨ j = 8 ∨ j = 9 ∨ j = 10 ∨ j = 11 by omega) with rfl | rfl | rfl | rfl | rfl | rfl | rfl | rfl | rfl | rfl | rfl | rfl <;> rfl) (show 1 ≤ 2 by decide) (show 12 ≤ 16 by decide) zd_X_flow_51 (fun q51 H hP hD hS => ?_)
            refine W.widen (k := 1) (n := 12) (by omega) (by omega) ?_
            have hP : va_P D fb_cl ([(q51, .inr (2, [.int 0, .null, .int 0, .int 0, .int 0, .int 0, .int 0, .int 0, .int 0, .int 0, .int 0, .int 0]))] ++ fb_wl (fb_cC cA) ad st LL) H := fb_Psw hP
            have hD : va_D (fb_A ad LL s.heap.size) ([(q51, .inr (2, [.int 0, .null, .int 0, .int 0, .int 0, .int 0, .int 0, .int 0, .int 0, .int 0, .int 0, .int 0]))] ++ fb_wl (fb_cC cA) ad st LL) := fb_Dsw hD
            refine lv_dup hx hb zd_X_flow_54 rfl ?_
            refine lv_iload_n hx hb zd_X_flow_55 rfl (lv_at hl 4 rfl) ?_
            refine lv_aload_n hx hb zd_X_flow_56 rfl (lv_at hl 1 rfl) ?_
            refine lv_iload hx hb zd_X_flow_57 (lv_at hl 0 rfl) ?_
            refine lv_iload_n hx hb zd_X_flow_59 rfl (lv_at hl 2 rfl) ?_
            refine lv_iload_n hx hb zd_X_flow_60 rfl (lv_at hl 3 rfl) ?_
            have hFc : ∀ q, fb_A ad LL H.size q → fb_A ad LL s.heap.size q := fun q h => fb_A_le hS.1 h
            refine va_callq (va_runV (As := [.int (st 4 0), .int u, .int v]) (rest := [.int q, .ref q51, .ref q51, .int (st 4 0), .ref (ad 3 0)]) ⟨hx, hb, hml, hown, hT⟩ (c_X_routeOf l D cA ad LL fl fr st hL hok (st 4 0) u v H.size) (cwV 3 hT (fb_gV zi_156 zi_158 zs_X_routeOf zi_1 zc_X_routeOf) rfl rfl rfl (by decide +kernel) ⟨Nat.le_of_ble_eq_true rfl, Nat.le_of_ble_eq_true rfl⟩) ⟨fun a U g mk q => by obtain ⟨q0, ⟨q1, qP, qK, qD⟩, qA⟩ := q; exact ⟨q0, ⟨q1, qP, va_K.moved (u := U) (U := U.calling g mk a) (Vm.Alike.refl U.vm) qK, qD⟩, va_AO.moved (u := U) (U := U.calling g mk a) (Vm.Alike.refl U.vm) qA⟩, fb_recv hK (fb_Pr (a := [(q51, .inr (2, [.int 0, .null, .int 0, .int 0, .int 0, .int 0, .int 0, .int 0, .int 0, .int 0, .int 0, .int 0]))]) hP) (hL.2.1 0 (by decide)) rfl rfl, fun U hU hW => ⟨rfl, ⟨by rw [hU], by rw [hU]; exact fb_Pr (a := [(q51, .inr (2, [.int 0, .null, .int 0, .int 0, .int 0, .int 0, .int 0, .int 0, .int 0, .int 0, .int 0, .int 0]))]) hP, va_K.moved hW.alike hK, (fb_Dr (a := [(q51, .inr (2, [.int 0, .null, .int 0, .int 0, .int 0, .int 0, .int 0, .int 0, .int 0, .int 0, .int 0, .int 0]))]) hD).weaken (fun _ _ _ _ => trivial)⟩, va_AO.moved hW.alike hao⟩⟩ rfl rfl hl.1 rfl (lv_room (Nat.le_of_ble_eq_true rfl)) zd_X_flow_61 ⟨show 2 ≤ 2 by decide, show 16 ≤ 16 by decide⟩) hS (fun q _ h => hFc q h) hFc (fun r9 r61 t H1 locs ht hvm hq5 hB hsz9 hk9 hS => ?_)
            rw [hq5]
            obtain ⟨hP1, hK1, hD1⟩ := hB
            rw [ht] at hP1
            obtain ⟨hP, hD⟩ := fb_join (wr := [(q51, .inr (2, [.int 0, .null, .int 0, .int 0, .int 0, .int 0, .int 0, .int 0, .int 0, .int 0, .int 0, .int 0]))]) (wc := fb_wl (fb_cC cA) ad st LL) hP hD hFc fb_Bof hk9 hP1 hD1
            generalize H1 = H at hP hS ⊢
            refine W.widen (k := 2) (n := 16) (by omega) (by omega) ?_
            have hP : va_P D fb_cl ((fb_wl (fb_cC cA) ad st LL ++ [(r61, .inl (cA 1, cf_rtN u v, .inr (.inr (.inr (.inr (fun j => fb_ro (ad 5) (cf_rt st (st 4 0) u v j)))))))]) ++ [(q51, .inr (2, [.int 0, .null, .int 0, .int 0, .int 0, .int 0, .int 0, .int 0, .int 0, .int 0, .int 0, .int 0]))]) H := fb_Papp (fb_Psw (a := [(r61, .inl (cA 1, cf_rtN u v, .inr (.inr (.inr (.inr (fun j => fb_ro (ad 5) (cf_rt st (st 4 0) u v j)))))))]) (fb_Pr (a := [(q51, .inr (2, [.int 0, .null, .int 0, .int 0, .int 0, .int 0, .int 0, .int 0, .int 0, .int 0, .int 0, .int 0]))]) hP)) (fb_Pl (a := [(q51, .inr (2, [.int 0, .null, .int 0, .int 0, .int 0, .int 0, .int 0, .int 0, .int 0, .int 0, .int 0, .int 0]))]) hP)
            have hD : va_D (fb_A ad LL s.heap.size) ((fb_wl (fb_cC cA) ad st LL ++ [(r61, .inl (cA 1, cf_rtN u v, .inr (.inr (.inr (.inr (fun j => fb_ro (ad 5) (cf_rt st (st 4 0) u v j)))))))]) ++ [(q51, .inr (2, [.int 0, .null, .int 0, .int 0, .int 0, .int 0, .int 0, .int 0, .int 0, .int 0, .int 0, .int 0]))]) := fb_Dsw (fb_Dapp (fb_Dl (a := [(q51, .inr (2, [.int 0, .null, .int 0, .int 0, .int 0, .int 0, .int 0, .int 0, .int 0, .int 0, .int 0, .int 0]))]) hD) (fb_Dsw (a := [(r61, .inl (cA 1, cf_rtN u v, .inr (.inr (.inr (.inr (fun j => fb_ro (ad 5) (cf_rt st (st 4 0) u v j)))))))]) (fb_Dr (a := [(q51, .inr (2, [.int 0, .null, .int 0, .int 0, .int 0, .int 0, .int 0, .int 0, .int 0, .int 0, .int 0, .int 0]))]) hD)) (fun i j p9 q9 hi hj e9 => by
              have hj2 := List.mem_of_getElem? hj
              rw [List.mem_append] at hj2
              obtain ⟨j2, hj3⟩ := List.getElem?_of_mem (show q9 ∈ ((r61, .inl (cA 1, cf_rtN u v, .inr (.inr (.inr (.inr (fun j => fb_ro (ad 5) (cf_rt st (st 4 0) u v j))))))) :: fb_wl (fb_cC cA) ad st LL) from by rcases hj2 with h | h; exact List.mem_cons_of_mem _ h; exact List.mem_cons.mpr (Or.inl (by simpa using h)))
              exact fb_Dn hD hi hj3 e9))
            have hPc : va_P D fb_cl [(q51, .inr (2, [.int 0, .null, .int 0, .int 0, .int 0, .int 0, .int 0, .int 0, .int 0, .int 0, .int 0, .int 0]))] H := fb_Pr (a := (fb_wl (fb_cC cA) ad st LL ++ [(r61, .inl (cA 1, cf_rtN u v, .inr (.inr (.inr (.inr (fun j => fb_ro (ad 5) (cf_rt st (st 4 0) u v j)))))))])) hP
            have hDc : va_D (fb_A ad LL s.heap.size) [(q51, .inr (2, [.int 0, .null, .int 0, .int 0, .int 0, .int 0, .int 0, .int 0, .int 0, .int 0, .int 0, .int 0]))] := fb_Dr (a := (fb_wl (fb_cC cA) ad st LL ++ [(r61, .inl (cA 1, cf_rtN u v, .inr (.inr (.inr (.inr (fun j => fb_ro (ad 5) (cf_rt st (st 4 0) u v j)))))))])) hD
            have hFc : ∀ q, va_A [(q51, .inr (2, [.int 0, .null, .int 0, .int 0, .int 0, .int 0, .int 0, .int 0, .int 0, .int 0, .int 0, .int 0]))] H.size q → fb_A ad LL s.heap.size q := va_free hDc hS hA [0] rfl
            refine va_callv (va_runI (As := [.int q, .ref r61]) (rest := [.ref q51, .int (st 4 0), .ref (ad 3 0)]) ⟨hx, hb, hml, hown, hT⟩ (c_F_init l D cA q51 q r61 H.size) (cwI 2 hT (fb_gI zc_F_init) rfl rfl rfl (hT _ zi_6) (hT _ zi_170) (hT _ zi_171) rfl (by decide +kernel) ⟨Nat.le_of_ble_eq_true rfl, Nat.le_of_ble_eq_true rfl⟩) ⟨fun a U g mk q => by obtain ⟨q0, q1, qP, qK, qD⟩ := q; exact ⟨q0, q1, qP, va_K.moved (u := U) (U := U.calling g mk a) (Vm.Alike.refl U.vm) qK, qD⟩, fun U hU hW => ⟨rfl, by rw [hU], by rw [hU]; exact hPc, va_K.moved hW.alike hK, hDc.weaken (fun _ _ _ _ => trivial)⟩⟩ rfl rfl hl.1 rfl (lv_room (Nat.le_of_ble_eq_true rfl)) zd_X_flow_64 ⟨show 2 ≤ 2 by decide, show 16 ≤ 16 by decide⟩) hS (fun q _ h => hFc q h) hFc (fun u9 t H1 locs ht hvm hq5 hB hsz9 hk9 hS => ?_)
            obtain ⟨hP1, hK1, hD1⟩ := hB
            rw [ht] at hP1
            obtain ⟨hP, hD⟩ := fb_join (wr := (fb_wl (fb_cC cA) ad st LL ++ [(r61, .inl (cA 1, cf_rtN u v, .inr (.inr (.inr (.inr (fun j => fb_ro (ad 5) (cf_rt st (st 4 0) u v j)))))))])) (wc := [(q51, .inr (2, [.int 0, .null, .int 0, .int 0, .int 0, .int 0, .int 0, .int 0, .int 0, .int 0, .int 0, .int 0]))]) hP hD hFc (fun q h => h) hk9 hP1 hD1
            generalize H1 = H at hP hS ⊢
            rw [List.append_assoc] at hP hD
            have hP : va_P D fb_cl (fb_wl (fb_cC cA) ad st LL ++ [(r61, .inl (cA 1, cf_rtN u v, .inr (.inr (.inr (.inr (fun j => fb_ro (ad 5) (cf_rt st (st 4 0) u v j))))))), (q51, .inr (2, [.int q, .ref r61, .int 64, .int 64, .int 64, .int 0, .int 0, .int 0, .int 0, .int 0, .int 0, .int (-1)]))]) H := hP
            have hD : va_D (fb_A ad LL s.heap.size) (fb_wl (fb_cC cA) ad st LL ++ [(r61, .inl (cA 1, cf_rtN u v, .inr (.inr (.inr (.inr (fun j => fb_ro (ad 5) (cf_rt st (st 4 0) u v j))))))), (q51, .inr (2, [.int q, .ref r61, .int 64, .int 64, .int 64, .int 0, .int 0, .int 0, .int 0, .int 0, .int 0, .int (-1)]))]) := hD
            rw [← fb_wl_newF (pr := q) (rt := cf_rt st (st 4 0) u v) (N := cf_rtN u v) hok hL (by rcases cf_rtN24 u v with h | h <;> omega) (cf_rt4 (st 4 0) u v)] at hP hD
            have hL1 := fb_lvC_newF hL hfl12
            obtain ⟨ad1, ead⟩ : ∃ a, a = fb_ad (fb_ad ad 12 fl r61) 6 fl q51 := ⟨_, rfl⟩
            obtain ⟨LL1, eLL⟩ : ∃ a, a = LL ++ [(12, fl), (6, fl)] := ⟨_, rfl⟩
            obtain ⟨s1, es1⟩ : ∃ a, a = cf_newF fl q (nI (cf_rtN u v)) (cf_rt st (st 4 0) u v 0) (cf_rt st (st 4 0) u v 1) (cf_rt st (st 4 0) u v 2) (cf_rt st (st 4 0) u v 3) st := ⟨_, rfl⟩
            rw [← ead, ← eLL, ← es1] at hP hD
            rw [← eLL] at hL1
            have a00 : ad1 0 0 = ad 0 0 := by rw [ead, fb_ad_ne (by omega)]; exact fb_ad_ne (by omega)
            have a30 : ad1 3 0 = ad 3 0 := by rw [ead, fb_ad_ne (by omega)]; exact fb_ad_ne (by omega)
            have a6 : ad1 6 fl = q51 := by rw [ead]; exact fb_ad_eq
            rw [← a6, ← a30]
            rw [← a00] at hl
            refine pw_aast (k := 3) (i := 0) (k2 := 6) (i2 := fl) (z := st 4 0) (r := ("PausedFabric$Flow", zT_F, 12)) hx hb hK hP hD hS (hL1.2.1 3 (by decide)) 2 rfl rfl (hL1.2.2.2.2.1 fl (by omega)).1 rfl rfl (fb_eqin hc4 hfl12 (by decide)) (fb_up s1 8 fl (nI fl)) (by rw [fb_eqn hc4 (by omega)]; exact pq_C8 s1 (by omega)) (fb_hoC hL1 _ 8 _ _ ow_8 (ix_8 _)) zd_X_flow_67 (fun H locs hP hD hS => ?_)
            obtain ⟨s2, es2⟩ : ∃ z, z = fb_up s1 8 fl (nI fl) := ⟨_, rfl⟩
            rw [← es2] at hP hD
            refine lv_aload_n hx hb zd_X_flow_68 rfl (lv_at hl 1 rfl) ?_
            refine lv_dup hx hb zd_X_flow_69 rfl ?_
            refine pw_get (C := "PausedFabric") (T := zT_X) (N := 11) hx hb hT zin_X hown hK hP (hL1.2.1 0 (by decide)) rfl rfl 8 (by decide) (hT _ zi_122) (fun _ h9 => h9) rfl zd_X_flow_70 ?_
            refine lv_iconst (v := 1) hx hb zd_X_flow_73 (by decide) ?_
            refine lv_iadd hx hb zd_X_flow_74 ?_
            refine pw_put (C := "PausedFabric") (T := zT_X) (N := 11) (ty := .int) (v := .int (s2 4 0 + 1)) hx hb hT zin_X zt_X ztok_X znm_X hown hK hP hD hS (hL1.2.1 0 (by decide)) rfl rfl 8 (by decide) (hT _ zi_122) (fun _ h9 => h9) rfl (by decide +kernel) rfl rfl (Nat.le_of_ble_eq_true rfl) (fb_up s2 4 0 (s2 4 0 + 1)) (ps_C4 _ _) (fb_hoC hL1 _ 4 _ _ ow_4 (ix_4 _)) zd_X_flow_75 (fun H locs hP hD hS => ?_)
            obtain ⟨s3, es3⟩ : ∃ z, z = fb_up s2 4 0 (s2 4 0 + 1) := ⟨_, rfl⟩
            rw [← es3] at hP hD
            have ok3 : fb_okC (fl + 1) fr s3 := by rw [es3, es2, es1]; exact fb_okC_newF hok (fb_prio01 h4b) (cf_rtN24 u v) (rg_rt _ u v 0) (rg_rt _ u v 1) (rg_rt _ u v 2) (rg_rt _ u v 3)
            refine lv_iload hx hb zd_X_flow_78 (lv_at hl 0 rfl) ?_
            have e9 : cf_flC st fl u v q = fl + 1 := by simp only [cf_flC, if_pos h1b, if_pos h2b, if_neg h3, if_pos h4b, if_pos h5]
            exact W.iret (v := st 4 0) hx hb hr (fun t ht hW => ⟨⟨st 4 0, (s3, ad1, LL1), rfl, ⟨by simp only [cf_flowA, if_pos h1b, if_pos h2b, if_neg h3, if_pos h4b, if_pos h5], by rw [es3, es2, es1]; simp only [cf_flow, cf_flowU, if_pos h1b, if_pos h2b, if_neg h3, if_pos h4b, if_pos h5], by rw [e9]; exact ok3, by rw [e9]; exact hL1, a00⟩, by rw [ht]; exact hP, va_K.moved hW.alike hK, hD⟩, hS.F ht⟩) hS.2.2 zd_X_flow_80
          · skip
            refine lv_iconst (v := (-1)) hx hb zd_X_flow_37 (by decide) ?_
            refine W.widen (k := 2) (n := 16) (by omega) (by omega) ?_
            exact W.iret (v := (-1)) hx hb hr (fun t ht hW => ⟨⟨(-1), (st, ad, LL), rfl, ⟨by simp only [cf_flowA, if_pos h1b, if_pos h2b, if_neg h3, if_pos h4b, if_neg h5], by simp only [cf_flow, if_pos h1b, if_pos h2b, if_neg h3, if_pos h4b, if_neg h5], by rw [(show cf_flC st fl u v q = fl from by simp only [cf_flC, if_pos h1b, if_pos h2b, if_neg h3, if_pos h4b, if_neg h5])]; exact hok, by rw [(show cf_flC st fl u v q = fl from by simp only [cf_flC, if_pos h1b, if_pos h2b, if_neg h3, if_pos h4b, if_neg h5])]; exact hL, rfl⟩, by rw [ht]; exact hP, va_K.moved hW.alike hK, hD⟩, hS.F ht⟩) hS.2.2 zd_X_flow_38
      · skip
        refine lv_iconst (v := (-1)) hx hb zd_X_flow_19 (by decide) ?_
        refine W.widen (k := 2) (n := 16) (by omega) (by omega) ?_
        exact W.iret (v := (-1)) hx hb hr (fun t ht hW => ⟨⟨(-1), (st, ad, LL), rfl, ⟨by simp only [cf_flowA, if_pos h1b, if_pos h2b, if_pos h3], by simp only [cf_flow, if_pos h1b, if_pos h2b, if_pos h3], by rw [(show cf_flC st fl u v q = fl from by simp only [cf_flC, if_pos h1b, if_pos h2b, if_pos h3])]; exact hok, by rw [(show cf_flC st fl u v q = fl from by simp only [cf_flC, if_pos h1b, if_pos h2b, if_pos h3])]; exact hL, rfl⟩, by rw [ht]; exact hP, va_K.moved hW.alike hK, hD⟩, hS.F ht⟩) hS.2.2 zd_X_flow_20
