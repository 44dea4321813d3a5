/-! routeOf (by program) -/
set_option maxHeartbeats 4000000 in
set_option maxRecDepth 100000 in
theorem c_J_bitCount (l : Launch) (D : va_G) (cA : Nat → ClassId) (cn : fb_C) (ad : Nat → Nat → Nat) (LL : fb_L) (st : fb_S) (n : Int32) : fb_Mi l zy_J_bitCount (zw_J_bitCount :: lw_gd) { frames := 0, cells := 0, slots := 0, locals := 0 } cn D fb_cl (fb_tys cA) ad LL st [.int n] (fun rr st1 => rr = cf_bits n ∧ st1 = st ∧ True) := by
  intro sz
  refine Met.ofW (cc := zb_J_bitCount) (maxL := 1) (ret := (some .int)) (by decide) rfl ?_
  intro p e s m args below meth c s₁ B hml hv
  obtain ⟨rfl, hsz, hP, hK, hD0⟩ := hv
  have hx := B.exec
  have hb := B.bytes
  have hr := B.returns
  have hts := atoms_spec (ws := zw_J_bitCount :: lw_gd) B.pre
  have hT : ∀ w ∈ lw_gd, w.before _ s = true := fun w h => hts w (List.mem_cons_of_mem _ h)
  have hown : s.vm.findClass "java/lang/Integer" = some m.cls := findClass_of_methodNamed B.named
  have hlocks := B.notSynchronized
  subst hsz
  have hD := fb_D_self (sz := s.heap.size) hD0
  have hS : va_S (fb_A ad LL s.heap.size) s.heap s.heap [] := va_S.rf
  have hl := lv_entry ([.int n]) (n := 1) (Nat.le_of_ble_eq_true rfl)
  rw [lg_entry_eq]
  generalize (lg_sl ([.int n]) ++ List.replicate (1 - (lg_sl ([.int n])).length) Slot.unset).toArray = ls at hl ⊢
  have hl : lv_has ls 1 [(0, .int n)] := hl
  refine lv_iload_n hx hb zd_J_bitCount_0 rfl (lv_at hl 0 rfl) ?_
  refine lv_iload_n hx hb zd_J_bitCount_1 rfl (lv_at hl 0 rfl) ?_
  refine lv_iconst (v := 1) hx hb zd_J_bitCount_2 (by decide) ?_
  refine lv_iushr hx hb zd_J_bitCount_3 rfl ?_
  refine lv_ldcw (own := "java/lang/Integer") hx hb hown (hT _ zi_167) zd_J_bitCount_4 ?_
  refine lv_iand hx hb zd_J_bitCount_7 ?_
  refine lv_isub hx hb zd_J_bitCount_8 ?_
  refine lv_istore_n (lv' := [(0, .int (n - (((n.toUInt32 >>> ((1 : Int32).toUInt32 &&& Int32.toUInt32 31)).toInt32) &&& 1431655765)))]) hx hb zd_J_bitCount_9 rfl hl (by decide) rfl (fun ls hl => ?_)
  refine lv_iload_n hx hb zd_J_bitCount_10 rfl (lv_at hl 0 rfl) ?_
  refine lv_ldcw (own := "java/lang/Integer") hx hb hown (hT _ zi_168) zd_J_bitCount_11 ?_
  refine lv_iand hx hb zd_J_bitCount_14 ?_
  refine lv_iload_n hx hb zd_J_bitCount_15 rfl (lv_at hl 0 rfl) ?_
  refine lv_iconst (v := 2) hx hb zd_J_bitCount_16 (by decide) ?_
  refine lv_iushr hx hb zd_J_bitCount_17 rfl ?_
  refine lv_ldcw (own := "java/lang/Integer") hx hb hown (hT _ zi_168) zd_J_bitCount_18 ?_
  refine lv_iand hx hb zd_J_bitCount_21 ?_
  refine lv_iadd hx hb zd_J_bitCount_22 ?_
  refine lv_istore_n (lv' := [(0, .int (((n - (((n.toUInt32 >>> ((1 : Int32).toUInt32 &&& Int32.toUInt32 31)).toInt32) &&& 1431655765)) &&& 858993459) + ((((n - (((n.toUInt32 >>> ((1 : Int32).toUInt32 &&& Int32.toUInt32 31)).toInt32) &&& 1431655765)).toUInt32 >>> ((2 : Int32).toUInt32 &&& Int32.toUInt32 31)).toInt32) &&& 858993459)))]) hx hb zd_J_bitCount_23 rfl hl (by decide) rfl (fun ls hl => ?_)
  refine lv_iload_n hx hb zd_J_bitCount_24 rfl (lv_at hl 0 rfl) ?_
  refine lv_iload_n hx hb zd_J_bitCount_25 rfl (lv_at hl 0 rfl) ?_
  refine lv_iconst (v := 4) hx hb zd_J_bitCount_26 (by decide) ?_
  refine lv_iushr hx hb zd_J_bitCount_27 rfl ?_
  refine lv_iadd hx hb zd_J_bitCount_28 ?_
  refine lv_ldcw (own := "java/lang/Integer") hx hb hown (hT _ zi_169) zd_J_bitCount_29 ?_
  refine lv_iand hx hb zd_J_bitCount_32 ?_
  refine lv_istore_n (lv' := [(0, .int (((((n - (((n.toUInt32 >>> ((1 : Int32).toUInt32 &&& Int32.toUInt32 31)).toInt32) &&& 1431655765)) &&& 858993459) + ((((n - (((n.toUInt32 >>> ((1 : Int32).toUInt32 &&& Int32.toUInt32 31)).toInt32) &&& 1431655765)).toUInt32 >>> ((2 : Int32).toUInt32 &&& Int32.toUInt32 31)).toInt32) &&& 858993459)) + (((((n - (((n.toUInt32 >>> ((1 : Int32).toUInt32 &&& Int32.toUInt32 31)).toInt32) &&& 1431655765)) &&& 858993459) + ((((n - (((n.toUInt32 >>> ((1 : Int32).toUInt32 &&& Int32.toUInt32 31)).toInt32) &&& 1431655765)).toUInt32 >>> ((2 : Int32).toUInt32 &&& Int32.toUInt32 31)).toInt32) &&& 858993459)).toUInt32 >>> ((4 : Int32).toUInt32 &&& Int32.toUInt32 31)).toInt32)) &&& 252645135))]) hx hb zd_J_bitCount_33 rfl hl (by decide) rfl (fun ls hl => ?_)
  refine lv_iload_n hx hb zd_J_bitCount_34 rfl (lv_at hl 0 rfl) ?_
  refine lv_iload_n hx hb zd_J_bitCount_35 rfl (lv_at hl 0 rfl) ?_
  refine lv_bipush (v := 8) hx hb zd_J_bitCount_36 (by decide) ?_
  refine lv_iushr hx hb zd_J_bitCount_38 rfl ?_
  refine lv_iadd hx hb zd_J_bitCount_39 ?_
  refine lv_istore_n (lv' := [(0, .int ((((((n - (((n.toUInt32 >>> ((1 : Int32).toUInt32 &&& Int32.toUInt32 31)).toInt32) &&& 1431655765)) &&& 858993459) + ((((n - (((n.toUInt32 >>> ((1 : Int32).toUInt32 &&& Int32.toUInt32 31)).toInt32) &&& 1431655765)).toUInt32 >>> ((2 : Int32).toUInt32 &&& Int32.toUInt32 31)).toInt32) &&& 858993459)) + (((((n - (((n.toUInt32 >>> ((1 : Int32).toUInt32 &&& Int32.toUInt32 31)).toInt32) &&& 1431655765)) &&& 858993459) + ((((n - (((n.toUInt32 >>> ((1 : Int32).toUInt32 &&& Int32.toUInt32 31)).toInt32) &&& 1431655765)).toUInt32 >>> ((2 : Int32).toUInt32 &&& Int32.toUInt32 31)).toInt32) &&& 858993459)).toUInt32 >>> ((4 : Int32).toUInt32 &&& Int32.toUInt32 31)).toInt32)) &&& 252645135) + (((((((n - (((n.toUInt32 >>> ((1 : Int32).toUInt32 &&& Int32.toUInt32 31)).toInt32) &&& 1431655765)) &&& 858993459) + ((((n - (((n.toUInt32 >>> ((1 : Int32).toUInt32 &&& Int32.toUInt32 31)).toInt32) &&& 1431655765)).toUInt32 >>> ((2 : Int32).toUInt32 &&& Int32.toUInt32 31)).toInt32) &&& 858993459)) + (((((n - (((n.toUInt32 >>> ((1 : Int32).toUInt32 &&& Int32.toUInt32 31)).toInt32) &&& 1431655765)) &&& 858993459) + ((((n - (((n.toUInt32 >>> ((1 : Int32).toUInt32 &&& Int32.toUInt32 31)).toInt32) &&& 1431655765)).toUInt32 >>> ((2 : Int32).toUInt32 &&& Int32.toUInt32 31)).toInt32) &&& 858993459)).toUInt32 >>> ((4 : Int32).toUInt32 &&& Int32.toUInt32 31)).toInt32)) &&& 252645135).toUInt32 >>> ((8 : Int32).toUInt32 &&& Int32.toUInt32 31)).toInt32)))]) hx hb zd_J_bitCount_40 rfl hl (by decide) rfl (fun ls hl => ?_)
  refine lv_iload_n hx hb zd_J_bitCount_41 rfl (lv_at hl 0 rfl) ?_
  refine lv_iload_n hx hb zd_J_bitCount_42 rfl (lv_at hl 0 rfl) ?_
  refine lv_bipush (v := 16) hx hb zd_J_bitCount_43 (by decide) ?_
  refine lv_iushr hx hb zd_J_bitCount_45 rfl ?_
  refine lv_iadd hx hb zd_J_bitCount_46 ?_
  refine lv_istore_n (lv' := [(0, .int (((((((n - (((n.toUInt32 >>> ((1 : Int32).toUInt32 &&& Int32.toUInt32 31)).toInt32) &&& 1431655765)) &&& 858993459) + ((((n - (((n.toUInt32 >>> ((1 : Int32).toUInt32 &&& Int32.toUInt32 31)).toInt32) &&& 1431655765)).toUInt32 >>> ((2 : Int32).toUInt32 &&& Int32.toUInt32 31)).toInt32) &&& 858993459)) + (((((n - (((n.toUInt32 >>> ((1 : Int32).toUInt32 &&& Int32.toUInt32 31)).toInt32) &&& 1431655765)) &&& 858993459) + ((((n - (((n.toUInt32 >>> ((1 : Int32).toUInt32 &&& Int32.toUInt32 31)).toInt32) &&& 1431655765)).toUInt32 >>> ((2 : Int32).toUInt32 &&& Int32.toUInt32 31)).toInt32) &&& 858993459)).toUInt32 >>> ((4 : Int32).toUInt32 &&& Int32.toUInt32 31)).toInt32)) &&& 252645135) + (((((((n - (((n.toUInt32 >>> ((1 : Int32).toUInt32 &&& Int32.toUInt32 31)).toInt32) &&& 1431655765)) &&& 858993459) + ((((n - (((n.toUInt32 >>> ((1 : Int32).toUInt32 &&& Int32.toUInt32 31)).toInt32) &&& 1431655765)).toUInt32 >>> ((2 : Int32).toUInt32 &&& Int32.toUInt32 31)).toInt32) &&& 858993459)) + (((((n - (((n.toUInt32 >>> ((1 : Int32).toUInt32 &&& Int32.toUInt32 31)).toInt32) &&& 1431655765)) &&& 858993459) + ((((n - (((n.toUInt32 >>> ((1 : Int32).toUInt32 &&& Int32.toUInt32 31)).toInt32) &&& 1431655765)).toUInt32 >>> ((2 : Int32).toUInt32 &&& Int32.toUInt32 31)).toInt32) &&& 858993459)).toUInt32 >>> ((4 : Int32).toUInt32 &&& Int32.toUInt32 31)).toInt32)) &&& 252645135).toUInt32 >>> ((8 : Int32).toUInt32 &&& Int32.toUInt32 31)).toInt32)) + ((((((((n - (((n.toUInt32 >>> ((1 : Int32).toUInt32 &&& Int32.toUInt32 31)).toInt32) &&& 1431655765)) &&& 858993459) + ((((n - (((n.toUInt32 >>> ((1 : Int32).toUInt32 &&& Int32.toUInt32 31)).toInt32) &&& 1431655765)).toUInt32 >>> ((2 : Int32).toUInt32 &&& Int32.toUInt32 31)).toInt32) &&& 858993459)) + (((((n - (((n.toUInt32 >>> ((1 : Int32).toUInt32 &&& Int32.toUInt32 31)).toInt32) &&& 1431655765)) &&& 858993459) + ((((n - (((n.toUInt32 >>> ((1 : Int32).toUInt32 &&& Int32.toUInt32 31)).toInt32) &&& 1431655765)).toUInt32 >>> ((2 : Int32).toUInt32 &&& Int32.toUInt32 31)).toInt32) &&& 858993459)).toUInt32 >>> ((4 : Int32).toUInt32 &&& Int32.toUInt32 31)).toInt32)) &&& 252645135) + (((((((n - (((n.toUInt32 >>> ((1 : Int32).toUInt32 &&& Int32.toUInt32 31)).toInt32) &&& 1431655765)) &&& 858993459) + ((((n - (((n.toUInt32 >>> ((1 : Int32).toUInt32 &&& Int32.toUInt32 31)).toInt32) &&& 1431655765)).toUInt32 >>> ((2 : Int32).toUInt32 &&& Int32.toUInt32 31)).toInt32) &&& 858993459)) + (((((n - (((n.toUInt32 >>> ((1 : Int32).toUInt32 &&& Int32.toUInt32 31)).toInt32) &&& 1431655765)) &&& 858993459) + ((((n - (((n.toUInt32 >>> ((1 : Int32).toUInt32 &&& Int32.toUInt32 31)).toInt32) &&& 1431655765)).toUInt32 >>> ((2 : Int32).toUInt32 &&& Int32.toUInt32 31)).toInt32) &&& 858993459)).toUInt32 >>> ((4 : Int32).toUInt32 &&& Int32.toUInt32 31)).toInt32)) &&& 252645135).toUInt32 >>> ((8 : Int32).toUInt32 &&& Int32.toUInt32 31)).toInt32)).toUInt32 >>> ((16 : Int32).toUInt32 &&& Int32.toUInt32 31)).toInt32)))]) hx hb zd_J_bitCount_47 rfl hl (by decide) rfl (fun ls hl => ?_)
  refine lv_iload_n hx hb zd_J_bitCount_48 rfl (lv_at hl 0 rfl) ?_
  refine lv_bipush (v := 63) hx hb zd_J_bitCount_49 (by decide) ?_
  refine lv_iand hx hb zd_J_bitCount_51 ?_
  exact W.iret (v := (((((((n - (((n.toUInt32 >>> ((1 : Int32).toUInt32 &&& Int32.toUInt32 31)).toInt32) &&& 1431655765)) &&& 858993459) + ((((n - (((n.toUInt32 >>> ((1 : Int32).toUInt32 &&& Int32.toUInt32 31)).toInt32) &&& 1431655765)).toUInt32 >>> ((2 : Int32).toUInt32 &&& Int32.toUInt32 31)).toInt32) &&& 858993459)) + (((((n - (((n.toUInt32 >>> ((1 : Int32).toUInt32 &&& Int32.toUInt32 31)).toInt32) &&& 1431655765)) &&& 858993459) + ((((n - (((n.toUInt32 >>> ((1 : Int32).toUInt32 &&& Int32.toUInt32 31)).toInt32) &&& 1431655765)).toUInt32 >>> ((2 : Int32).toUInt32 &&& Int32.toUInt32 31)).toInt32) &&& 858993459)).toUInt32 >>> ((4 : Int32).toUInt32 &&& Int32.toUInt32 31)).toInt32)) &&& 252645135) + (((((((n - (((n.toUInt32 >>> ((1 : Int32).toUInt32 &&& Int32.toUInt32 31)).toInt32) &&& 1431655765)) &&& 858993459) + ((((n - (((n.toUInt32 >>> ((1 : Int32).toUInt32 &&& Int32.toUInt32 31)).toInt32) &&& 1431655765)).toUInt32 >>> ((2 : Int32).toUInt32 &&& Int32.toUInt32 31)).toInt32) &&& 858993459)) + (((((n - (((n.toUInt32 >>> ((1 : Int32).toUInt32 &&& Int32.toUInt32 31)).toInt32) &&& 1431655765)) &&& 858993459) + ((((n - (((n.toUInt32 >>> ((1 : Int32).toUInt32 &&& Int32.toUInt32 31)).toInt32) &&& 1431655765)).toUInt32 >>> ((2 : Int32).toUInt32 &&& Int32.toUInt32 31)).toInt32) &&& 858993459)).toUInt32 >>> ((4 : Int32).toUInt32 &&& Int32.toUInt32 31)).toInt32)) &&& 252645135).toUInt32 >>> ((8 : Int32).toUInt32 &&& Int32.toUInt32 31)).toInt32)) + ((((((((n - (((n.toUInt32 >>> ((1 : Int32).toUInt32 &&& Int32.toUInt32 31)).toInt32) &&& 1431655765)) &&& 858993459) + ((((n - (((n.toUInt32 >>> ((1 : Int32).toUInt32 &&& Int32.toUInt32 31)).toInt32) &&& 1431655765)).toUInt32 >>> ((2 : Int32).toUInt32 &&& Int32.toUInt32 31)).toInt32) &&& 858993459)) + (((((n - (((n.toUInt32 >>> ((1 : Int32).toUInt32 &&& Int32.toUInt32 31)).toInt32) &&& 1431655765)) &&& 858993459) + ((((n - (((n.toUInt32 >>> ((1 : Int32).toUInt32 &&& Int32.toUInt32 31)).toInt32) &&& 1431655765)).toUInt32 >>> ((2 : Int32).toUInt32 &&& Int32.toUInt32 31)).toInt32) &&& 858993459)).toUInt32 >>> ((4 : Int32).toUInt32 &&& Int32.toUInt32 31)).toInt32)) &&& 252645135) + (((((((n - (((n.toUInt32 >>> ((1 : Int32).toUInt32 &&& Int32.toUInt32 31)).toInt32) &&& 1431655765)) &&& 858993459) + ((((n - (((n.toUInt32 >>> ((1 : Int32).toUInt32 &&& Int32.toUInt32 31)).toInt32) &&& 1431655765)).toUInt32 >>> ((2 : Int32).toUInt32 &&& Int32.toUInt32 31)).toInt32) &&& 858993459)) + (((((n - (((n.toUInt32 >>> ((1 : Int32).toUInt32 &&& Int32.toUInt32 31)).toInt32) &&& 1431655765)) &&& 858993459) + ((((n - (((n.toUInt32 >>> ((1 : Int32).toUInt32 &&& Int32.toUInt32 31)).toInt32) &&& 1431655765)).toUInt32 >>> ((2 : Int32).toUInt32 &&& Int32.toUInt32 31)).toInt32) &&& 858993459)).toUInt32 >>> ((4 : Int32).toUInt32 &&& Int32.toUInt32 31)).toInt32)) &&& 252645135).toUInt32 >>> ((8 : Int32).toUInt32 &&& Int32.toUInt32 31)).toInt32)).toUInt32 >>> ((16 : Int32).toUInt32 &&& Int32.toUInt32 31)).toInt32)) &&& 63) hx hb hr (fun t ht hW => ⟨⟨(((((((n - (((n.toUInt32 >>> ((1 : Int32).toUInt32 &&& Int32.toUInt32 31)).toInt32) &&& 1431655765)) &&& 858993459) + ((((n - (((n.toUInt32 >>> ((1 : Int32).toUInt32 &&& Int32.toUInt32 31)).toInt32) &&& 1431655765)).toUInt32 >>> ((2 : Int32).toUInt32 &&& Int32.toUInt32 31)).toInt32) &&& 858993459)) + (((((n - (((n.toUInt32 >>> ((1 : Int32).toUInt32 &&& Int32.toUInt32 31)).toInt32) &&& 1431655765)) &&& 858993459) + ((((n - (((n.toUInt32 >>> ((1 : Int32).toUInt32 &&& Int32.toUInt32 31)).toInt32) &&& 1431655765)).toUInt32 >>> ((2 : Int32).toUInt32 &&& Int32.toUInt32 31)).toInt32) &&& 858993459)).toUInt32 >>> ((4 : Int32).toUInt32 &&& Int32.toUInt32 31)).toInt32)) &&& 252645135) + (((((((n - (((n.toUInt32 >>> ((1 : Int32).toUInt32 &&& Int32.toUInt32 31)).toInt32) &&& 1431655765)) &&& 858993459) + ((((n - (((n.toUInt32 >>> ((1 : Int32).toUInt32 &&& Int32.toUInt32 31)).toInt32) &&& 1431655765)).toUInt32 >>> ((2 : Int32).toUInt32 &&& Int32.toUInt32 31)).toInt32) &&& 858993459)) + (((((n - (((n.toUInt32 >>> ((1 : Int32).toUInt32 &&& Int32.toUInt32 31)).toInt32) &&& 1431655765)) &&& 858993459) + ((((n - (((n.toUInt32 >>> ((1 : Int32).toUInt32 &&& Int32.toUInt32 31)).toInt32) &&& 1431655765)).toUInt32 >>> ((2 : Int32).toUInt32 &&& Int32.toUInt32 31)).toInt32) &&& 858993459)).toUInt32 >>> ((4 : Int32).toUInt32 &&& Int32.toUInt32 31)).toInt32)) &&& 252645135).toUInt32 >>> ((8 : Int32).toUInt32 &&& Int32.toUInt32 31)).toInt32)) + ((((((((n - (((n.toUInt32 >>> ((1 : Int32).toUInt32 &&& Int32.toUInt32 31)).toInt32) &&& 1431655765)) &&& 858993459) + ((((n - (((n.toUInt32 >>> ((1 : Int32).toUInt32 &&& Int32.toUInt32 31)).toInt32) &&& 1431655765)).toUInt32 >>> ((2 : Int32).toUInt32 &&& Int32.toUInt32 31)).toInt32) &&& 858993459)) + (((((n - (((n.toUInt32 >>> ((1 : Int32).toUInt32 &&& Int32.toUInt32 31)).toInt32) &&& 1431655765)) &&& 858993459) + ((((n - (((n.toUInt32 >>> ((1 : Int32).toUInt32 &&& Int32.toUInt32 31)).toInt32) &&& 1431655765)).toUInt32 >>> ((2 : Int32).toUInt32 &&& Int32.toUInt32 31)).toInt32) &&& 858993459)).toUInt32 >>> ((4 : Int32).toUInt32 &&& Int32.toUInt32 31)).toInt32)) &&& 252645135) + (((((((n - (((n.toUInt32 >>> ((1 : Int32).toUInt32 &&& Int32.toUInt32 31)).toInt32) &&& 1431655765)) &&& 858993459) + ((((n - (((n.toUInt32 >>> ((1 : Int32).toUInt32 &&& Int32.toUInt32 31)).toInt32) &&& 1431655765)).toUInt32 >>> ((2 : Int32).toUInt32 &&& Int32.toUInt32 31)).toInt32) &&& 858993459)) + (((((n - (((n.toUInt32 >>> ((1 : Int32).toUInt32 &&& Int32.toUInt32 31)).toInt32) &&& 1431655765)) &&& 858993459) + ((((n - (((n.toUInt32 >>> ((1 : Int32).toUInt32 &&& Int32.toUInt32 31)).toInt32) &&& 1431655765)).toUInt32 >>> ((2 : Int32).toUInt32 &&& Int32.toUInt32 31)).toInt32) &&& 858993459)).toUInt32 >>> ((4 : Int32).toUInt32 &&& Int32.toUInt32 31)).toInt32)) &&& 252645135).toUInt32 >>> ((8 : Int32).toUInt32 &&& Int32.toUInt32 31)).toInt32)).toUInt32 >>> ((16 : Int32).toUInt32 &&& Int32.toUInt32 31)).toInt32)) &&& 63, st, rfl, ⟨(by simp only [cf_bits, cf_b1, cf_b2, cf_b3, cf_b4, cf_b5, fb_b_t, fb_b_f]), rfl, trivial⟩, by rw [ht]; exact hP, va_K.moved hW.alike hK, hD⟩, hS.F ht⟩) hS.2.2 zd_J_bitCount_52

set_option maxHeartbeats 4000000 in
set_option maxRecDepth 100000 in
theorem c_X_routeOf (l : Launch) (D : va_G) (cA : Nat → ClassId) (ad : Nat → Nat → Nat) (LL : fb_L) (fl fr : Nat) (st : fb_S) (hL : fb_lvC LL fl fr) (hok : fb_okC fl fr st) (num u v : Int32) (sz : Nat) : Met l zy_X_routeOf (zw_X_routeOf :: lw_gd) { frames := 1, cells := 1, slots := 4, locals := 26 } (va_Pc [.ref (ad 0 0), .int num, .int u, .int v] (fun U => fb_Pre (fb_cC cA) D fb_cl (fb_tys cA) ad LL st sz U ∧ va_AO "PausedFabric$Port" U)) (va_Qq (fun r (q : Nat) => r = some q) (fun q t => va_P D fb_cl ((q, .inl (cA 1, cf_rtN u v, .inr (.inr (.inr (.inr (fun j => fb_ro (ad 5) (cf_rt st num u v j))))))) :: fb_wl (fb_cC cA) ad st LL) t.heap ∧ va_K D fb_cl (fb_tys cA) t ∧ va_D (fb_A ad LL sz) ((q, .inl (cA 1, cf_rtN u v, .inr (.inr (.inr (.inr (fun j => fb_ro (ad 5) (cf_rt st num u v j))))))) :: fb_wl (fb_cC cA) ad st LL)) (fb_A ad LL sz)) 1 4 (fb_A ad LL sz) := by
  have hfl : fl ≤ 12 := hL.2.2.2.2.2.2.1
  have hfr : fr ≤ 100 := hL.2.2.2.2.2.2.2
  refine Met.ofW (cc := zb_X_routeOf) (maxL := 7) (ret := (some (.array (.object "PausedFabric$Port")))) (by decide) rfl ?_
  intro p e s m args below meth c s₁ B hml hv
  obtain ⟨rfl, ⟨hsz, hP, hK, hD0⟩, hao⟩ := hv
  have hx := B.exec
  have hb := B.bytes
  have hr := B.returns
  have hts := atoms_spec (ws := zw_X_routeOf :: lw_gd) B.pre
  have hT : ∀ w ∈ lw_gd, w.before _ s = true := fun w h => hts w (List.mem_cons_of_mem _ h)
  have hown : s.vm.findClass "PausedFabric" = some m.cls := findClass_of_methodNamed B.named
  have hlocks := B.notSynchronized
  subst hsz
  have hD := fb_D_self (sz := s.heap.size) hD0
  have hS : va_S (fb_A ad LL s.heap.size) s.heap s.heap [] := va_S.rf
  have hA : ∀ q : Nat, s.heap.size ≤ q → fb_A ad LL s.heap.size q := fun q h => Or.inr h
  have hl := lv_entry ([.ref (ad 0 0), .int num, .int u, .int v]) (n := 7) (Nat.le_of_ble_eq_true rfl)
  rw [lg_entry_eq]
  generalize (lg_sl ([.ref (ad 0 0), .int num, .int u, .int v]) ++ List.replicate (7 - (lg_sl ([.ref (ad 0 0), .int num, .int u, .int v])).length) Slot.unset).toArray = ls at hl ⊢
  have hl : lv_has ls 7 [(0, .ref (ad 0 0)), (1, .int num), (2, .int u), (3, .int v)] := hl
  refine lv_iload_n hx hb zd_X_routeOf_0 rfl (lv_at hl 2 rfl) ?_
  refine pw_Si (bytes := zb_X_leafOf) (maxL := 1) (ret := (some .int)) (As := [.int u]) (rest := []) ⟨hx, hb, hml, hown, hT⟩ (c_X_leafOf l D cA (fb_cC cA) ad LL st u) (cwS 1 hT (fb_gS zi_34 zi_35 zi_1 zc_X_leafOf) rfl rfl rfl (by decide +kernel) ⟨Nat.le_of_ble_eq_true rfl, Nat.le_of_ble_eq_true rfl⟩) hK hP hD hS rfl hl.1 rfl (lv_room (Nat.le_of_ble_eq_true rfl)) zd_X_routeOf_1 ⟨Nat.zero_le _, Nat.zero_le _⟩ (fun rx sx H locs hp hP hD hS => ?_)
  obtain ⟨hr9, hs, hok9⟩ := hp
  rw [hr9]
  rw [hs] at hP hD
  refine lv_istore (lv' := [(4, .int (cf_leaf u)), (0, .ref (ad 0 0)), (1, .int num), (2, .int u), (3, .int v)]) hx hb zd_X_routeOf_4 hl (by decide) rfl (fun ls hl => ?_)
  refine lv_iload_n hx hb zd_X_routeOf_6 rfl (lv_at hl 4 rfl) ?_
  refine pw_Si (bytes := zb_X_leafOf) (maxL := 1) (ret := (some .int)) (As := [.int v]) (rest := []) ⟨hx, hb, hml, hown, hT⟩ (c_X_leafOf l D cA (fb_cC cA) ad LL st v) (cwS 1 hT (fb_gS zi_34 zi_35 zi_1 zc_X_leafOf) rfl rfl rfl (by decide +kernel) ⟨Nat.le_of_ble_eq_true rfl, Nat.le_of_ble_eq_true rfl⟩) hK hP hD hS rfl hl.1 rfl (lv_room (Nat.le_of_ble_eq_true rfl)) zd_X_routeOf_7 ⟨Nat.zero_le _, Nat.zero_le _⟩ (fun rx sx H locs hp hP hD hS => ?_)
  obtain ⟨hr9, hs, hok9⟩ := hp
  rw [hr9]
  rw [hs] at hP hD
  refine lv_istore (lv' := [(5, .int (cf_leaf v)), (4, .int (cf_leaf u)), (0, .ref (ad 0 0)), (1, .int num), (2, .int u), (3, .int v)]) hx hb zd_X_routeOf_10 hl (by decide) rfl (fun ls hl => ?_)
  refine lv_iload hx hb zd_X_routeOf_12 (lv_at hl 1 rfl) ?_
  refine lv_iload hx hb zd_X_routeOf_14 (lv_at hl 0 rfl) ?_
  refine lv_icmp_ne (tgt := 44) hx hb zd_X_routeOf_16 (by decide) (fun h1 => ?_) (fun h1 => ?_)
  · skip
    refine lv_bipush (v := 12) hx hb zd_X_routeOf_44 (by decide) ?_
    refine lv_iload_n hx hb zd_X_routeOf_46 rfl (lv_at hl 3 rfl) ?_
    refine pw_Si (bytes := zb_J_bitCount) (maxL := 1) (ret := (some .int)) (As := [.int num]) (rest := [.int 12]) ⟨hx, hb, hml, hown, hT⟩ (c_J_bitCount l D cA (fb_cC cA) ad LL st num) ⟨callB_of 1 hT (fb_gI zc_J_bitCount) rfl rfl rfl (hT _ zi_7) (hT _ zi_164) (by decide +kernel) ⟨Nat.le_of_ble_eq_true rfl, Nat.le_of_ble_eq_true rfl⟩, hT _ zi_165⟩ hK hP hD hS rfl hl.1 rfl (lv_room (Nat.le_of_ble_eq_true rfl)) zd_X_routeOf_47 ⟨Nat.zero_le _, Nat.zero_le _⟩ (fun rx sx H locs hp hP hD hS => ?_)
    obtain ⟨hr9, hs, hok9⟩ := hp
    rw [hr9]
    rw [hs] at hP hD
    refine lv_iconst (v := 2) hx hb zd_X_routeOf_50 (by decide) ?_
    refine lv_irem hx hb zd_X_routeOf_51 (by decide) ?_
    refine lv_iadd hx hb zd_X_routeOf_52 ?_
    refine lv_istore (lv' := [(6, .int (12 + ((cf_bits num) - (cf_bits num) / 2 * 2))), (5, .int (cf_leaf v)), (4, .int (cf_leaf u)), (0, .ref (ad 0 0)), (1, .int num), (2, .int u), (3, .int v)]) hx hb zd_X_routeOf_53 hl (by decide) rfl (fun ls hl => ?_)
    refine lv_iconst (v := 4) hx hb zd_X_routeOf_55 (by decide) ?_
    refine va_newq (C := "PausedFabric$Port") (n := 4) (N' := 4) hx hb hown (hT _ zi_20) hao hK hP hD hS hA (by decide) (by decide) (by decide) (show 1 ≤ 1 by decide) (show 4 ≤ 4 by decide) zd_X_routeOf_56 (fun q56 cQ H hK9 hP hD hS => ?_)
    obtain rfl := fb_uni hK9 (i := 1) (j := 6) rfl rfl
    refine W.widen (k := 1) (n := 4) (by omega) (by omega) ?_
    have hP : va_P D fb_cl ((q56, .inl (cA 1, 4, .inr (.inr (.inr (.inr (fun _ => none)))))) :: fb_wl (fb_cC cA) ad st LL) H := fb_Psw hP
    have hD : va_D (fb_A ad LL s.heap.size) ((q56, .inl (cA 1, 4, .inr (.inr (.inr (.inr (fun _ => none)))))) :: fb_wl (fb_cC cA) ad st LL) := fb_Dsw hD
    refine lv_dup hx hb zd_X_routeOf_59 rfl ?_
    refine lv_iconst (v := 0) hx hb zd_X_routeOf_60 (by decide) ?_
    refine lv_aload_n hx hb zd_X_routeOf_61 rfl (lv_at hl 3 rfl) ?_
    refine lv_iload_n hx hb zd_X_routeOf_62 rfl (lv_at hl 5 rfl) ?_
    refine lv_iload hx hb zd_X_routeOf_63 (lv_at hl 2 rfl) ?_
    refine pw_VqX (wr := [(q56, .inl (cA 1, 4, .inr (.inr (.inr (.inr (fun _ => none))))))]) (bytes := zb_X_portBetween) (maxL := 7) (ret := (some (.object "PausedFabric$Port"))) (As := [.int u, .int (cf_leaf u)]) (rest := [.int 0, .ref q56, .ref q56]) ⟨hx, hb, hml, hown, hT⟩ (c_X_portBetween l D cA ad LL fl fr st hL hok u (cf_leaf u)) (cwV 2 hT (fb_gV zi_160 zi_162 zs_X_portBetween zi_1 zc_X_portBetween) rfl rfl rfl (by decide +kernel) ⟨Nat.le_of_ble_eq_true rfl, Nat.le_of_ble_eq_true rfl⟩) hK hP hD hS (fun q h => fb_A_le hS.1 h) (fb_recv hK (fb_Pr (a := [(q56, .inl (cA 1, 4, .inr (.inr (.inr (.inr (fun _ => none))))))]) hP) (hL.2.1 0 (by decide)) rfl rfl) rfl hl.1 rfl (lv_room (Nat.le_of_ble_eq_true rfl)) zd_X_routeOf_65 ⟨show 1 ≤ 1 by decide, show 4 ≤ 4 by decide⟩ (fun rx sx H locs hp hP hD hS _ => ?_)
    obtain ⟨hr9, hs, hok9⟩ := hp
    rw [hr9]
    rw [hs] at hP hD
    refine pw_astO (i := 0) hx hb hK hL hP hD hS (rg_pb u (cf_leaf u) 32 0 rfl) (vp_in_nI (n := 0) (by decide) (by decide)) zd_X_routeOf_68 (fun H locs hP hD hS => ?_)
    have hP : va_P D fb_cl ((q56, .inl (cA 1, 4, .inr (.inr (.inr (.inr (va_up (fun _ => none) (0 : Int32).toNatClampNeg (fb_ro (ad 5) (cf_pb st u (cf_leaf u) 32 0)))))))) :: fb_wl (fb_cC cA) ad st LL) H := hP
    have hD : va_D (fb_A ad LL s.heap.size) ((q56, .inl (cA 1, 4, .inr (.inr (.inr (.inr (va_up (fun _ => none) (0 : Int32).toNatClampNeg (fb_ro (ad 5) (cf_pb st u (cf_leaf u) 32 0)))))))) :: fb_wl (fb_cC cA) ad st LL) := hD
    refine lv_dup hx hb zd_X_routeOf_69 rfl ?_
    refine lv_iconst (v := 1) hx hb zd_X_routeOf_70 (by decide) ?_
    refine lv_aload_n hx hb zd_X_routeOf_71 rfl (lv_at hl 3 rfl) ?_
    refine lv_iload hx hb zd_X_routeOf_72 (lv_at hl 2 rfl) ?_
    refine lv_iload hx hb zd_X_routeOf_74 (lv_at hl 0 rfl) ?_
    refine pw_VqX (wr := [(q56, .inl (cA 1, 4, .inr (.inr (.inr (.inr (va_up (fun _ => none) (0 : Int32).toNatClampNeg (fb_ro (ad 5) (cf_pb st u (cf_leaf u) 32 0))))))))]) (bytes := zb_X_portBetween) (maxL := 7) (ret := (some (.object "PausedFabric$Port"))) (As := [.int (cf_leaf u), .int (12 + ((cf_bits num) - (cf_bits num) / 2 * 2))]) (rest := [.int 1, .ref q56, .ref q56]) ⟨hx, hb, hml, hown, hT⟩ (c_X_portBetween l D cA ad LL fl fr st hL hok (cf_leaf u) (12 + ((cf_bits num) - (cf_bits num) / 2 * 2))) (cwV 2 hT (fb_gV zi_160 zi_162 zs_X_portBetween zi_1 zc_X_portBetween) rfl rfl rfl (by decide +kernel) ⟨Nat.le_of_ble_eq_true rfl, Nat.le_of_ble_eq_true rfl⟩) hK hP hD hS (fun q h => fb_A_le hS.1 h) (fb_recv hK (fb_Pr (a := [(q56, .inl (cA 1, 4, .inr (.inr (.inr (.inr (va_up (fun _ => none) (0 : Int32).toNatClampNeg (fb_ro (ad 5) (cf_pb st u (cf_leaf u) 32 0))))))))]) hP) (hL.2.1 0 (by decide)) rfl rfl) rfl hl.1 rfl (lv_room (Nat.le_of_ble_eq_true rfl)) zd_X_routeOf_76 ⟨show 1 ≤ 1 by decide, show 4 ≤ 4 by decide⟩ (fun rx sx H locs hp hP hD hS _ => ?_)
    obtain ⟨hr9, hs, hok9⟩ := hp
    rw [hr9]
    rw [hs] at hP hD
    refine pw_astO (i := 1) hx hb hK hL hP hD hS (rg_pb (cf_leaf u) (12 + ((cf_bits num) - (cf_bits num) / 2 * 2)) 32 0 rfl) (vp_in_nI (n := 1) (by decide) (by decide)) zd_X_routeOf_79 (fun H locs hP hD hS => ?_)
    have hP : va_P D fb_cl ((q56, .inl (cA 1, 4, .inr (.inr (.inr (.inr (va_up (va_up (fun _ => none) (0 : Int32).toNatClampNeg (fb_ro (ad 5) (cf_pb st u (cf_leaf u) 32 0))) (1 : Int32).toNatClampNeg (fb_ro (ad 5) (cf_pb st (cf_leaf u) (12 + ((cf_bits num) - (cf_bits num) / 2 * 2)) 32 0)))))))) :: fb_wl (fb_cC cA) ad st LL) H := hP
    have hD : va_D (fb_A ad LL s.heap.size) ((q56, .inl (cA 1, 4, .inr (.inr (.inr (.inr (va_up (va_up (fun _ => none) (0 : Int32).toNatClampNeg (fb_ro (ad 5) (cf_pb st u (cf_leaf u) 32 0))) (1 : Int32).toNatClampNeg (fb_ro (ad 5) (cf_pb st (cf_leaf u) (12 + ((cf_bits num) - (cf_bits num) / 2 * 2)) 32 0)))))))) :: fb_wl (fb_cC cA) ad st LL) := hD
    refine lv_dup hx hb zd_X_routeOf_80 rfl ?_
    refine lv_iconst (v := 2) hx hb zd_X_routeOf_81 (by decide) ?_
    refine lv_aload_n hx hb zd_X_routeOf_82 rfl (lv_at hl 3 rfl) ?_
    refine lv_iload hx hb zd_X_routeOf_83 (lv_at hl 0 rfl) ?_
    refine lv_iload hx hb zd_X_routeOf_85 (lv_at hl 1 rfl) ?_
    refine pw_VqX (wr := [(q56, .inl (cA 1, 4, .inr (.inr (.inr (.inr (va_up (va_up (fun _ => none) (0 : Int32).toNatClampNeg (fb_ro (ad 5) (cf_pb st u (cf_leaf u) 32 0))) (1 : Int32).toNatClampNeg (fb_ro (ad 5) (cf_pb st (cf_leaf u) (12 + ((cf_bits num) - (cf_bits num) / 2 * 2)) 32 0))))))))]) (bytes := zb_X_portBetween) (maxL := 7) (ret := (some (.object "PausedFabric$Port"))) (As := [.int (12 + ((cf_bits num) - (cf_bits num) / 2 * 2)), .int (cf_leaf v)]) (rest := [.int 2, .ref q56, .ref q56]) ⟨hx, hb, hml, hown, hT⟩ (c_X_portBetween l D cA ad LL fl fr st hL hok (12 + ((cf_bits num) - (cf_bits num) / 2 * 2)) (cf_leaf v)) (cwV 2 hT (fb_gV zi_160 zi_162 zs_X_portBetween zi_1 zc_X_portBetween) rfl rfl rfl (by decide +kernel) ⟨Nat.le_of_ble_eq_true rfl, Nat.le_of_ble_eq_true rfl⟩) hK hP hD hS (fun q h => fb_A_le hS.1 h) (fb_recv hK (fb_Pr (a := [(q56, .inl (cA 1, 4, .inr (.inr (.inr (.inr (va_up (va_up (fun _ => none) (0 : Int32).toNatClampNeg (fb_ro (ad 5) (cf_pb st u (cf_leaf u) 32 0))) (1 : Int32).toNatClampNeg (fb_ro (ad 5) (cf_pb st (cf_leaf u) (12 + ((cf_bits num) - (cf_bits num) / 2 * 2)) 32 0))))))))]) hP) (hL.2.1 0 (by decide)) rfl rfl) rfl hl.1 rfl (lv_room (Nat.le_of_ble_eq_true rfl)) zd_X_routeOf_87 ⟨show 1 ≤ 1 by decide, show 4 ≤ 4 by decide⟩ (fun rx sx H locs hp hP hD hS _ => ?_)
    obtain ⟨hr9, hs, hok9⟩ := hp
    rw [hr9]
    rw [hs] at hP hD
    refine pw_astO (i := 2) hx hb hK hL hP hD hS (rg_pb (12 + ((cf_bits num) - (cf_bits num) / 2 * 2)) (cf_leaf v) 32 0 rfl) (vp_in_nI (n := 2) (by decide) (by decide)) zd_X_routeOf_90 (fun H locs hP hD hS => ?_)
    have hP : va_P D fb_cl ((q56, .inl (cA 1, 4, .inr (.inr (.inr (.inr (va_up (va_up (va_up (fun _ => none) (0 : Int32).toNatClampNeg (fb_ro (ad 5) (cf_pb st u (cf_leaf u) 32 0))) (1 : Int32).toNatClampNeg (fb_ro (ad 5) (cf_pb st (cf_leaf u) (12 + ((cf_bits num) - (cf_bits num) / 2 * 2)) 32 0))) (2 : Int32).toNatClampNeg (fb_ro (ad 5) (cf_pb st (12 + ((cf_bits num) - (cf_bits num) / 2 * 2)) (cf_leaf v) 32 0)))))))) :: fb_wl (fb_cC cA) ad st LL) H := hP
    have hD : va_D (fb_A ad LL s.heap.size) ((q56, .inl (cA 1, 4, .inr (.inr (.inr (.inr (va_up (va_up (va_up (fun _ => none) (0 : Int32).toNatClampNeg (fb_ro (ad 5) (cf_pb st u (cf_leaf u) 32 0))) (1 : Int32).toNatClampNeg (fb_ro (ad 5) (cf_pb st (cf_leaf u) (12 + ((cf_bits num) - (cf_bits num) / 2 * 2)) 32 0))) (2 : Int32).toNatClampNeg (fb_ro (ad 5) (cf_pb st (12 + ((cf_bits num) - (cf_bits num) / 2 * 2)) (cf_leaf v) 32 0)))))))) :: fb_wl (fb_cC cA) ad st LL) := hD
    refine lv_dup hx hb zd_X_routeOf_91 rfl ?_
    refine lv_iconst (v := 3) hx hb zd_X_routeOf_92 (by decide) ?_
    refine lv_aload_n hx hb zd_X_routeOf_93 rfl (lv_at hl 3 rfl) ?_
    refine lv_iload hx hb zd_X_routeOf_94 (lv_at hl 1 rfl) ?_
    refine lv_iload_n hx hb zd_X_routeOf_96 rfl (lv_at hl 6 rfl) ?_
    refine pw_VqX (wr := [(q56, .inl (cA 1, 4, .inr (.inr (.inr (.inr (va_up (va_up (va_up (fun _ => none) (0 : Int32).toNatClampNeg (fb_ro (ad 5) (cf_pb st u (cf_leaf u) 32 0))) (1 : Int32).toNatClampNeg (fb_ro (ad 5) (cf_pb st (cf_leaf u) (12 + ((cf_bits num) - (cf_bits num) / 2 * 2)) 32 0))) (2 : Int32).toNatClampNeg (fb_ro (ad 5) (cf_pb st (12 + ((cf_bits num) - (cf_bits num) / 2 * 2)) (cf_leaf v) 32 0))))))))]) (bytes := zb_X_portBetween) (maxL := 7) (ret := (some (.object "PausedFabric$Port"))) (As := [.int (cf_leaf v), .int v]) (rest := [.int 3, .ref q56, .ref q56]) ⟨hx, hb, hml, hown, hT⟩ (c_X_portBetween l D cA ad LL fl fr st hL hok (cf_leaf v) v) (cwV 2 hT (fb_gV zi_160 zi_162 zs_X_portBetween zi_1 zc_X_portBetween) rfl rfl rfl (by decide +kernel) ⟨Nat.le_of_ble_eq_true rfl, Nat.le_of_ble_eq_true rfl⟩) hK hP hD hS (fun q h => fb_A_le hS.1 h) (fb_recv hK (fb_Pr (a := [(q56, .inl (cA 1, 4, .inr (.inr (.inr (.inr (va_up (va_up (va_up (fun _ => none) (0 : Int32).toNatClampNeg (fb_ro (ad 5) (cf_pb st u (cf_leaf u) 32 0))) (1 : Int32).toNatClampNeg (fb_ro (ad 5) (cf_pb st (cf_leaf u) (12 + ((cf_bits num) - (cf_bits num) / 2 * 2)) 32 0))) (2 : Int32).toNatClampNeg (fb_ro (ad 5) (cf_pb st (12 + ((cf_bits num) - (cf_bits num) / 2 * 2)) (cf_leaf v) 32 0))))))))]) hP) (hL.2.1 0 (by decide)) rfl rfl) rfl hl.1 rfl (lv_room (Nat.le_of_ble_eq_true rfl)) zd_X_routeOf_97 ⟨show 1 ≤ 1 by decide, show 4 ≤ 4 by decide⟩ (fun rx sx H locs hp hP hD hS _ => ?_)
    obtain ⟨hr9, hs, hok9⟩ := hp
    rw [hr9]
    rw [hs] at hP hD
    refine pw_astO (i := 3) hx hb hK hL hP hD hS (rg_pb (cf_leaf v) v 32 0 rfl) (vp_in_nI (n := 3) (by decide) (by decide)) zd_X_routeOf_100 (fun H locs hP hD hS => ?_)
    have hP : va_P D fb_cl ((q56, .inl (cA 1, 4, .inr (.inr (.inr (.inr (va_up (va_up (va_up (va_up (fun _ => none) (0 : Int32).toNatClampNeg (fb_ro (ad 5) (cf_pb st u (cf_leaf u) 32 0))) (1 : Int32).toNatClampNeg (fb_ro (ad 5) (cf_pb st (cf_leaf u) (12 + ((cf_bits num) - (cf_bits num) / 2 * 2)) 32 0))) (2 : Int32).toNatClampNeg (fb_ro (ad 5) (cf_pb st (12 + ((cf_bits num) - (cf_bits num) / 2 * 2)) (cf_leaf v) 32 0))) (3 : Int32).toNatClampNeg (fb_ro (ad 5) (cf_pb st (cf_leaf v) v 32 0)))))))) :: fb_wl (fb_cC cA) ad st LL) H := hP
    have hD : va_D (fb_A ad LL s.heap.size) ((q56, .inl (cA 1, 4, .inr (.inr (.inr (.inr (va_up (va_up (va_up (va_up (fun _ => none) (0 : Int32).toNatClampNeg (fb_ro (ad 5) (cf_pb st u (cf_leaf u) 32 0))) (1 : Int32).toNatClampNeg (fb_ro (ad 5) (cf_pb st (cf_leaf u) (12 + ((cf_bits num) - (cf_bits num) / 2 * 2)) 32 0))) (2 : Int32).toNatClampNeg (fb_ro (ad 5) (cf_pb st (12 + ((cf_bits num) - (cf_bits num) / 2 * 2)) (cf_leaf v) 32 0))) (3 : Int32).toNatClampNeg (fb_ro (ad 5) (cf_pb st (cf_leaf v) v 32 0)))))))) :: fb_wl (fb_cC cA) ad st LL) := hD
    have hF : (va_up (va_up (va_up (va_up (fun _ => none) (0 : Int32).toNatClampNeg (fb_ro (ad 5) (cf_pb st u (cf_leaf u) 32 0))) (1 : Int32).toNatClampNeg (fb_ro (ad 5) (cf_pb st (cf_leaf u) (12 + ((cf_bits num) - (cf_bits num) / 2 * 2)) 32 0))) (2 : Int32).toNatClampNeg (fb_ro (ad 5) (cf_pb st (12 + ((cf_bits num) - (cf_bits num) / 2 * 2)) (cf_leaf v) 32 0))) (3 : Int32).toNatClampNeg (fb_ro (ad 5) (cf_pb st (cf_leaf v) v 32 0))) = (fun j => fb_ro (ad 5) (cf_rt st num u v j)) := fb_rtF4 h1
    rw [hF] at hP hD
    have hN : cf_rtN u v = 4 := if_neg h1
    rw [← hN] at hP hD
    exact W.aret (v := .ref q56) hx hb hr (Or.inr ⟨_, rfl⟩) (Or.inr ⟨_, rfl⟩) (fun t ht hW => ⟨⟨some q56, q56, rfl, rfl, by rw [ht]; exact hP, va_K.moved hW.alike hK, hD⟩, hS.F ht⟩) hS.2.2 zd_X_routeOf_101
  · skip
    refine lv_iconst (v := 2) hx hb zd_X_routeOf_19 (by decide) ?_
    refine va_newq (C := "PausedFabric$Port") (n := 2) (N' := 2) hx hb hown (hT _ zi_20) hao hK hP hD hS hA (by decide) (by decide) (by decide) (show 1 ≤ 1 by decide) (show 2 ≤ 4 by decide) zd_X_routeOf_20 (fun q20 cQ H hK9 hP hD hS => ?_)
    obtain rfl := fb_uni hK9 (i := 1) (j := 6) rfl rfl
    refine W.widen (k := 1) (n := 4) (by omega) (by omega) ?_
    have hP : va_P D fb_cl ((q20, .inl (cA 1, 2, .inr (.inr (.inr (.inr (fun _ => none)))))) :: fb_wl (fb_cC cA) ad st LL) H := fb_Psw hP
    have hD : va_D (fb_A ad LL s.heap.size) ((q20, .inl (cA 1, 2, .inr (.inr (.inr (.inr (fun _ => none)))))) :: fb_wl (fb_cC cA) ad st LL) := fb_Dsw hD
    refine lv_dup hx hb zd_X_routeOf_23 rfl ?_
    refine lv_iconst (v := 0) hx hb zd_X_routeOf_24 (by decide) ?_
    refine lv_aload_n hx hb zd_X_routeOf_25 rfl (lv_at hl 2 rfl) ?_
    refine lv_iload_n hx hb zd_X_routeOf_26 rfl (lv_at hl 4 rfl) ?_
    refine lv_iload hx hb zd_X_routeOf_27 (lv_at hl 1 rfl) ?_
    refine pw_VqX (wr := [(q20, .inl (cA 1, 2, .inr (.inr (.inr (.inr (fun _ => none))))))]) (bytes := zb_X_portBetween) (maxL := 7) (ret := (some (.object "PausedFabric$Port"))) (As := [.int u, .int (cf_leaf u)]) (rest := [.int 0, .ref q20, .ref q20]) ⟨hx, hb, hml, hown, hT⟩ (c_X_portBetween l D cA ad LL fl fr st hL hok u (cf_leaf u)) (cwV 2 hT (fb_gV zi_160 zi_162 zs_X_portBetween zi_1 zc_X_portBetween) rfl rfl rfl (by decide +kernel) ⟨Nat.le_of_ble_eq_true rfl, Nat.le_of_ble_eq_true rfl⟩) hK hP hD hS (fun q h => fb_A_le hS.1 h) (fb_recv hK (fb_Pr (a := [(q20, .inl (cA 1, 2, .inr (.inr (.inr (.inr (fun _ => none))))))]) hP) (hL.2.1 0 (by decide)) rfl rfl) rfl hl.1 rfl (lv_room (Nat.le_of_ble_eq_true rfl)) zd_X_routeOf_29 ⟨show 1 ≤ 1 by decide, show 4 ≤ 4 by decide⟩ (fun rx sx H locs hp hP hD hS _ => ?_)
    obtain ⟨hr9, hs, hok9⟩ := hp
    rw [hr9]
    rw [hs] at hP hD
    refine pw_astO (i := 0) hx hb hK hL hP hD hS (rg_pb u (cf_leaf u) 32 0 rfl) (vp_in_nI (n := 0) (by decide) (by decide)) zd_X_routeOf_32 (fun H locs hP hD hS => ?_)
    have hP : va_P D fb_cl ((q20, .inl (cA 1, 2, .inr (.inr (.inr (.inr (va_up (fun _ => none) (0 : Int32).toNatClampNeg (fb_ro (ad 5) (cf_pb st u (cf_leaf u) 32 0)))))))) :: fb_wl (fb_cC cA) ad st LL) H := hP
    have hD : va_D (fb_A ad LL s.heap.size) ((q20, .inl (cA 1, 2, .inr (.inr (.inr (.inr (va_up (fun _ => none) (0 : Int32).toNatClampNeg (fb_ro (ad 5) (cf_pb st u (cf_leaf u) 32 0)))))))) :: fb_wl (fb_cC cA) ad st LL) := hD
    refine lv_dup hx hb zd_X_routeOf_33 rfl ?_
    refine lv_iconst (v := 1) hx hb zd_X_routeOf_34 (by decide) ?_
    refine lv_aload_n hx hb zd_X_routeOf_35 rfl (lv_at hl 2 rfl) ?_
    refine lv_iload hx hb zd_X_routeOf_36 (lv_at hl 1 rfl) ?_
    refine lv_iload_n hx hb zd_X_routeOf_38 rfl (lv_at hl 5 rfl) ?_
    refine pw_VqX (wr := [(q20, .inl (cA 1, 2, .inr (.inr (.inr (.inr (va_up (fun _ => none) (0 : Int32).toNatClampNeg (fb_ro (ad 5) (cf_pb st u (cf_leaf u) 32 0))))))))]) (bytes := zb_X_portBetween) (maxL := 7) (ret := (some (.object "PausedFabric$Port"))) (As := [.int (cf_leaf u), .int v]) (rest := [.int 1, .ref q20, .ref q20]) ⟨hx, hb, hml, hown, hT⟩ (c_X_portBetween l D cA ad LL fl fr st hL hok (cf_leaf u) v) (cwV 2 hT (fb_gV zi_160 zi_162 zs_X_portBetween zi_1 zc_X_portBetween) rfl rfl rfl (by decide +kernel) ⟨Nat.le_of_ble_eq_true rfl, Nat.le_of_ble_eq_true rfl⟩) hK hP hD hS (fun q h => fb_A_le hS.1 h) (fb_recv hK (fb_Pr (a := [(q20, .inl (cA 1, 2, .inr (.inr (.inr (.inr (va_up (fun _ => none) (0 : Int32).toNatClampNeg (fb_ro (ad 5) (cf_pb st u (cf_leaf u) 32 0))))))))]) hP) (hL.2.1 0 (by decide)) rfl rfl) rfl hl.1 rfl (lv_room (Nat.le_of_ble_eq_true rfl)) zd_X_routeOf_39 ⟨show 1 ≤ 1 by decide, show 4 ≤ 4 by decide⟩ (fun rx sx H locs hp hP hD hS _ => ?_)
    obtain ⟨hr9, hs, hok9⟩ := hp
    rw [hr9]
    rw [hs] at hP hD
    refine pw_astO (i := 1) hx hb hK hL hP hD hS (rg_pb (cf_leaf u) v 32 0 rfl) (vp_in_nI (n := 1) (by decide) (by decide)) zd_X_routeOf_42 (fun H locs hP hD hS => ?_)
    have hP : va_P D fb_cl ((q20, .inl (cA 1, 2, .inr (.inr (.inr (.inr (va_up (va_up (fun _ => none) (0 : Int32).toNatClampNeg (fb_ro (ad 5) (cf_pb st u (cf_leaf u) 32 0))) (1 : Int32).toNatClampNeg (fb_ro (ad 5) (cf_pb st (cf_leaf u) v 32 0)))))))) :: fb_wl (fb_cC cA) ad st LL) H := hP
    have hD : va_D (fb_A ad LL s.heap.size) ((q20, .inl (cA 1, 2, .inr (.inr (.inr (.inr (va_up (va_up (fun _ => none) (0 : Int32).toNatClampNeg (fb_ro (ad 5) (cf_pb st u (cf_leaf u) 32 0))) (1 : Int32).toNatClampNeg (fb_ro (ad 5) (cf_pb st (cf_leaf u) v 32 0)))))))) :: fb_wl (fb_cC cA) ad st LL) := hD
    have hF : (va_up (va_up (fun _ => none) (0 : Int32).toNatClampNeg (fb_ro (ad 5) (cf_pb st u (cf_leaf u) 32 0))) (1 : Int32).toNatClampNeg (fb_ro (ad 5) (cf_pb st (cf_leaf u) v 32 0))) = (fun j => fb_ro (ad 5) (cf_rt st num u v j)) := fb_rtF2 h1
    rw [hF] at hP hD
    have hN : cf_rtN u v = 2 := if_pos h1
    rw [← hN] at hP hD
    exact W.aret (v := .ref q20) hx hb hr (Or.inr ⟨_, rfl⟩) (Or.inr ⟨_, rfl⟩) (fun t ht hW => ⟨⟨some q20, q20, rfl, rfl, by rw [ht]; exact hP, va_K.moved hW.alike hK, hD⟩, hS.F ht⟩) hS.2.2 zd_X_routeOf_43
