/-! makePorts (by program) -/
theorem fb_portF {ad : Nat → Nat → Nat} {c q : Nat} {u : Nat → Nat} (hc : c < 2 ^ 31) : va_up (fun j => if j < c then some (ad 5 j) else none) (nI c).toNatClampNeg (some q) = (fun j => if j < c + 1 then some (fb_adP ad c q u 5 j) else none) := by
  rw [nI_clamp hc]
  funext j
  unfold va_up
  by_cases e : j = c
  · subst e
    rw [if_pos rfl, if_pos (by omega)]
    unfold fb_adP
    rw [if_pos ⟨rfl, rfl⟩]
  · rw [if_neg e]
    by_cases h : j < c
    · simp only [if_pos h]
      rw [if_pos (by omega), fb_adP_old (by omega)]
    · simp only [if_neg h]
      rw [if_neg (by omega)]
theorem fb_wl_arr {cA : Nat → ClassId} {ad : Nat → Nat → Nat} {d x r k0 : Int32} {q : Nat} : fb_wl (fb_cC cA) (fb_ad ad 2 0 q) (cf_st0 d x r k0) ((2, 0) :: fb_ps 32) = (q, .inl (cA 1, 32, .inr (.inr (.inr (.inr (fun j => if j < 32 then some (ad 5 j) else none)))))) :: fb_wl (fb_cC cA) ad (cf_st0 d x r k0) (fb_ps 32) := by
  have a5 : fb_ad ad 2 0 q 5 = ad 5 := by funext j; exact fb_ad_ne (by omega)
  have a11 : fb_ad ad 2 0 q 11 = ad 11 := by funext j; exact fb_ad_ne (by omega)
  have ht : fb_wl (fb_cC cA) (fb_ad ad 2 0 q) (cf_st0 d x r k0) (fb_ps 32) = fb_wl (fb_cC cA) ad (cf_st0 d x r k0) (fb_ps 32) := by
    unfold fb_wl
    refine List.map_congr_left (fun y hy => ?_)
    obtain ⟨k, i⟩ := y
    have hm := fb_ps_mem hy
    have e1 : fb_ad ad 2 0 q k i = ad k i := fb_ad_ne (by omega)
    have e2 : fb_cC cA (fb_ad ad 2 0 q) (cf_st0 d x r k0) k i = fb_cC cA ad (cf_st0 d x r k0) k i := by
      rcases hm with ⟨hk, hi⟩ | ⟨rfl, hi⟩
      · rcases hk with rfl | rfl | rfl | rfl
        · simp only [fb_cC]
          rw [fb_ad_ne (k := 8) (by omega), fb_ad_ne (k := 9) (by omega), fb_ad_ne (k := 10) (by omega), a11]
          rfl
        · simp only [fb_cC]
          rw [a11]
        · simp only [fb_cC]
        · simp only [fb_cC]
      · rfl
    simp only [e1, e2]
  show (fb_ad ad 2 0 q 2 0, fb_cC cA (fb_ad ad 2 0 q) (cf_st0 d x r k0) 2 0) :: fb_wl (fb_cC cA) (fb_ad ad 2 0 q) (cf_st0 d x r k0) (fb_ps 32) = _
  rw [ht, fb_ad_eq]
  simp only [fb_cC]
  rw [a5]
set_option maxHeartbeats 4000000 in
set_option maxRecDepth 100000 in
theorem c_X_makePorts (l : Launch) (D : va_G) (cA : Nat → ClassId) (d0 x0 r0 k0 : Int32) (sz : Nat) : Met l zy_X_makePorts (zw_X_makePorts :: lw_gd) { frames := 3, cells := 225, slots := 864, locals := 66 } (va_Pc [] (fun U => U.heap.size = sz ∧ va_K D fb_cl (fb_tys cA) U ∧ va_AO "PausedFabric$Port" U ∧ va_AO "PausedFabric$FrameQueue" U ∧ va_Nw (.methodLinkNest "PausedFabric$Port" 9 zy_Q_init "PausedFabric") U)) (va_Qq (fun rr (u : Nat → Nat → Nat) => rr = some (u 2 0)) (fun u t => va_P D fb_cl (fb_wl (fb_cC cA) u (cf_st0 d0 x0 r0 k0) ((2, 0) :: fb_ps 32)) t.heap ∧ va_K D fb_cl (fb_tys cA) t ∧ va_D (fun q => sz ≤ q) (fb_wl (fb_cC cA) u (cf_st0 d0 x0 r0 k0) ((2, 0) :: fb_ps 32))) (fun q => sz ≤ q)) 225 864 (fun q => sz ≤ q) := by
  refine Met.ofW (cc := zb_X_makePorts) (maxL := 4) (ret := (some (.array (.object "PausedFabric$Port")))) (by decide) rfl ?_
  intro p e s m args below meth c s₁ B hml hv
  obtain ⟨rfl, hsz, hK, hao, haoq, hnw⟩ := hv
  have hx := B.exec
  have hb := B.bytes
  have hr := B.returns
  have hts := atoms_spec (ws := zw_X_makePorts :: lw_gd) B.pre
  have hT : ∀ w ∈ lw_gd, w.before _ s = true := fun w h => hts w (List.mem_cons_of_mem _ h)
  have hown : s.vm.findClass "PausedFabric" = some m.cls := findClass_of_methodNamed B.named
  have hlocks := B.notSynchronized
  subst hsz
  have hl := lv_entry (([] : List Value)) (n := 4) (Nat.le_of_ble_eq_true rfl)
  rw [lg_entry_eq]
  generalize (lg_sl (([] : List Value)) ++ List.replicate (4 - (lg_sl (([] : List Value))).length) Slot.unset).toArray = ls at hl ⊢
  have hl : lv_has ls 4 [] := hl
  have hA : ∀ q : Nat, s.heap.size ≤ q → s.heap.size ≤ q := fun q h => h
  have hS : va_S (fun q => s.heap.size ≤ q) s.heap s.heap [] := va_S.rf
  have hP : va_P D fb_cl [] s.heap := fun k q hk => by simp at hk
  have hD : va_D (fun q => s.heap.size ≤ q) [] := ⟨fun i j p q hi => by simp at hi, fun k q hk => by simp at hk⟩
  refine lv_bipush (v := 32) hx hb zd_X_makePorts_0 (by decide) ?_
  refine va_newq (C := "PausedFabric$Port") (n := 32) (N' := 32) hx hb hown (hT _ zi_20) hao hK hP hD hS hA (by decide) (by decide) (by decide) (show 1 ≤ 225 by decide) (show 32 ≤ 864 by decide) zd_X_makePorts_2 (fun q2 cQ H hK9 hP hD hS => ?_)
  obtain rfl := fb_uni hK9 (i := 1) (j := 6) rfl rfl
  refine lv_astore_n (lv' := [(0, .ref q2)]) hx hb zd_X_makePorts_5 rfl hl (by decide) rfl (fun ls hl => ?_)
  refine lv_iconst (v := 0) hx hb zd_X_makePorts_6 (by decide) ?_
  refine lv_istore_n (lv' := [(1, .int 0), (0, .ref q2)]) hx hb zd_X_makePorts_7 rfl hl (by decide) rfl (fun ls hl => ?_)
  refine lv_iconst (v := 0) hx hb zd_X_makePorts_8 (by decide) ?_
  refine lv_istore_n (lv' := [(2, .int 0), (1, .int 0), (0, .ref q2)]) hx hb zd_X_makePorts_9 rfl hl (by decide) rfl (fun ls hl => ?_)
  refine W.widen (k := 1 + 7 * fb_cnt (14 * 0)) (n := 32 + 26 * fb_cnt (14 * 0)) (by omega) (by omega) ?_
  refine pw_loopC (n := 14) (fc := fun a => 1 + 7 * fb_cnt (14 * a)) (fs := fun a => 32 + 26 * fb_cnt (14 * a)) (Inv := fun (a : Nat) (H : Heap) (locs : List Loc) (ls : Array Slot) => ∃ ad : Nat → Nat → Nat, lv_has ls 4 [(0, .ref q2), (1, .int (nI (fb_cnt (14 * a)))), (2, .int (nI a))] ∧ va_P D fb_cl ((q2, .inl (cA 1, 32, .inr (.inr (.inr (.inr (fun j => if j < fb_cnt (14 * a) then some (ad 5 j) else none)))))) :: fb_wl (fb_cC cA) ad (cf_st0 d0 x0 r0 k0) (fb_ps (fb_cnt (14 * a)))) H ∧ va_D (fun q => s.heap.size ≤ q) ((q2, .inl (cA 1, 32, .inr (.inr (.inr (.inr (fun j => if j < fb_cnt (14 * a) then some (ad 5 j) else none)))))) :: fb_wl (fb_cC cA) ad (cf_st0 d0 x0 r0 k0) (fb_ps (fb_cnt (14 * a)))) ∧ va_S (fun q => s.heap.size ≤ q) s.heap H locs) ?_ ?_ ?_
  · skip
    intro a hia H locs ls hI iha
    obtain ⟨ad, hl, hP, hD, hS⟩ := hI
    refine lv_iload_n hx hb zd_X_makePorts_10 rfl (lv_at hl 2 rfl) ?_
    refine lv_bipush (v := 14) hx hb zd_X_makePorts_11 (by decide) ?_
    refine lv_icmp_ge (tgt := 65) hx hb zd_X_makePorts_13 (by decide) (fun h9 => absurd h9 (fb_lge (by decide) hia (by omega))) (fun _ => ?_)
    refine lv_iconst (v := 0) hx hb zd_X_makePorts_16 (by decide) ?_
    refine lv_istore_n (lv' := [(3, .int 0), (0, .ref q2), (1, .int (nI (fb_cnt (14 * a)))), (2, .int (nI a))]) hx hb zd_X_makePorts_17 rfl hl (by decide) rfl (fun ls hl => ?_)
    refine pw_loopC (n := 14) (fc := fun b => 1 + 7 * fb_cnt (14 * a + b)) (fs := fun b => 32 + 26 * fb_cnt (14 * a + b)) (Inv := fun (b : Nat) (H : Heap) (locs : List Loc) (ls : Array Slot) => ∃ ad : Nat → Nat → Nat, lv_has ls 4 [(0, .ref q2), (1, .int (nI (fb_cnt (14 * a + b)))), (2, .int (nI a)), (3, .int (nI b))] ∧ va_P D fb_cl ((q2, .inl (cA 1, 32, .inr (.inr (.inr (.inr (fun j => if j < fb_cnt (14 * a + b) then some (ad 5 j) else none)))))) :: fb_wl (fb_cC cA) ad (cf_st0 d0 x0 r0 k0) (fb_ps (fb_cnt (14 * a + b)))) H ∧ va_D (fun q => s.heap.size ≤ q) ((q2, .inl (cA 1, 32, .inr (.inr (.inr (.inr (fun j => if j < fb_cnt (14 * a + b) then some (ad 5 j) else none)))))) :: fb_wl (fb_cC cA) ad (cf_st0 d0 x0 r0 k0) (fb_ps (fb_cnt (14 * a + b)))) ∧ va_S (fun q => s.heap.size ≤ q) s.heap H locs) ?_ ?_ ?_
    · skip
      intro b hib H locs ls hI ihb
      obtain ⟨ad, hl, hP, hD, hS⟩ := hI
      have hlk : fb_lk (14 * a + b) = cf_linked (nI b) (nI a) := by unfold fb_lk; rw [show (14 * a + b) % 14 = b by omega, show (14 * a + b) / 14 = a by omega]
      refine lv_iload_n hx hb zd_X_makePorts_18 rfl (lv_at hl 3 rfl) ?_
      refine lv_bipush (v := 14) hx hb zd_X_makePorts_19 (by decide) ?_
      refine lv_icmp_ge (tgt := 59) hx hb zd_X_makePorts_21 (by decide) (fun h9 => absurd h9 (fb_lge (by decide) hib (by omega))) (fun _ => ?_)
      refine lv_iload_n hx hb zd_X_makePorts_24 rfl (lv_at hl 3 rfl) ?_
      refine lv_iload_n hx hb zd_X_makePorts_25 rfl (lv_at hl 2 rfl) ?_
      have hle := fb_cnt_le (196 - (14 * a + b)) (14 * a + b) (by omega)
      refine pw_SiX (bytes := zb_X_areLinked) (maxL := 4) (ret := (some .boolean)) (As := [.int (nI b), .int (nI a)]) (rest := []) ⟨hx, hb, hml, hown, hT⟩ (c_X_areLinked l D cA (fb_cC cA) (fun _ _ => 0) [] (fun _ _ => 0) (nI b) (nI a)) (cwS 2 hT (fb_gS zi_22 zi_23 zi_1 zc_X_areLinked) rfl rfl rfl (by decide +kernel) ⟨Nat.le_of_ble_eq_true rfl, Nat.le_of_ble_eq_true rfl⟩) hK hP hD hS hA rfl hl.1 rfl (lv_room (Nat.le_of_ble_eq_true rfl)) zd_X_makePorts_26 ⟨show 1 + 7 * fb_cnt (14 * a + b) ≤ 225 by omega, show 32 + 26 * fb_cnt (14 * a + b) ≤ 864 by omega⟩ (fun rx sx H locs hp hP hD hS => ?_)
      rw [hp.1]
      refine lv_if_eq (tgt := 53) hx hb zd_X_makePorts_29 (by decide) (fun h1 => ?_) (fun h1 => ?_)
      · skip
        have h1b := fb_b0 h1
        have hc1 : fb_cnt (14 * a + (b + 1)) = fb_cnt (14 * a + b) := if_neg (fun h9 => h1b (hlk.symm.trans h9))
        refine lv_iinc (k := 3) (v := nI (b + 1)) (lv' := [(3, .int (nI (b + 1))), (0, .ref q2), (1, .int (nI (fb_cnt (14 * a + b)))), (2, .int (nI a))]) hx hb zd_X_makePorts_53 hl rfl (nI_succ _).symm (by decide) rfl (fun ls hl => ?_)
        refine lv_goto (tgt := 18) hx hb zd_X_makePorts_56 (by decide) ?_
        refine W.widen (k := 1 + 7 * fb_cnt (14 * a + (b + 1))) (n := 32 + 26 * fb_cnt (14 * a + (b + 1))) (by omega) (by omega) ?_
        exact ihb _ _ _ ⟨ad, by rw [hc1]; exact lv_sub hl [1, 2, 3, 0] rfl, by rw [hc1]; exact hP, by rw [hc1]; exact hD, hS⟩
      · skip
        have h1b := fb_b1 h1
        have hlk1 : fb_lk (14 * a + b) = true := hlk.trans h1b
        have hc1 : fb_cnt (14 * a + (b + 1)) = fb_cnt (14 * a + b) + 1 := if_pos hlk1
        obtain ⟨hc32, htF, htT⟩ := fb_lk_at (show 14 * a + b < 196 by omega) hlk1
        rw [show (14 * a + b) % 14 = b by omega] at htF
        rw [show (14 * a + b) / 14 = a by omega] at htT
        generalize hcc : fb_cnt (14 * a + b) = cc0 at *
        refine lv_iload_n hx hb zd_X_makePorts_32 rfl (lv_at hl 1 rfl) ?_
        refine lv_bipush (v := 32) hx hb zd_X_makePorts_33 (by decide) ?_
        refine lv_icmp_ge (tgt := 53) hx hb zd_X_makePorts_35 (by decide) (fun h9 => absurd h9 (fb_lge (by decide) hc32 (by omega))) (fun _ => ?_)
        refine lv_aload_n hx hb zd_X_makePorts_38 rfl (lv_at hl 0 rfl) ?_
        refine lv_iload_n hx hb zd_X_makePorts_39 rfl (lv_at hl 1 rfl) ?_
        refine va_new (ci := 1) (fs := [.int 0, .int 0, .null, .null, .int 0, .null, .null, .null, .int 0, .int 0, .int 0]) (C := "PausedFabric$Port") (T := zT_P) (N := 11) hx hb hT zin_P zt_P ztok_P hown (hT _ zi_20) (hT _ zi_37) (hT _ zi_3) hK hP hD hS hA rfl (fun j hj => by rcases (show j = 0 ∨ j = 1 ∨ j = 2 ∨ j = 3 ∨ j = 4 ∨ j = 5 ∨ j = 6 ∨ j = 7 ∨ j = 8 ∨ j = 9 ∨ j = 10 by omega) with rfl | rfl | rfl | rfl | rfl | rfl | rfl | rfl | rfl | rfl | rfl <;> rfl) (show 1 + 7 * cc0 + 1 ≤ 225 by omega) (show 32 + 26 * cc0 + 11 ≤ 864 by omega) zd_X_makePorts_40 (fun q40 H hP hD hS => ?_)
        refine lv_dup hx hb zd_X_makePorts_43 rfl ?_
        refine lv_iload_n hx hb zd_X_makePorts_44 rfl (lv_at hl 3 rfl) ?_
        refine lv_iload_n hx hb zd_X_makePorts_45 rfl (lv_at hl 2 rfl) ?_
        have hPc : va_P D fb_cl [(q40, .inr (1, [.int 0, .int 0, .null, .null, .int 0, .null, .null, .null, .int 0, .int 0, .int 0]))] H := fb_Pr (a := ((q2, .inl (cA 1, 32, .inr (.inr (.inr (.inr (fun j => if j < cc0 then some (ad 5 j) else none)))))) :: fb_wl (fb_cC cA) ad (cf_st0 d0 x0 r0 k0) (fb_ps (cc0)))) hP
        have hDc : va_D (fun q => s.heap.size ≤ q) [(q40, .inr (1, [.int 0, .int 0, .null, .null, .int 0, .null, .null, .null, .int 0, .int 0, .int 0]))] := fb_Dr (a := ((q2, .inl (cA 1, 32, .inr (.inr (.inr (.inr (fun j => if j < cc0 then some (ad 5 j) else none)))))) :: fb_wl (fb_cC cA) ad (cf_st0 d0 x0 r0 k0) (fb_ps (cc0)))) hD
        have hFc : ∀ q, va_A [(q40, .inr (1, [.int 0, .int 0, .null, .null, .int 0, .null, .null, .null, .int 0, .int 0, .int 0]))] H.size q → s.heap.size ≤ q := va_free hDc hS hA [0] rfl
        refine va_callv (va_runI (As := [.int (nI b), .int (nI a)]) (rest := [.ref q40, .int (nI cc0), .ref q2]) ⟨hx, hb, hml, hown, hT⟩ (c_P_init l D cA q40 (nI b) (nI a) H.size) (cwI 2 hT (fb_gI zc_P_init) rfl rfl rfl (hT _ zi_3) (hT _ zi_38) (hT _ zi_39) rfl (by decide +kernel) ⟨Nat.le_of_ble_eq_true rfl, Nat.le_of_ble_eq_true rfl⟩) ⟨fun a U g mk q => by obtain ⟨q0, q1, qP, qK, qD, qA, qN⟩ := q; exact ⟨q0, q1, qP, va_K.moved (u := U) (U := U.calling g mk a) (Vm.Alike.refl U.vm) qK, qD, va_AO.moved (u := U) (U := U.calling g mk a) (Vm.Alike.refl U.vm) qA, va_Nw.same rfl rfl qN⟩, fun U hU hW => ⟨rfl, by rw [hU], by rw [hU]; exact hPc, va_K.moved hW.alike hK, hDc.weaken (fun _ _ _ _ => trivial), va_AO.moved hW.alike haoq, va_Nw.warmM hW hnw⟩⟩ rfl rfl hl.1 rfl (lv_room (Nat.le_of_ble_eq_true rfl)) zd_X_makePorts_46 ⟨show 1 + 7 * cc0 + 1 + 6 ≤ 225 by omega, show 32 + 26 * cc0 + 11 + 15 ≤ 864 by omega⟩) hS (fun q _ h => hFc q h) hFc (fun u t H1 locs ht hvm hq5 hB hsz9 hk9 hS => ?_)
        obtain ⟨hP1, hK1, hD1⟩ := hB
        rw [ht] at hP1
        obtain ⟨hP, hD⟩ := fb_join (wr := ((q2, .inl (cA 1, 32, .inr (.inr (.inr (.inr (fun j => if j < cc0 then some (ad 5 j) else none)))))) :: fb_wl (fb_cC cA) ad (cf_st0 d0 x0 r0 k0) (fb_ps (cc0)))) (wc := [(q40, .inr (1, [.int 0, .int 0, .null, .null, .int 0, .null, .null, .null, .int 0, .int 0, .int 0]))]) hP hD hFc (fun q h => h) hk9 hP1 hD1
        generalize H1 = H at hP hS ⊢
        have hqk : ∀ (x : va_W), (((q2, .inl (cA 1, 32, .inr (.inr (.inr (.inr (fun j => if j < cc0 then some (ad 5 j) else none)))))) :: fb_wl (fb_cC cA) ad (cf_st0 d0 x0 r0 k0) (fb_ps (cc0))) ++ (q40, .inr (1, [.int (nI b), .int (nI a), .ref (u 0), .ref (u 3), .int 0, .null, .ref (u 4), .ref (u 5), .int 0, .int 0, .int 0])) :: x)[(fb_wl (fb_cC cA) ad (cf_st0 d0 x0 r0 k0) (fb_ps cc0)).length + 1]? = some (q40, .inr (1, [.int (nI b), .int (nI a), .ref (u 0), .ref (u 3), .int 0, .null, .ref (u 4), .ref (u 5), .int 0, .int 0, .int 0])) := fun x => by
          rw [List.cons_append, List.getElem?_cons_succ, List.getElem?_append_right (Nat.le_refl _), Nat.sub_self]
          rfl
        refine va_astq hx hb hK hP hD hS 0 1 ((fb_wl (fb_cC cA) ad (cf_st0 d0 x0 r0 k0) (fb_ps cc0)).length + 1) 1 rfl rfl (hqk _) rfl (i := nI cc0) (vp_in_nI hc32 (by decide)) zd_X_makePorts_49 (fun H locs hP hD hS => ?_)
        have hF : va_up (fun j => if j < cc0 then some (ad 5 j) else none) (nI cc0).toNatClampNeg (some q40) = (fun j => if j < cc0 + 1 then some (fb_adP ad cc0 q40 u 5 j) else none) := fb_portF (by omega)
        rw [hF] at hP hD
        rw [List.cons_append] at hP hD
        rw [List.set_cons_zero, ← fb_wl_port (cA := cA) (ad := ad) (d := d0) (x := x0) (r := r0) (k0 := k0) (q := q40) (u := u) htF htT] at hP hD
        refine lv_iinc (k := 1) (v := nI (cc0 + 1)) (lv' := [(1, .int (nI (cc0 + 1))), (0, .ref q2), (2, .int (nI a)), (3, .int (nI b))]) hx hb zd_X_makePorts_50 hl rfl (nI_succ _).symm (by decide) rfl (fun ls hl => ?_)
        refine lv_iinc (k := 3) (v := nI (b + 1)) (lv' := [(3, .int (nI (b + 1))), (1, .int (nI (cc0 + 1))), (0, .ref q2), (2, .int (nI a))]) hx hb zd_X_makePorts_53 hl rfl (nI_succ _).symm (by decide) rfl (fun ls hl => ?_)
        refine lv_goto (tgt := 18) hx hb zd_X_makePorts_56 (by decide) ?_
        refine W.widen (k := 1 + 7 * fb_cnt (14 * a + (b + 1))) (n := 32 + 26 * fb_cnt (14 * a + (b + 1))) (by omega) (by omega) ?_
        exact ihb _ _ _ ⟨fb_adP ad cc0 q40 u, by rw [hc1]; exact lv_sub hl [2, 1, 3, 0] rfl, by rw [hc1]; exact hP, by rw [hc1]; exact hD, hS⟩
    · skip
      intro H locs ls hI
      obtain ⟨ad, hl, hP, hD, hS⟩ := hI
      refine lv_iload_n hx hb zd_X_makePorts_18 rfl (lv_at hl 3 rfl) ?_
      refine lv_bipush (v := 14) hx hb zd_X_makePorts_19 (by decide) ?_
      refine lv_icmp_ge (tgt := 59) hx hb zd_X_makePorts_21 (by decide) (fun _ => ?_) (fun h9 => absurd (fb_lle (by decide) (by omega)) h9)
      refine lv_iinc (k := 2) (v := nI (a + 1)) (lv' := [(2, .int (nI (a + 1))), (0, .ref q2), (1, .int (nI (fb_cnt (14 * a + 14)))), (3, .int (nI 14))]) hx hb zd_X_makePorts_59 hl rfl (nI_succ _).symm (by decide) rfl (fun ls hl => ?_)
      refine lv_goto (tgt := 10) hx hb zd_X_makePorts_62 (by decide) ?_
      exact iha _ _ _ ⟨ad, lv_sub hl [1, 2, 0] rfl, hP, hD, hS⟩
    · skip
      exact ⟨ad, lv_sub hl [1, 2, 3, 0] rfl, hP, hD, hS⟩
  · skip
    intro H locs ls hI
    obtain ⟨ad, hl, hP, hD, hS⟩ := hI
    refine lv_iload_n hx hb zd_X_makePorts_10 rfl (lv_at hl 2 rfl) ?_
    refine lv_bipush (v := 14) hx hb zd_X_makePorts_11 (by decide) ?_
    refine lv_icmp_ge (tgt := 65) hx hb zd_X_makePorts_13 (by decide) (fun _ => ?_) (fun h9 => absurd (fb_lle (by decide) (by omega)) h9)
    have h32 : fb_cnt (14 * 14) = 32 := fb_cnt196
    rw [h32] at hP hD
    rw [← fb_wl_arr (cA := cA) (ad := ad) (d := d0) (x := x0) (r := r0) (k0 := k0) (q := q2)] at hP hD
    refine W.widen (k := 225) (n := 864) (by show 1 + 7 * fb_cnt (14 * 14) ≤ 225; omega) (by show 32 + 26 * fb_cnt (14 * 14) ≤ 864; omega) ?_
    refine lv_aload_n hx hb zd_X_makePorts_65 rfl (lv_at hl 0 rfl) ?_
    exact W.aret (v := .ref q2) hx hb hr (Or.inr ⟨_, rfl⟩) (Or.inr ⟨_, rfl⟩) (fun t ht hW => ⟨⟨some q2, fb_ad ad 2 0 q2, rfl, congrArg some fb_ad_eq.symm, by rw [ht]; exact hP, va_K.moved hW.alike hK, hD⟩, hS.F ht⟩) hS.2.2 zd_X_makePorts_66
  · skip
    exact ⟨fun _ _ => 0, lv_sub hl [2, 1, 0] rfl, hP, hD, hS⟩
