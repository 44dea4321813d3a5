/-! the class's constructor (by program) -/
def fb_LC0 : fb_L := (0, 0) :: (1, 0) :: ((((2, 0) :: fb_ps 32) ++ [(3, 0)]) ++ [(4, 0)])
def fb_adI (u : Nat → Nat → Nat) (b q6 q29 q38 : Nat) : Nat → Nat → Nat := fb_ad (fb_ad (fb_ad (fb_ad u 0 0 b) 1 0 q6) 3 0 q29) 4 0 q38
theorem fb_adI_old {u : Nat → Nat → Nat} {b q6 q29 q38 k i : Nat} (h : k = 2 ∨ 5 ≤ k) : fb_adI u b q6 q29 q38 k i = u k i := by
  unfold fb_adI
  rw [fb_ad_ne (by omega), fb_ad_ne (by omega), fb_ad_ne (by omega), fb_ad_ne (by omega)]
theorem fb_init00 {u : Nat → Nat → Nat} {b q6 q29 q38 : Nat} : fb_adI u b q6 q29 q38 0 0 = b := by
  unfold fb_adI
  rw [fb_ad_ne (by omega), fb_ad_ne (by omega), fb_ad_ne (by omega), fb_ad_eq]
theorem fb_wl_init {cA : Nat → ClassId} {u : Nat → Nat → Nat} {b q6 q29 q38 : Nat} {d x r k0 : Int32} : fb_wl (fb_cC cA) (fb_adI u b q6 q29 q38) (cf_st0 d x r k0) fb_LC0 = (b, .inr (0, [.int d, .int x, .int r, .int k0, .ref q6, .ref (u 2 0), .ref q29, .ref q38, .int 0, .int 0, .int 0])) :: (q6, .inl (cA 0, 2, .inl (upd (upd (fun _ => 0) (0 : Int32).toNatClampNeg 1) (1 : Int32).toNatClampNeg 1))) :: ((fb_wl (fb_cC cA) u (cf_st0 d x r k0) ((2, 0) :: fb_ps 32) ++ [(q29, .inl (cA 2, 12, .inr (.inr (.inr (.inr (fun _ => none))))))]) ++ [(q38, .inl (cA 3, 100, .inr (.inr (.inr (.inr (fun _ => none))))))]) := by
  have a1 : fb_adI u b q6 q29 q38 1 0 = q6 := by unfold fb_adI; rw [fb_ad_ne (by omega), fb_ad_ne (by omega), fb_ad_eq]
  have a3 : fb_adI u b q6 q29 q38 3 0 = q29 := by unfold fb_adI; rw [fb_ad_ne (by omega), fb_ad_eq]
  have a4 : fb_adI u b q6 q29 q38 4 0 = q38 := by unfold fb_adI; rw [fb_ad_eq]
  have a2 : fb_adI u b q6 q29 q38 2 0 = u 2 0 := fb_adI_old (by omega)
  have c0 : fb_cC cA (fb_adI u b q6 q29 q38) (cf_st0 d x r k0) 0 0 = .inr (0, [.int d, .int x, .int r, .int k0, .ref q6, .ref (u 2 0), .ref q29, .ref q38, .int 0, .int 0, .int 0]) := by
    simp only [fb_cC]
    rw [a1, a2, a3, a4]
    rfl
  have c1 : fb_cC cA (fb_adI u b q6 q29 q38) (cf_st0 d x r k0) 1 0 = .inl (cA 0, 2, .inl (upd (upd (fun _ => 0) (0 : Int32).toNatClampNeg 1) (1 : Int32).toNatClampNeg 1)) := by
    show (Sum.inl (cA 0, 2, .inl (fun i => if i < 2 then (1 : Int32) else 0)) : va_E) = _
    rw [show (fun i => if i < 2 then (1 : Int32) else 0) = upd (upd (fun _ => 0) (0 : Int32).toNatClampNeg 1) (1 : Int32).toNatClampNeg 1 from funext (fun i => by
      simp only [upd, fb_t0, fb_t1]
      by_cases e1 : i = 1
      · subst e1
        simp
      · by_cases e0 : i = 0
        · subst e0
          simp
        · rw [if_neg (by omega), if_neg e1, if_neg e0])]
  have c3 : fb_cC cA (fb_adI u b q6 q29 q38) (cf_st0 d x r k0) 3 0 = .inl (cA 2, 12, .inr (.inr (.inr (.inr (fun _ => none))))) := by
    show (Sum.inl (cA 2, 12, .inr (.inr (.inr (.inr (fun _ => fb_ro (fb_adI u b q6 q29 q38 6) (-1)))))) : va_E) = _
    rw [fb_ro_n fb_m1]
  have c4 : fb_cC cA (fb_adI u b q6 q29 q38) (cf_st0 d x r k0) 4 0 = .inl (cA 3, 100, .inr (.inr (.inr (.inr (fun _ => none))))) := by
    show (Sum.inl (cA 3, 100, .inr (.inr (.inr (.inr (fun _ => fb_ro (fb_adI u b q6 q29 q38 7) (-1)))))) : va_E) = _
    rw [fb_ro_n fb_m1]
  have a5 : fb_adI u b q6 q29 q38 5 = u 5 := by funext j; exact fb_adI_old (by omega)
  have a11 : fb_adI u b q6 q29 q38 11 = u 11 := by funext j; exact fb_adI_old (by omega)
  have ht : fb_wl (fb_cC cA) (fb_adI u b q6 q29 q38) (cf_st0 d x r k0) ((2, 0) :: fb_ps 32) = fb_wl (fb_cC cA) u (cf_st0 d x r k0) ((2, 0) :: fb_ps 32) := by
    unfold fb_wl
    refine List.map_congr_left (fun y hy => ?_)
    obtain ⟨k, i⟩ := y
    have hm : (k = 2 ∧ i = 0) ∨ (((k = 5 ∨ k = 8 ∨ k = 9 ∨ k = 10) ∧ i < 32) ∨ (k = 11 ∧ i < 3 * 32)) := by
      rcases List.mem_cons.mp hy with h | h
      · exact Or.inl ⟨congrArg Prod.fst h, congrArg Prod.snd h⟩
      · exact Or.inr (fb_ps_mem h)
    have e1 : fb_adI u b q6 q29 q38 k i = u k i := fb_adI_old (by omega)
    have e2 : fb_cC cA (fb_adI u b q6 q29 q38) (cf_st0 d x r k0) k i = fb_cC cA u (cf_st0 d x r k0) k i := by
      rcases hm with ⟨rfl, rfl⟩ | ⟨hk, hi⟩ | ⟨rfl, hi⟩
      · simp only [fb_cC]
        rw [a5]
      · rcases hk with rfl | rfl | rfl | rfl
        · simp only [fb_cC]
          rw [fb_adI_old (k := 8) (by omega), fb_adI_old (k := 9) (by omega), fb_adI_old (k := 10) (by omega), a11]
          rfl
        · simp only [fb_cC]
          rw [a11]
        · simp only [fb_cC]
        · simp only [fb_cC]
      · rfl
    simp only [e1, e2]
  have app2 : ∀ (y z : fb_L), fb_wl (fb_cC cA) (fb_adI u b q6 q29 q38) (cf_st0 d x r k0) (y ++ z) = fb_wl (fb_cC cA) (fb_adI u b q6 q29 q38) (cf_st0 d x r k0) y ++ fb_wl (fb_cC cA) (fb_adI u b q6 q29 q38) (cf_st0 d x r k0) z := fun y z => List.map_append
  show (fb_adI u b q6 q29 q38 0 0, fb_cC cA (fb_adI u b q6 q29 q38) (cf_st0 d x r k0) 0 0) :: (fb_adI u b q6 q29 q38 1 0, fb_cC cA (fb_adI u b q6 q29 q38) (cf_st0 d x r k0) 1 0) :: fb_wl (fb_cC cA) (fb_adI u b q6 q29 q38) (cf_st0 d x r k0) ((((2, 0) :: fb_ps 32) ++ [(3, 0)]) ++ [(4, 0)]) = _
  rw [c0, c1, fb_init00, a1, app2, app2, ht]
  show _ :: _ :: (_ ++ [(fb_adI u b q6 q29 q38 3 0, fb_cC cA (fb_adI u b q6 q29 q38) (cf_st0 d x r k0) 3 0)]) ++ [(fb_adI u b q6 q29 q38 4 0, fb_cC cA (fb_adI u b q6 q29 q38) (cf_st0 d x r k0) 4 0)] = _
  rw [a3, a4, c3, c4]
  rfl
theorem fb_lvC0 : fb_lvC fb_LC0 0 0 := by
  have mid : ∀ x, x ∈ fb_ps 32 → x ∈ fb_LC0 := fun x hx => List.mem_cons_of_mem _ (List.mem_cons_of_mem _ (List.mem_append_left _ (List.mem_append_left _ (List.mem_cons_of_mem _ hx))))
  have inP : ∀ i, i < 32 → ∀ x, x ∈ fb_p1 i → x ∈ fb_LC0 := fun i hi x hx => mid x (fb_ps_in hi x hx)
  refine ⟨fun k i hm => ?_, fun k hk => ?_, fun i hi => ⟨inP i hi _ (by simp [fb_p1]), inP i hi _ (by simp [fb_p1]), inP i hi _ (by simp [fb_p1]), inP i hi _ (by simp [fb_p1])⟩, fun j hj => ?_, fun f hf => by omega, fun k hk => by omega, by omega, by omega⟩
  · have hh : (k, i) = (0, 0) ∨ (k, i) = (1, 0) ∨ (k, i) = (2, 0) ∨ (k, i) ∈ fb_ps 32 ∨ (k, i) = (3, 0) ∨ (k, i) = (4, 0) := by
      simp only [fb_LC0, List.mem_cons, List.mem_append, List.not_mem_nil, or_false] at hm
      rcases hm with h | h | ((h | h) | h) | h
      · exact Or.inl h
      · exact Or.inr (Or.inl h)
      · exact Or.inr (Or.inr (Or.inl h))
      · exact Or.inr (Or.inr (Or.inr (Or.inl h)))
      · exact Or.inr (Or.inr (Or.inr (Or.inr (Or.inl h))))
      · exact Or.inr (Or.inr (Or.inr (Or.inr (Or.inr h))))
    simp only [Prod.mk.injEq] at hh
    rcases hh with h | h | h | h | h | h
    · omega
    · omega
    · omega
    · have := fb_ps_mem h
      omega
    · omega
    · omega
  · rcases (show k = 0 ∨ k = 1 ∨ k = 2 ∨ k = 3 ∨ k = 4 by omega) with rfl | rfl | rfl | rfl | rfl <;> simp [fb_LC0]
  · rcases (show j % 3 = 0 ∨ j % 3 = 1 ∨ j % 3 = 2 by omega) with h | h | h
    · have := inP (j / 3) (by omega) (11, 3 * (j / 3)) (by simp [fb_p1])
      rwa [show 3 * (j / 3) = j by omega] at this
    · have := inP (j / 3) (by omega) (11, 3 * (j / 3) + 1) (by simp [fb_p1])
      rwa [show 3 * (j / 3) + 1 = j by omega] at this
    · have := inP (j / 3) (by omega) (11, 3 * (j / 3) + 2) (by simp [fb_p1])
      rwa [show 3 * (j / 3) + 2 = j by omega] at this
theorem fb_okC0 {d x r k : Int32} (hd : 1 ≤ d ∧ d ≤ 8) (hx : 4 ≤ x ∧ x ≤ 40) (hr : 0 ≤ r ∧ r ≤ 40) (hk : 1 ≤ k ∧ k ≤ 40) : fb_okC 0 0 (cf_st0 d x r k) := by
  intro F i
  unfold fb_rC cf_st0
  split
  all_goals first
    | exact trivial
    | exact hd
    | exact hx
    | exact hr
    | exact hk
    | exact fun _ => rfl
    | exact Or.inl rfl
    | exact fun h => (show 1 ≤ (if i < 2 then (1 : Int32) else 0) ∧ (if i < 2 then (1 : Int32) else 0) ≤ 8 from by rw [if_pos h]; decide)
    | (intro h; omega)
    | rfl
set_option maxHeartbeats 4000000 in
set_option maxRecDepth 100000 in
theorem c_X_init (l : Launch) (D : va_G) (cA : Nat → ClassId) (b : Nat) (d x r k : Int32) (sz : Nat) : Met l zy_X_init (zw_X_init :: lw_gd) { frames := 4, cells := 228, slots := 978, locals := 89 } (va_Pc [.ref b, .int d, .int x, .int r, .int k] (fun U => U.heap.size = sz ∧ va_P D fb_cl [(b, .inr (0, [.int 0, .int 0, .int 0, .int 0, .null, .null, .null, .null, .int 0, .int 0, .int 0]))] U.heap ∧ va_K D fb_cl (fb_tys cA) U ∧ va_D (fun _ => True) [(b, .inr (0, [.int 0, .int 0, .int 0, .int 0, .null, .null, .null, .null, .int 0, .int 0, .int 0]))] ∧ va_AO "PausedFabric$Port" U ∧ va_AO "PausedFabric$FrameQueue" U ∧ va_AO "PausedFabric$Flow" U ∧ va_AO "PausedFabric$Frame" U ∧ va_Nw (.methodLinkNest "PausedFabric$Port" 9 zy_Q_init "PausedFabric") U)) (va_Qv (fun u : Nat → Nat → Nat => u 0 0 = b) (fun u t => va_P D fb_cl (fb_wl (fb_cC cA) u (cf_st0 (cf_near d 1 8) (cf_near x 4 40) (cf_near r 0 40) (cf_near k 1 40)) fb_LC0) t.heap ∧ va_K D fb_cl (fb_tys cA) t ∧ va_D (va_A [(b, .inr (0, [.int 0, .int 0, .int 0, .int 0, .null, .null, .null, .null, .int 0, .int 0, .int 0]))] sz) (fb_wl (fb_cC cA) u (cf_st0 (cf_near d 1 8) (cf_near x 4 40) (cf_near r 0 40) (cf_near k 1 40)) fb_LC0)) (va_A [(b, .inr (0, [.int 0, .int 0, .int 0, .int 0, .null, .null, .null, .null, .int 0, .int 0, .int 0]))] sz)) 228 978 (va_A [(b, .inr (0, [.int 0, .int 0, .int 0, .int 0, .null, .null, .null, .null, .int 0, .int 0, .int 0]))] sz) := by
  refine Met.ofW (cc := zb_X_init) (maxL := 5) (ret := none) (by decide) rfl ?_
  intro p e s m args below meth c s₁ B hml hv
  obtain ⟨rfl, hsz, hP, hK, hD0, hao1, hao4, hao2, hao3, hnw⟩ := hv
  have hx := B.exec
  have hb := B.bytes
  have hr := B.returns
  have hts := atoms_spec (ws := zw_X_init :: lw_gd) B.pre
  have hT : ∀ w ∈ lw_gd, w.before _ s = true := fun w h => hts w (List.mem_cons_of_mem _ h)
  have hown : s.vm.findClass "PausedFabric" = some m.cls := findClass_of_methodNamed B.named
  have hlocks := B.notSynchronized
  subst hsz
  have hl := lv_entry ([.ref b, .int d, .int x, .int r, .int k]) (n := 5) (Nat.le_of_ble_eq_true rfl)
  rw [lg_entry_eq]
  generalize (lg_sl ([.ref b, .int d, .int x, .int r, .int k]) ++ List.replicate (5 - (lg_sl ([.ref b, .int d, .int x, .int r, .int k])).length) Slot.unset).toArray = ls at hl ⊢
  have hl : lv_has ls 5 [(0, .ref b), (1, .int d), (2, .int x), (3, .int r), (4, .int k)] := hl
  have hin : meth.name = "<init>" := (name_of_methodNamed B.named B.method).1
  have hD := hD0.self (sz := s.heap.size)
  generalize hAe : va_A [(b, .inr (0, [.int 0, .int 0, .int 0, .int 0, .null, .null, .null, .null, .int 0, .int 0, .int 0]))] s.heap.size = A at hD ⊢
  have hA : ∀ q : Nat, s.heap.size ≤ q → A q := fun q h => by rw [← hAe]; exact Or.inr h
  have hS : va_S A s.heap s.heap [] := va_S.rf
  have hP : va_P D fb_cl [(b, .inr (0, [.int 0, .int 0, .int 0, .int 0, .null, .null, .null, .null, .int 0, .int 0, .int 0]))] s.heap := hP
  refine lv_aload_n hx hb zd_X_init_0 rfl (lv_at hl 0 rfl) ?_
  refine W.objInit hx hb hown (hT _ zi_14) (hT _ zi_15) (hT _ zc_O_init) rfl (by rw [hml]; exact hl.1) rfl zd_X_init_1 (Nat.le_of_ble_eq_true rfl) (Nat.le_of_ble_eq_true rfl) ?_
  refine W.eq (g2 := F0 m 4 ls []) rfl ?_
  refine lv_aload_n hx hb zd_X_init_4 rfl (lv_at hl 0 rfl) ?_
  refine lv_iconst (v := 2) hx hb zd_X_init_5 (by decide) ?_
  refine va_newa (atype := .int) (ty := .int) (n := 2) (N' := 2) (a0 := (2, .inl (fun _ => 0))) hx hb (hT _ zi_61) rfl hK hP hD hS hA (fun _ => rfl) (by decide) (by decide) (by decide) (show 1 ≤ 228 by decide) (show 2 ≤ 978 by decide) zd_X_init_6 (fun q6 cQ H hK9 hP hD hS => ?_)
  obtain rfl := fb_uni hK9 (i := 0) (j := 6) rfl rfl
  have hP : va_P D fb_cl ((b, .inr (0, [.int 0, .int 0, .int 0, .int 0, .null, .null, .null, .null, .int 0, .int 0, .int 0])) :: (q6, .inl (cA 0, 2, .inl (fun _ => 0))) :: []) H := hP
  have hD : va_D A ((b, .inr (0, [.int 0, .int 0, .int 0, .int 0, .null, .null, .null, .null, .int 0, .int 0, .int 0])) :: (q6, .inl (cA 0, 2, .inl (fun _ => 0))) :: []) := hD
  refine W.widen (k := 1) (n := 2) (by omega) (by omega) ?_
  refine lv_dup hx hb zd_X_init_8 rfl ?_
  refine lv_iconst (v := 0) hx hb zd_X_init_9 (by decide) ?_
  refine lv_iconst (v := 1) hx hb zd_X_init_10 (by decide) ?_
  refine va_iast hx hb hK hP hD hS 1 0 rfl rfl (i := 0) (x := 1) fb_v0 zd_X_init_11 (fun H locs hP hD hS => ?_)
  have hP : va_P D fb_cl ((b, .inr (0, [.int 0, .int 0, .int 0, .int 0, .null, .null, .null, .null, .int 0, .int 0, .int 0])) :: (q6, .inl (cA 0, 2, .inl (upd (fun _ => 0) (0 : Int32).toNatClampNeg 1))) :: []) H := hP
  have hD : va_D A ((b, .inr (0, [.int 0, .int 0, .int 0, .int 0, .null, .null, .null, .null, .int 0, .int 0, .int 0])) :: (q6, .inl (cA 0, 2, .inl (upd (fun _ => 0) (0 : Int32).toNatClampNeg 1))) :: []) := hD
  refine lv_dup hx hb zd_X_init_12 rfl ?_
  refine lv_iconst (v := 1) hx hb zd_X_init_13 (by decide) ?_
  refine lv_iconst (v := 1) hx hb zd_X_init_14 (by decide) ?_
  refine va_iast hx hb hK hP hD hS 1 0 rfl rfl (i := 1) (x := 1) fb_v1 zd_X_init_15 (fun H locs hP hD hS => ?_)
  have hP : va_P D fb_cl ((b, .inr (0, [.int 0, .int 0, .int 0, .int 0, .null, .null, .null, .null, .int 0, .int 0, .int 0])) :: (q6, .inl (cA 0, 2, .inl (upd (upd (fun _ => 0) (0 : Int32).toNatClampNeg 1) (1 : Int32).toNatClampNeg 1))) :: []) H := hP
  have hD : va_D A ((b, .inr (0, [.int 0, .int 0, .int 0, .int 0, .null, .null, .null, .null, .int 0, .int 0, .int 0])) :: (q6, .inl (cA 0, 2, .inl (upd (upd (fun _ => 0) (0 : Int32).toNatClampNeg 1) (1 : Int32).toNatClampNeg 1))) :: []) := hD
  refine va_putF (D := D) (ci := 0) (v := .ref q6) (ty := (.array .int)) (C := "PausedFabric") (T := zT_X) (N := 11) hx hb hT zin_X zt_X ztok_X znm_X hown hK hP hD hS 0 rfl rfl 4 (by decide) (hT _ zi_118) (fun _ h9 => h9) rfl hin rfl (by decide +kernel) rfl rfl (Nat.le_of_ble_eq_true rfl) zd_X_init_16 (fun H locs hP hD hS => ?_)
  have hP : va_P D fb_cl ((b, .inr (0, [.int 0, .int 0, .int 0, .int 0, .ref q6, .null, .null, .null, .int 0, .int 0, .int 0])) :: (q6, .inl (cA 0, 2, .inl (upd (upd (fun _ => 0) (0 : Int32).toNatClampNeg 1) (1 : Int32).toNatClampNeg 1))) :: []) H := hP
  have hD : va_D A ((b, .inr (0, [.int 0, .int 0, .int 0, .int 0, .ref q6, .null, .null, .null, .int 0, .int 0, .int 0])) :: (q6, .inl (cA 0, 2, .inl (upd (upd (fun _ => 0) (0 : Int32).toNatClampNeg 1) (1 : Int32).toNatClampNeg 1))) :: []) := hD
  refine lv_aload_n hx hb zd_X_init_19 rfl (lv_at hl 0 rfl) ?_
  have hS0 : s.heap.size ≤ H.size := hS.1
  refine va_callq (va_runS (As := []) (rest := [.ref b]) ⟨hx, hb, hml, hown, hT⟩ (c_X_makePorts l D cA (cf_near d 1 8) (cf_near x 4 40) (cf_near r 0 40) (cf_near k 1 40) H.size) (cwS 0 hT (fb_gS zi_17 zi_18 zi_1 zc_X_makePorts) rfl rfl rfl (by decide +kernel) ⟨Nat.le_of_ble_eq_true rfl, Nat.le_of_ble_eq_true rfl⟩) ⟨fun a U g mk q => by obtain ⟨q0, q1, qK, qA, qB, qN⟩ := q; exact ⟨q0, q1, va_K.moved (u := U) (U := U.calling g mk a) (Vm.Alike.refl U.vm) qK, va_AO.moved (u := U) (U := U.calling g mk a) (Vm.Alike.refl U.vm) qA, va_AO.moved (u := U) (U := U.calling g mk a) (Vm.Alike.refl U.vm) qB, va_Nw.same rfl rfl qN⟩, fun U hU hW => ⟨rfl, by rw [hU], va_K.moved hW.alike hK, va_AO.moved hW.alike hao1, va_AO.moved hW.alike hao4, va_Nw.warmM hW hnw⟩⟩ rfl rfl hl.1 rfl (lv_room (Nat.le_of_ble_eq_true rfl)) zd_X_init_20 ⟨show 226 ≤ 228 by decide, show 866 ≤ 978 by decide⟩) hS (fun q h1 h2 => absurd h2 (by show ¬ H.size ≤ q; omega)) (fun q h => hA q (Nat.le_trans hS.1 h)) (fun r9 uu t H1 locs ht hvm hq5 hB hsz9 hk9 hS => ?_)
  rw [hq5]
  obtain ⟨hP1, hK1, hD1⟩ := hB
  rw [ht] at hP1
  have hle9 := hsz9
  obtain ⟨hP, hD⟩ := fb_join (A := A) (B := fun q => H.size ≤ q) (wr := [(b, .inr (0, [.int 0, .int 0, .int 0, .int 0, .ref q6, .null, .null, .null, .int 0, .int 0, .int 0])), (q6, .inl (cA 0, 2, .inl (upd (upd (fun _ => 0) (0 : Int32).toNatClampNeg 1) (1 : Int32).toNatClampNeg 1)))]) (wc := []) hP hD (fun q h => hA q (Nat.le_trans hS0 h)) (fun q h => Or.inr h) hk9 hP1 hD1
  generalize H1 = H at hP hS ⊢
  have hP : va_P D fb_cl ((b, .inr (0, [.int 0, .int 0, .int 0, .int 0, .ref q6, .null, .null, .null, .int 0, .int 0, .int 0])) :: (q6, .inl (cA 0, 2, .inl (upd (upd (fun _ => 0) (0 : Int32).toNatClampNeg 1) (1 : Int32).toNatClampNeg 1))) :: (fb_wl (fb_cC cA) uu (cf_st0 (cf_near d 1 8) (cf_near x 4 40) (cf_near r 0 40) (cf_near k 1 40)) ((2, 0) :: fb_ps 32))) H := hP
  have hD : va_D A ((b, .inr (0, [.int 0, .int 0, .int 0, .int 0, .ref q6, .null, .null, .null, .int 0, .int 0, .int 0])) :: (q6, .inl (cA 0, 2, .inl (upd (upd (fun _ => 0) (0 : Int32).toNatClampNeg 1) (1 : Int32).toNatClampNeg 1))) :: (fb_wl (fb_cC cA) uu (cf_st0 (cf_near d 1 8) (cf_near x 4 40) (cf_near r 0 40) (cf_near k 1 40)) ((2, 0) :: fb_ps 32))) := hD
  refine W.widen (k := 226) (n := 866) (by omega) (by omega) ?_
  refine va_putF (D := D) (ci := 0) (v := .ref (uu 2 0)) (ty := (.array (.object "PausedFabric$Port"))) (C := "PausedFabric") (T := zT_X) (N := 11) hx hb hT zin_X zt_X ztok_X znm_X hown hK hP hD hS 0 rfl rfl 5 (by decide) (hT _ zi_119) (fun _ h9 => h9) rfl hin rfl (by decide +kernel) rfl rfl (Nat.le_of_ble_eq_true rfl) zd_X_init_23 (fun H locs hP hD hS => ?_)
  have hP : va_P D fb_cl ((b, .inr (0, [.int 0, .int 0, .int 0, .int 0, .ref q6, .ref (uu 2 0), .null, .null, .int 0, .int 0, .int 0])) :: (q6, .inl (cA 0, 2, .inl (upd (upd (fun _ => 0) (0 : Int32).toNatClampNeg 1) (1 : Int32).toNatClampNeg 1))) :: (fb_wl (fb_cC cA) uu (cf_st0 (cf_near d 1 8) (cf_near x 4 40) (cf_near r 0 40) (cf_near k 1 40)) ((2, 0) :: fb_ps 32))) H := hP
  have hD : va_D A ((b, .inr (0, [.int 0, .int 0, .int 0, .int 0, .ref q6, .ref (uu 2 0), .null, .null, .int 0, .int 0, .int 0])) :: (q6, .inl (cA 0, 2, .inl (upd (upd (fun _ => 0) (0 : Int32).toNatClampNeg 1) (1 : Int32).toNatClampNeg 1))) :: (fb_wl (fb_cC cA) uu (cf_st0 (cf_near d 1 8) (cf_near x 4 40) (cf_near r 0 40) (cf_near k 1 40)) ((2, 0) :: fb_ps 32))) := hD
  refine lv_aload_n hx hb zd_X_init_26 rfl (lv_at hl 0 rfl) ?_
  refine lv_bipush (v := 12) hx hb zd_X_init_27 (by decide) ?_
  refine va_newq (C := "PausedFabric$Flow") (n := 12) (N' := 12) hx hb hown (hT _ zi_107) hao2 hK hP hD hS hA (by decide) (by decide) (by decide) (show 227 ≤ 228 by decide) (show 878 ≤ 978 by decide) zd_X_init_29 (fun q29 cQ H hK9 hP hD hS => ?_)
  obtain rfl := fb_uni hK9 (i := 2) (j := 6) rfl rfl
  have hP : va_P D fb_cl ((b, .inr (0, [.int 0, .int 0, .int 0, .int 0, .ref q6, .ref (uu 2 0), .null, .null, .int 0, .int 0, .int 0])) :: (q6, .inl (cA 0, 2, .inl (upd (upd (fun _ => 0) (0 : Int32).toNatClampNeg 1) (1 : Int32).toNatClampNeg 1))) :: ((fb_wl (fb_cC cA) uu (cf_st0 (cf_near d 1 8) (cf_near x 4 40) (cf_near r 0 40) (cf_near k 1 40)) ((2, 0) :: fb_ps 32)) ++ [(q29, .inl (cA 2, 12, .inr (.inr (.inr (.inr (fun _ => none))))))])) H := hP
  have hD : va_D A ((b, .inr (0, [.int 0, .int 0, .int 0, .int 0, .ref q6, .ref (uu 2 0), .null, .null, .int 0, .int 0, .int 0])) :: (q6, .inl (cA 0, 2, .inl (upd (upd (fun _ => 0) (0 : Int32).toNatClampNeg 1) (1 : Int32).toNatClampNeg 1))) :: ((fb_wl (fb_cC cA) uu (cf_st0 (cf_near d 1 8) (cf_near x 4 40) (cf_near r 0 40) (cf_near k 1 40)) ((2, 0) :: fb_ps 32)) ++ [(q29, .inl (cA 2, 12, .inr (.inr (.inr (.inr (fun _ => none))))))])) := hD
  refine W.widen (k := 227) (n := 878) (by omega) (by omega) ?_
  refine va_putF (D := D) (ci := 0) (v := .ref q29) (ty := (.array (.object "PausedFabric$Flow"))) (C := "PausedFabric") (T := zT_X) (N := 11) hx hb hT zin_X zt_X ztok_X znm_X hown hK hP hD hS 0 rfl rfl 6 (by decide) (hT _ zi_120) (fun _ h9 => h9) rfl hin rfl (by decide +kernel) rfl rfl (Nat.le_of_ble_eq_true rfl) zd_X_init_32 (fun H locs hP hD hS => ?_)
  have hP : va_P D fb_cl ((b, .inr (0, [.int 0, .int 0, .int 0, .int 0, .ref q6, .ref (uu 2 0), .ref q29, .null, .int 0, .int 0, .int 0])) :: (q6, .inl (cA 0, 2, .inl (upd (upd (fun _ => 0) (0 : Int32).toNatClampNeg 1) (1 : Int32).toNatClampNeg 1))) :: ((fb_wl (fb_cC cA) uu (cf_st0 (cf_near d 1 8) (cf_near x 4 40) (cf_near r 0 40) (cf_near k 1 40)) ((2, 0) :: fb_ps 32)) ++ [(q29, .inl (cA 2, 12, .inr (.inr (.inr (.inr (fun _ => none))))))])) H := hP
  have hD : va_D A ((b, .inr (0, [.int 0, .int 0, .int 0, .int 0, .ref q6, .ref (uu 2 0), .ref q29, .null, .int 0, .int 0, .int 0])) :: (q6, .inl (cA 0, 2, .inl (upd (upd (fun _ => 0) (0 : Int32).toNatClampNeg 1) (1 : Int32).toNatClampNeg 1))) :: ((fb_wl (fb_cC cA) uu (cf_st0 (cf_near d 1 8) (cf_near x 4 40) (cf_near r 0 40) (cf_near k 1 40)) ((2, 0) :: fb_ps 32)) ++ [(q29, .inl (cA 2, 12, .inr (.inr (.inr (.inr (fun _ => none))))))])) := hD
  refine lv_aload_n hx hb zd_X_init_35 rfl (lv_at hl 0 rfl) ?_
  refine lv_bipush (v := 100) hx hb zd_X_init_36 (by decide) ?_
  refine va_newq (C := "PausedFabric$Frame") (n := 100) (N' := 100) hx hb hown (hT _ zi_109) hao3 hK hP hD hS hA (by decide) (by decide) (by decide) (show 228 ≤ 228 by decide) (show 978 ≤ 978 by decide) zd_X_init_38 (fun q38 cQ H hK9 hP hD hS => ?_)
  obtain rfl := fb_uni hK9 (i := 3) (j := 6) rfl rfl
  have hP : va_P D fb_cl ((b, .inr (0, [.int 0, .int 0, .int 0, .int 0, .ref q6, .ref (uu 2 0), .ref q29, .null, .int 0, .int 0, .int 0])) :: (q6, .inl (cA 0, 2, .inl (upd (upd (fun _ => 0) (0 : Int32).toNatClampNeg 1) (1 : Int32).toNatClampNeg 1))) :: (((fb_wl (fb_cC cA) uu (cf_st0 (cf_near d 1 8) (cf_near x 4 40) (cf_near r 0 40) (cf_near k 1 40)) ((2, 0) :: fb_ps 32)) ++ [(q29, .inl (cA 2, 12, .inr (.inr (.inr (.inr (fun _ => none))))))]) ++ [(q38, .inl (cA 3, 100, .inr (.inr (.inr (.inr (fun _ => none))))))])) H := hP
  have hD : va_D A ((b, .inr (0, [.int 0, .int 0, .int 0, .int 0, .ref q6, .ref (uu 2 0), .ref q29, .null, .int 0, .int 0, .int 0])) :: (q6, .inl (cA 0, 2, .inl (upd (upd (fun _ => 0) (0 : Int32).toNatClampNeg 1) (1 : Int32).toNatClampNeg 1))) :: (((fb_wl (fb_cC cA) uu (cf_st0 (cf_near d 1 8) (cf_near x 4 40) (cf_near r 0 40) (cf_near k 1 40)) ((2, 0) :: fb_ps 32)) ++ [(q29, .inl (cA 2, 12, .inr (.inr (.inr (.inr (fun _ => none))))))]) ++ [(q38, .inl (cA 3, 100, .inr (.inr (.inr (.inr (fun _ => none))))))])) := hD
  refine W.widen (k := 228) (n := 978) (by omega) (by omega) ?_
  refine va_putF (D := D) (ci := 0) (v := .ref q38) (ty := (.array (.object "PausedFabric$Frame"))) (C := "PausedFabric") (T := zT_X) (N := 11) hx hb hT zin_X zt_X ztok_X znm_X hown hK hP hD hS 0 rfl rfl 7 (by decide) (hT _ zi_121) (fun _ h9 => h9) rfl hin rfl (by decide +kernel) rfl rfl (Nat.le_of_ble_eq_true rfl) zd_X_init_41 (fun H locs hP hD hS => ?_)
  have hP : va_P D fb_cl ((b, .inr (0, [.int 0, .int 0, .int 0, .int 0, .ref q6, .ref (uu 2 0), .ref q29, .ref q38, .int 0, .int 0, .int 0])) :: (q6, .inl (cA 0, 2, .inl (upd (upd (fun _ => 0) (0 : Int32).toNatClampNeg 1) (1 : Int32).toNatClampNeg 1))) :: (((fb_wl (fb_cC cA) uu (cf_st0 (cf_near d 1 8) (cf_near x 4 40) (cf_near r 0 40) (cf_near k 1 40)) ((2, 0) :: fb_ps 32)) ++ [(q29, .inl (cA 2, 12, .inr (.inr (.inr (.inr (fun _ => none))))))]) ++ [(q38, .inl (cA 3, 100, .inr (.inr (.inr (.inr (fun _ => none))))))])) H := hP
  have hD : va_D A ((b, .inr (0, [.int 0, .int 0, .int 0, .int 0, .ref q6, .ref (uu 2 0), .ref q29, .ref q38, .int 0, .int 0, .int 0])) :: (q6, .inl (cA 0, 2, .inl (upd (upd (fun _ => 0) (0 : Int32).toNatClampNeg 1) (1 : Int32).toNatClampNeg 1))) :: (((fb_wl (fb_cC cA) uu (cf_st0 (cf_near d 1 8) (cf_near x 4 40) (cf_near r 0 40) (cf_near k 1 40)) ((2, 0) :: fb_ps 32)) ++ [(q29, .inl (cA 2, 12, .inr (.inr (.inr (.inr (fun _ => none))))))]) ++ [(q38, .inl (cA 3, 100, .inr (.inr (.inr (.inr (fun _ => none))))))])) := hD
  refine lv_aload_n hx hb zd_X_init_44 rfl (lv_at hl 0 rfl) ?_
  refine lv_iconst (v := 0) hx hb zd_X_init_45 (by decide) ?_
  refine va_put (D := D) (ci := 0) (v := .int 0) (ty := .int) (C := "PausedFabric") (T := zT_X) (N := 11) hx hb hT zin_X zt_X ztok_X znm_X hown hK hP hD hS 0 rfl rfl 8 (by decide) (hT _ zi_122) (fun _ h9 => h9) rfl (by decide +kernel) rfl rfl (Nat.le_of_ble_eq_true rfl) zd_X_init_46 (fun H locs hP hD hS => ?_)
  have hP : va_P D fb_cl ((b, .inr (0, [.int 0, .int 0, .int 0, .int 0, .ref q6, .ref (uu 2 0), .ref q29, .ref q38, .int 0, .int 0, .int 0])) :: (q6, .inl (cA 0, 2, .inl (upd (upd (fun _ => 0) (0 : Int32).toNatClampNeg 1) (1 : Int32).toNatClampNeg 1))) :: (((fb_wl (fb_cC cA) uu (cf_st0 (cf_near d 1 8) (cf_near x 4 40) (cf_near r 0 40) (cf_near k 1 40)) ((2, 0) :: fb_ps 32)) ++ [(q29, .inl (cA 2, 12, .inr (.inr (.inr (.inr (fun _ => none))))))]) ++ [(q38, .inl (cA 3, 100, .inr (.inr (.inr (.inr (fun _ => none))))))])) H := hP
  have hD : va_D A ((b, .inr (0, [.int 0, .int 0, .int 0, .int 0, .ref q6, .ref (uu 2 0), .ref q29, .ref q38, .int 0, .int 0, .int 0])) :: (q6, .inl (cA 0, 2, .inl (upd (upd (fun _ => 0) (0 : Int32).toNatClampNeg 1) (1 : Int32).toNatClampNeg 1))) :: (((fb_wl (fb_cC cA) uu (cf_st0 (cf_near d 1 8) (cf_near x 4 40) (cf_near r 0 40) (cf_near k 1 40)) ((2, 0) :: fb_ps 32)) ++ [(q29, .inl (cA 2, 12, .inr (.inr (.inr (.inr (fun _ => none))))))]) ++ [(q38, .inl (cA 3, 100, .inr (.inr (.inr (.inr (fun _ => none))))))])) := hD
  refine lv_aload_n hx hb zd_X_init_49 rfl (lv_at hl 0 rfl) ?_
  refine lv_iconst (v := 0) hx hb zd_X_init_50 (by decide) ?_
  refine va_put (D := D) (ci := 0) (v := .int 0) (ty := .int) (C := "PausedFabric") (T := zT_X) (N := 11) hx hb hT zin_X zt_X ztok_X znm_X hown hK hP hD hS 0 rfl rfl 9 (by decide) (hT _ zi_123) (fun _ h9 => h9) rfl (by decide +kernel) rfl rfl (Nat.le_of_ble_eq_true rfl) zd_X_init_51 (fun H locs hP hD hS => ?_)
  have hP : va_P D fb_cl ((b, .inr (0, [.int 0, .int 0, .int 0, .int 0, .ref q6, .ref (uu 2 0), .ref q29, .ref q38, .int 0, .int 0, .int 0])) :: (q6, .inl (cA 0, 2, .inl (upd (upd (fun _ => 0) (0 : Int32).toNatClampNeg 1) (1 : Int32).toNatClampNeg 1))) :: (((fb_wl (fb_cC cA) uu (cf_st0 (cf_near d 1 8) (cf_near x 4 40) (cf_near r 0 40) (cf_near k 1 40)) ((2, 0) :: fb_ps 32)) ++ [(q29, .inl (cA 2, 12, .inr (.inr (.inr (.inr (fun _ => none))))))]) ++ [(q38, .inl (cA 3, 100, .inr (.inr (.inr (.inr (fun _ => none))))))])) H := hP
  have hD : va_D A ((b, .inr (0, [.int 0, .int 0, .int 0, .int 0, .ref q6, .ref (uu 2 0), .ref q29, .ref q38, .int 0, .int 0, .int 0])) :: (q6, .inl (cA 0, 2, .inl (upd (upd (fun _ => 0) (0 : Int32).toNatClampNeg 1) (1 : Int32).toNatClampNeg 1))) :: (((fb_wl (fb_cC cA) uu (cf_st0 (cf_near d 1 8) (cf_near x 4 40) (cf_near r 0 40) (cf_near k 1 40)) ((2, 0) :: fb_ps 32)) ++ [(q29, .inl (cA 2, 12, .inr (.inr (.inr (.inr (fun _ => none))))))]) ++ [(q38, .inl (cA 3, 100, .inr (.inr (.inr (.inr (fun _ => none))))))])) := hD
  refine lv_aload_n hx hb zd_X_init_54 rfl (lv_at hl 0 rfl) ?_
  refine lv_iconst (v := 0) hx hb zd_X_init_55 (by decide) ?_
  refine va_put (D := D) (ci := 0) (v := .int 0) (ty := .int) (C := "PausedFabric") (T := zT_X) (N := 11) hx hb hT zin_X zt_X ztok_X znm_X hown hK hP hD hS 0 rfl rfl 10 (by decide) (hT _ zi_124) (fun _ h9 => h9) rfl (by decide +kernel) rfl rfl (Nat.le_of_ble_eq_true rfl) zd_X_init_56 (fun H locs hP hD hS => ?_)
  have hP : va_P D fb_cl ((b, .inr (0, [.int 0, .int 0, .int 0, .int 0, .ref q6, .ref (uu 2 0), .ref q29, .ref q38, .int 0, .int 0, .int 0])) :: (q6, .inl (cA 0, 2, .inl (upd (upd (fun _ => 0) (0 : Int32).toNatClampNeg 1) (1 : Int32).toNatClampNeg 1))) :: (((fb_wl (fb_cC cA) uu (cf_st0 (cf_near d 1 8) (cf_near x 4 40) (cf_near r 0 40) (cf_near k 1 40)) ((2, 0) :: fb_ps 32)) ++ [(q29, .inl (cA 2, 12, .inr (.inr (.inr (.inr (fun _ => none))))))]) ++ [(q38, .inl (cA 3, 100, .inr (.inr (.inr (.inr (fun _ => none))))))])) H := hP
  have hD : va_D A ((b, .inr (0, [.int 0, .int 0, .int 0, .int 0, .ref q6, .ref (uu 2 0), .ref q29, .ref q38, .int 0, .int 0, .int 0])) :: (q6, .inl (cA 0, 2, .inl (upd (upd (fun _ => 0) (0 : Int32).toNatClampNeg 1) (1 : Int32).toNatClampNeg 1))) :: (((fb_wl (fb_cC cA) uu (cf_st0 (cf_near d 1 8) (cf_near x 4 40) (cf_near r 0 40) (cf_near k 1 40)) ((2, 0) :: fb_ps 32)) ++ [(q29, .inl (cA 2, 12, .inr (.inr (.inr (.inr (fun _ => none))))))]) ++ [(q38, .inl (cA 3, 100, .inr (.inr (.inr (.inr (fun _ => none))))))])) := hD
  refine lv_aload_n hx hb zd_X_init_59 rfl (lv_at hl 0 rfl) ?_
  refine lv_iload_n hx hb zd_X_init_60 rfl (lv_at hl 1 rfl) ?_
  refine lv_iconst (v := 1) hx hb zd_X_init_61 (by decide) ?_
  refine lv_bipush (v := 8) hx hb zd_X_init_62 (by decide) ?_
  refine pw_SiX (bytes := zb_X_nearest) (maxL := 3) (ret := (some .int)) (As := [.int d, .int 1, .int 8]) (rest := [.ref b]) ⟨hx, hb, hml, hown, hT⟩ (c_X_nearest l D cA (fb_cC cA) (fun _ _ => 0) [] (fun _ _ => 0) d 1 8) (cwS 3 hT (fb_gS zi_111 zi_112 zi_1 zc_X_nearest) rfl rfl rfl (by decide +kernel) ⟨Nat.le_of_ble_eq_true rfl, Nat.le_of_ble_eq_true rfl⟩) hK hP hD hS hA rfl hl.1 rfl (lv_room (Nat.le_of_ble_eq_true rfl)) zd_X_init_64 ⟨show 228 ≤ 228 by decide, show 978 ≤ 978 by decide⟩ (fun rx sx H locs hp hP hD hS => ?_)
  rw [hp.1]
  refine va_putF (D := D) (ci := 0) (v := .int (cf_near d 1 8)) (ty := .int) (C := "PausedFabric") (T := zT_X) (N := 11) hx hb hT zin_X zt_X ztok_X znm_X hown hK hP hD hS 0 rfl rfl 0 (by decide) (hT _ zi_114) (fun _ h9 => h9) rfl hin rfl (by decide +kernel) rfl rfl (Nat.le_of_ble_eq_true rfl) zd_X_init_67 (fun H locs hP hD hS => ?_)
  have hP : va_P D fb_cl ((b, .inr (0, [.int (cf_near d 1 8), .int 0, .int 0, .int 0, .ref q6, .ref (uu 2 0), .ref q29, .ref q38, .int 0, .int 0, .int 0])) :: (q6, .inl (cA 0, 2, .inl (upd (upd (fun _ => 0) (0 : Int32).toNatClampNeg 1) (1 : Int32).toNatClampNeg 1))) :: (((fb_wl (fb_cC cA) uu (cf_st0 (cf_near d 1 8) (cf_near x 4 40) (cf_near r 0 40) (cf_near k 1 40)) ((2, 0) :: fb_ps 32)) ++ [(q29, .inl (cA 2, 12, .inr (.inr (.inr (.inr (fun _ => none))))))]) ++ [(q38, .inl (cA 3, 100, .inr (.inr (.inr (.inr (fun _ => none))))))])) H := hP
  have hD : va_D A ((b, .inr (0, [.int (cf_near d 1 8), .int 0, .int 0, .int 0, .ref q6, .ref (uu 2 0), .ref q29, .ref q38, .int 0, .int 0, .int 0])) :: (q6, .inl (cA 0, 2, .inl (upd (upd (fun _ => 0) (0 : Int32).toNatClampNeg 1) (1 : Int32).toNatClampNeg 1))) :: (((fb_wl (fb_cC cA) uu (cf_st0 (cf_near d 1 8) (cf_near x 4 40) (cf_near r 0 40) (cf_near k 1 40)) ((2, 0) :: fb_ps 32)) ++ [(q29, .inl (cA 2, 12, .inr (.inr (.inr (.inr (fun _ => none))))))]) ++ [(q38, .inl (cA 3, 100, .inr (.inr (.inr (.inr (fun _ => none))))))])) := hD
  refine lv_aload_n hx hb zd_X_init_70 rfl (lv_at hl 0 rfl) ?_
  refine lv_iload_n hx hb zd_X_init_71 rfl (lv_at hl 2 rfl) ?_
  refine lv_iconst (v := 4) hx hb zd_X_init_72 (by decide) ?_
  refine lv_bipush (v := 40) hx hb zd_X_init_73 (by decide) ?_
  refine pw_SiX (bytes := zb_X_nearest) (maxL := 3) (ret := (some .int)) (As := [.int x, .int 4, .int 40]) (rest := [.ref b]) ⟨hx, hb, hml, hown, hT⟩ (c_X_nearest l D cA (fb_cC cA) (fun _ _ => 0) [] (fun _ _ => 0) x 4 40) (cwS 3 hT (fb_gS zi_111 zi_112 zi_1 zc_X_nearest) rfl rfl rfl (by decide +kernel) ⟨Nat.le_of_ble_eq_true rfl, Nat.le_of_ble_eq_true rfl⟩) hK hP hD hS hA rfl hl.1 rfl (lv_room (Nat.le_of_ble_eq_true rfl)) zd_X_init_75 ⟨show 228 ≤ 228 by decide, show 978 ≤ 978 by decide⟩ (fun rx sx H locs hp hP hD hS => ?_)
  rw [hp.1]
  refine va_putF (D := D) (ci := 0) (v := .int (cf_near x 4 40)) (ty := .int) (C := "PausedFabric") (T := zT_X) (N := 11) hx hb hT zin_X zt_X ztok_X znm_X hown hK hP hD hS 0 rfl rfl 1 (by decide) (hT _ zi_115) (fun _ h9 => h9) rfl hin rfl (by decide +kernel) rfl rfl (Nat.le_of_ble_eq_true rfl) zd_X_init_78 (fun H locs hP hD hS => ?_)
  have hP : va_P D fb_cl ((b, .inr (0, [.int (cf_near d 1 8), .int (cf_near x 4 40), .int 0, .int 0, .ref q6, .ref (uu 2 0), .ref q29, .ref q38, .int 0, .int 0, .int 0])) :: (q6, .inl (cA 0, 2, .inl (upd (upd (fun _ => 0) (0 : Int32).toNatClampNeg 1) (1 : Int32).toNatClampNeg 1))) :: (((fb_wl (fb_cC cA) uu (cf_st0 (cf_near d 1 8) (cf_near x 4 40) (cf_near r 0 40) (cf_near k 1 40)) ((2, 0) :: fb_ps 32)) ++ [(q29, .inl (cA 2, 12, .inr (.inr (.inr (.inr (fun _ => none))))))]) ++ [(q38, .inl (cA 3, 100, .inr (.inr (.inr (.inr (fun _ => none))))))])) H := hP
  have hD : va_D A ((b, .inr (0, [.int (cf_near d 1 8), .int (cf_near x 4 40), .int 0, .int 0, .ref q6, .ref (uu 2 0), .ref q29, .ref q38, .int 0, .int 0, .int 0])) :: (q6, .inl (cA 0, 2, .inl (upd (upd (fun _ => 0) (0 : Int32).toNatClampNeg 1) (1 : Int32).toNatClampNeg 1))) :: (((fb_wl (fb_cC cA) uu (cf_st0 (cf_near d 1 8) (cf_near x 4 40) (cf_near r 0 40) (cf_near k 1 40)) ((2, 0) :: fb_ps 32)) ++ [(q29, .inl (cA 2, 12, .inr (.inr (.inr (.inr (fun _ => none))))))]) ++ [(q38, .inl (cA 3, 100, .inr (.inr (.inr (.inr (fun _ => none))))))])) := hD
  refine lv_aload_n hx hb zd_X_init_81 rfl (lv_at hl 0 rfl) ?_
  refine lv_iload_n hx hb zd_X_init_82 rfl (lv_at hl 3 rfl) ?_
  refine lv_iconst (v := 0) hx hb zd_X_init_83 (by decide) ?_
  refine lv_bipush (v := 40) hx hb zd_X_init_84 (by decide) ?_
  refine pw_SiX (bytes := zb_X_nearest) (maxL := 3) (ret := (some .int)) (As := [.int r, .int 0, .int 40]) (rest := [.ref b]) ⟨hx, hb, hml, hown, hT⟩ (c_X_nearest l D cA (fb_cC cA) (fun _ _ => 0) [] (fun _ _ => 0) r 0 40) (cwS 3 hT (fb_gS zi_111 zi_112 zi_1 zc_X_nearest) rfl rfl rfl (by decide +kernel) ⟨Nat.le_of_ble_eq_true rfl, Nat.le_of_ble_eq_true rfl⟩) hK hP hD hS hA rfl hl.1 rfl (lv_room (Nat.le_of_ble_eq_true rfl)) zd_X_init_86 ⟨show 228 ≤ 228 by decide, show 978 ≤ 978 by decide⟩ (fun rx sx H locs hp hP hD hS => ?_)
  rw [hp.1]
  refine va_putF (D := D) (ci := 0) (v := .int (cf_near r 0 40)) (ty := .int) (C := "PausedFabric") (T := zT_X) (N := 11) hx hb hT zin_X zt_X ztok_X znm_X hown hK hP hD hS 0 rfl rfl 2 (by decide) (hT _ zi_116) (fun _ h9 => h9) rfl hin rfl (by decide +kernel) rfl rfl (Nat.le_of_ble_eq_true rfl) zd_X_init_89 (fun H locs hP hD hS => ?_)
  have hP : va_P D fb_cl ((b, .inr (0, [.int (cf_near d 1 8), .int (cf_near x 4 40), .int (cf_near r 0 40), .int 0, .ref q6, .ref (uu 2 0), .ref q29, .ref q38, .int 0, .int 0, .int 0])) :: (q6, .inl (cA 0, 2, .inl (upd (upd (fun _ => 0) (0 : Int32).toNatClampNeg 1) (1 : Int32).toNatClampNeg 1))) :: (((fb_wl (fb_cC cA) uu (cf_st0 (cf_near d 1 8) (cf_near x 4 40) (cf_near r 0 40) (cf_near k 1 40)) ((2, 0) :: fb_ps 32)) ++ [(q29, .inl (cA 2, 12, .inr (.inr (.inr (.inr (fun _ => none))))))]) ++ [(q38, .inl (cA 3, 100, .inr (.inr (.inr (.inr (fun _ => none))))))])) H := hP
  have hD : va_D A ((b, .inr (0, [.int (cf_near d 1 8), .int (cf_near x 4 40), .int (cf_near r 0 40), .int 0, .ref q6, .ref (uu 2 0), .ref q29, .ref q38, .int 0, .int 0, .int 0])) :: (q6, .inl (cA 0, 2, .inl (upd (upd (fun _ => 0) (0 : Int32).toNatClampNeg 1) (1 : Int32).toNatClampNeg 1))) :: (((fb_wl (fb_cC cA) uu (cf_st0 (cf_near d 1 8) (cf_near x 4 40) (cf_near r 0 40) (cf_near k 1 40)) ((2, 0) :: fb_ps 32)) ++ [(q29, .inl (cA 2, 12, .inr (.inr (.inr (.inr (fun _ => none))))))]) ++ [(q38, .inl (cA 3, 100, .inr (.inr (.inr (.inr (fun _ => none))))))])) := hD
  refine lv_aload_n hx hb zd_X_init_92 rfl (lv_at hl 0 rfl) ?_
  refine lv_iload hx hb zd_X_init_93 (lv_at hl 4 rfl) ?_
  refine lv_iconst (v := 1) hx hb zd_X_init_95 (by decide) ?_
  refine lv_bipush (v := 40) hx hb zd_X_init_96 (by decide) ?_
  refine pw_SiX (bytes := zb_X_nearest) (maxL := 3) (ret := (some .int)) (As := [.int k, .int 1, .int 40]) (rest := [.ref b]) ⟨hx, hb, hml, hown, hT⟩ (c_X_nearest l D cA (fb_cC cA) (fun _ _ => 0) [] (fun _ _ => 0) k 1 40) (cwS 3 hT (fb_gS zi_111 zi_112 zi_1 zc_X_nearest) rfl rfl rfl (by decide +kernel) ⟨Nat.le_of_ble_eq_true rfl, Nat.le_of_ble_eq_true rfl⟩) hK hP hD hS hA rfl hl.1 rfl (lv_room (Nat.le_of_ble_eq_true rfl)) zd_X_init_98 ⟨show 228 ≤ 228 by decide, show 978 ≤ 978 by decide⟩ (fun rx sx H locs hp hP hD hS => ?_)
  rw [hp.1]
  refine va_putF (D := D) (ci := 0) (v := .int (cf_near k 1 40)) (ty := .int) (C := "PausedFabric") (T := zT_X) (N := 11) hx hb hT zin_X zt_X ztok_X znm_X hown hK hP hD hS 0 rfl rfl 3 (by decide) (hT _ zi_117) (fun _ h9 => h9) rfl hin rfl (by decide +kernel) rfl rfl (Nat.le_of_ble_eq_true rfl) zd_X_init_101 (fun H locs hP hD hS => ?_)
  have hP : va_P D fb_cl ((b, .inr (0, [.int (cf_near d 1 8), .int (cf_near x 4 40), .int (cf_near r 0 40), .int (cf_near k 1 40), .ref q6, .ref (uu 2 0), .ref q29, .ref q38, .int 0, .int 0, .int 0])) :: (q6, .inl (cA 0, 2, .inl (upd (upd (fun _ => 0) (0 : Int32).toNatClampNeg 1) (1 : Int32).toNatClampNeg 1))) :: (((fb_wl (fb_cC cA) uu (cf_st0 (cf_near d 1 8) (cf_near x 4 40) (cf_near r 0 40) (cf_near k 1 40)) ((2, 0) :: fb_ps 32)) ++ [(q29, .inl (cA 2, 12, .inr (.inr (.inr (.inr (fun _ => none))))))]) ++ [(q38, .inl (cA 3, 100, .inr (.inr (.inr (.inr (fun _ => none))))))])) H := hP
  have hD : va_D A ((b, .inr (0, [.int (cf_near d 1 8), .int (cf_near x 4 40), .int (cf_near r 0 40), .int (cf_near k 1 40), .ref q6, .ref (uu 2 0), .ref q29, .ref q38, .int 0, .int 0, .int 0])) :: (q6, .inl (cA 0, 2, .inl (upd (upd (fun _ => 0) (0 : Int32).toNatClampNeg 1) (1 : Int32).toNatClampNeg 1))) :: (((fb_wl (fb_cC cA) uu (cf_st0 (cf_near d 1 8) (cf_near x 4 40) (cf_near r 0 40) (cf_near k 1 40)) ((2, 0) :: fb_ps 32)) ++ [(q29, .inl (cA 2, 12, .inr (.inr (.inr (.inr (fun _ => none))))))]) ++ [(q38, .inl (cA 3, 100, .inr (.inr (.inr (.inr (fun _ => none))))))])) := hD
  rw [← fb_wl_init (cA := cA) (u := uu) (b := b) (q6 := q6) (q29 := q29) (q38 := q38) (d := (cf_near d 1 8)) (x := (cf_near x 4 40)) (r := (cf_near r 0 40)) (k0 := (cf_near k 1 40))] at hP hD
  exact W.vret hx hb hr (fun t ht hW => ⟨⟨_, rfl, fb_init00, by rw [ht]; exact hP, va_K.moved hW.alike hK, hD⟩, hS.F ht⟩) hS.2.2 zd_X_init_104
