/-! THE CLAIM OUT OF ONE WALK OF THE LAW'S BODY. Your part is whole_start (and what it stands on); all else here is the same for every law, but numbers. -/
def R_law : String := "PausedFabricLaw"
def lw_P (b : Addr) (xs : List Int32) (args : Array Value) (s : State) : Prop := args = #[.ref b] ∧ s.IntsAt b xs ∧ xs.length ≤ 2052 ∧ (Jvm.Cond.and given_1 narrow_1).before args s = true
def lw_Q (_ : Array Value) (s : State) (o : Outcome) (t : State) : Prop := o = .returned (some (.int 1)) ∧ Framed s o t [] 600000 7302250
def lw_Z (below : List Frame) (a : Array Value) (s : State) : State → Prop := fun t => ∃ o, t.status = .running ∧ Ended t below o ∧ lw_Q a s o t
/-- the law's own end, with 1 on the stack, nothing written that was there before, its room as the claim has it -/
theorem lw_ret {p : Program} {l : Launch} {e : Env} {s : State} {m : MethodId} {below : List Frame} {meth : Method} {c : Code} {b : Nat} (hx : p.tables.exec = Jvm.exec) (hb : c.code = code) (hr : meth.sig.returnType = ret) (hlocks : meth.locks = false) {pc : Nat} {H : Heap} {ls : Array Slot} (hdg : decode code pc = .ok (.ireturn, 1)) : W p l e room_1 s m #[Value.ref b] below meth c H [] 600000 7302250 (lw_Z below #[Value.ref b] s) (F0 m pc ls [.int 1]) := by
  intro T hT X
  obtain ⟨fs, hret, hrun, hended, hW, hframe⟩ := X.leave (v := some (.int 1)) (hlocks := hlocks) (fun h => by rw [hr] at h; cases h)
  have hmeth' : T.vm.method? m = some meth := X.method'
  refine ⟨T.setFrames fs, ?_, .returned (some (.int 1)), hrun, hended, rfl, ⟨_, rfl⟩, hW, hframe⟩
  jvm_step X.here [X.here.top, hx, hb, hdg, hmeth', hr, ret, narrow_b1]
  (try refine ⟨rfl, ?_⟩); (try refine ⟨rfl, ?_⟩)
  first | (intro acts; rw [hret _ acts rfl rfl rfl]) | rw [hret _ _ rfl rfl rfl]
  exact Steps.refl _
/-- what holds at the law's entry: the machine, the code, the tables' words (any of lw_tbl by 'hts w (by decide +kernel)'), the script of L ints xs at the cell b, what the Statement gives of the start (any of its parts by flat_of_before) -/
def lw_At (p : Program) (s : State) (m : MethodId) (meth : Method) (c : Code) (b L : Nat) (xs : Nat → Int32) : Prop :=
  p.tables.exec = Jvm.exec ∧ c.code = code ∧ meth.sig.returnType = ret ∧ c.maxLocals = 4 ∧ s.vm.findClass R_law = some m.cls ∧ (∀ w ∈ lw_tbl, w.before #[Value.ref b] s = true) ∧ va_X b L xs s s.heap ∧ b < s.heap.size ∧ meth.locks = false ∧ (Jvm.Cond.and given_1 narrow_1).before #[Value.ref b] s = true
theorem pw_cell {p : Program} {l : Launch} {e : Env} {R : Room} {s : State} {m : MethodId} {args : Array Value} {below : List Frame} {meth : Method} {c : Code} {H : Heap} {locs : List Loc} {cells slots : Nat} {Q : State → Prop} {cc : ByteArray} {pc nL index b L : Nat} {xs : Nat → Int32} {ls : Array Slot} {rest st0 : List Value} {D : va_G} {cl : List vw_C} {H0 : Heap} {A : Nat → Prop} {ws : va_W} {Ts : List Cond} {own : String} {ret : Option FieldType} {k : Int32}
    (S : CallFix p m c cc nL s args Ts own) (cw : CallB R s args own index zy_L_cell zb_L_cell 2 ret (zw_L_cell :: lw_gd) { frames := 0, cells := 0, slots := 0, locals := 0 } 0 0 2 ∧ (Cond.static zy_L_cell).before args s = true) (hX : va_X b L xs s H0) (hbl : b < H0.size) (hbA : ¬ A b) (hL : L < 2 ^ 31) (hk : ¬ k < 0) (hP : va_P D cl ws H) (hD : va_D A ws) (hS : va_S A H0 H locs) (hA : ∀ q, H0.size ≤ q → A q)
    (hsz : ls.size = nL) (hst : st0 = .int k :: .ref b :: rest) (hW : 2 * (F0 m pc ls st0).monitorRoom + (rest.map fun v => v.category).sum ≤ 8) (hdg : decode cc pc = .ok (.invokestatic index, 3)) (hf : cells ≤ R.cells ∧ slots ≤ R.slots)
    (kk : ∀ (H1 : Heap) (locs1 : List Loc), va_P D cl ws H1 → va_D A ws → va_S A H0 H1 locs1 → W p l e R s m args below meth c H1 locs1 cells slots Q (F0 m (pc + 3) ls (.int (lw_cell L xs k) :: rest))) : W p l e R s m args below meth c H locs cells slots Q (F0 m pc ls st0) := by
  have hX1 : va_X b L xs s H := hX.kept (hS.2.1 b hbl hbA)
  have hb1 : b < H.size := Nat.lt_of_lt_of_le hbl hS.1
  refine va_calli (va_runS (As := [.ref b, .int k]) S (c_L_cell l b L xs k hk hL H.size) cw ⟨fun a U g mk q => ?_, fun U hU hW => ⟨rfl, by rw [hU], hb1, by rw [hU]; exact va_X.moved hW.alike hX1⟩⟩ rfl rfl hsz hst hW hdg hf) hS (fun q h1 h2 => absurd h2 (by show ¬ H.size ≤ q; omega)) (fun q h => hA q (Nat.le_trans hS.1 h)) (fun r u t H1 locs1 ht hvm hp hB hz hk1 hS1 => ?_)
  · obtain ⟨q0, q1, q2, q3⟩ := q
    exact ⟨q0, q1, q2, va_X.moved (u := U) (U := U.calling g mk a) (Vm.Alike.refl U.vm) q3⟩
  · rw [hp]
    exact kk H1 locs1 (hP.kept (fun k x hx => hk1 x.1 ((hP k x hx).lt) (by show ¬ H.size ≤ x.1; have := (hP k x hx).lt; omega))) hD hS1
set_option maxHeartbeats 8000000 in
set_option maxRecDepth 100000 in
theorem whole_start {p : Program} {e : Env} {s : State} {m : MethodId} {below : List Frame} {meth : Method} {c : Code} (l : Launch) {b L : Nat} {xs : Nat → Int32} (hL : L ≤ 2052) (C0 : lw_At p s m meth c b L xs) : W p l e room_1 s m #[Value.ref b] below meth c s.heap [] 0 0 (lw_Z below #[Value.ref b] s) (entryFrame m ([Value.ref b] : List Value).toArray 4) := by
  obtain ⟨hx, hb, hr, hml, hown, hts, hX, hbl, hlocks, -⟩ := C0
  have hown : s.vm.findClass "PausedFabricLaw" = some m.cls := hown
  have hT : ∀ w ∈ lw_gd, w.before #[Value.ref b] s = true := fun w h => hts w (List.mem_filter.mp h).1
  obtain ⟨D, cA, hK⟩ := lw_K hts
  obtain ⟨hao1, hao4, hao2, hao3, hnw⟩ := lw_ao hts
  have hLL : L < 2 ^ 31 := by omega
  have hA : ∀ q : Nat, s.heap.size ≤ q → s.heap.size ≤ q := fun q h => h
  have hbA : ¬ s.heap.size ≤ b := by omega
  have hS : va_S (fun q => s.heap.size ≤ q) s.heap s.heap [] := va_S.rf
  have hP : va_P D fb_cl [] s.heap := fun k q hk => by simp at hk
  have hD : va_D (fun q => s.heap.size ≤ q) [] := ⟨fun i j p q hi => by simp at hi, fun k q hk => by simp at hk⟩
  have hl := lv_entry ([.ref b]) (n := 4) (Nat.le_of_ble_eq_true rfl)
  rw [lg_entry_eq]
  generalize (lg_sl ([.ref b]) ++ List.replicate (4 - (lg_sl ([.ref b])).length) Slot.unset).toArray = ls at hl ⊢
  have hl : lv_has ls 4 [(0, .ref b)] := hl
  refine va_new (A := (fun q => s.heap.size ≤ q)) (ci := 0) (fs := [.int 0, .int 0, .int 0, .int 0, .null, .null, .null, .null, .int 0, .int 0, .int 0]) (C := "PausedFabric") (T := zT_X) (N := 11) hx hb hT zin_X zt_X ztok_X hown (hT _ zi_9) (hT _ zi_10) (hT _ zi_1) hK hP hD hS hA rfl (fun j hj => by rcases (show j = 0 ∨ j = 1 ∨ j = 2 ∨ j = 3 ∨ j = 4 ∨ j = 5 ∨ j = 6 ∨ j = 7 ∨ j = 8 ∨ j = 9 ∨ j = 10 by omega) with rfl | rfl | rfl | rfl | rfl | rfl | rfl | rfl | rfl | rfl | rfl <;> rfl) (Nat.le_of_ble_eq_true rfl) (Nat.le_of_ble_eq_true rfl) zd_L_law_0 (fun q0 H hP hD hS => ?_)
  refine W.widen (k := 1) (n := 11) (by omega) (by omega) ?_
  refine lv_dup hx hb zd_L_law_3 rfl ?_
  have hP : va_P D fb_cl [(q0, .inr (0, [.int 0, .int 0, .int 0, .int 0, .null, .null, .null, .null, .int 0, .int 0, .int 0]))] H := hP
  have hD : va_D (fun q => s.heap.size ≤ q) [(q0, .inr (0, [.int 0, .int 0, .int 0, .int 0, .null, .null, .null, .null, .int 0, .int 0, .int 0]))] := hD
  refine lv_aload_n hx hb zd_L_law_4 rfl (lv_at hl 0 rfl) ?_
  refine lv_iconst (v := 0) hx hb zd_L_law_5 (by decide) ?_
  refine pw_cell (A := (fun q => s.heap.size ≤ q)) (ws := [(q0, .inr (0, [.int 0, .int 0, .int 0, .int 0, .null, .null, .null, .null, .int 0, .int 0, .int 0]))]) (ret := (some .int)) (k := 0) (rest := [.ref q0, .ref q0]) ⟨hx, hb, hml, hown, hT⟩ (cwS 2 hT (fb_gS zi_424 zi_425 zi_0 zc_L_cell) rfl rfl rfl (by decide +kernel) ⟨Nat.le_of_ble_eq_true rfl, Nat.le_of_ble_eq_true rfl⟩) hX hbl hbA hLL (by decide) hP hD hS hA hl.1 rfl (lv_room (Nat.le_of_ble_eq_true rfl)) zd_L_law_6 ⟨Nat.le_of_ble_eq_true rfl, Nat.le_of_ble_eq_true rfl⟩ (fun H locs hP hD hS => ?_)
  refine lv_aload_n hx hb zd_L_law_9 rfl (lv_at hl 0 rfl) ?_
  refine lv_iconst (v := 1) hx hb zd_L_law_10 (by decide) ?_
  refine pw_cell (A := (fun q => s.heap.size ≤ q)) (ws := [(q0, .inr (0, [.int 0, .int 0, .int 0, .int 0, .null, .null, .null, .null, .int 0, .int 0, .int 0]))]) (ret := (some .int)) (k := 1) (rest := [.int (lw_cell L xs 0), .ref q0, .ref q0]) ⟨hx, hb, hml, hown, hT⟩ (cwS 2 hT (fb_gS zi_424 zi_425 zi_0 zc_L_cell) rfl rfl rfl (by decide +kernel) ⟨Nat.le_of_ble_eq_true rfl, Nat.le_of_ble_eq_true rfl⟩) hX hbl hbA hLL (by decide) hP hD hS hA hl.1 rfl (lv_room (Nat.le_of_ble_eq_true rfl)) zd_L_law_11 ⟨Nat.le_of_ble_eq_true rfl, Nat.le_of_ble_eq_true rfl⟩ (fun H locs hP hD hS => ?_)
  refine lv_aload_n hx hb zd_L_law_14 rfl (lv_at hl 0 rfl) ?_
  refine lv_iconst (v := 2) hx hb zd_L_law_15 (by decide) ?_
  refine pw_cell (A := (fun q => s.heap.size ≤ q)) (ws := [(q0, .inr (0, [.int 0, .int 0, .int 0, .int 0, .null, .null, .null, .null, .int 0, .int 0, .int 0]))]) (ret := (some .int)) (k := 2) (rest := [.int (lw_cell L xs 1), .int (lw_cell L xs 0), .ref q0, .ref q0]) ⟨hx, hb, hml, hown, hT⟩ (cwS 2 hT (fb_gS zi_424 zi_425 zi_0 zc_L_cell) rfl rfl rfl (by decide +kernel) ⟨Nat.le_of_ble_eq_true rfl, Nat.le_of_ble_eq_true rfl⟩) hX hbl hbA hLL (by decide) hP hD hS hA hl.1 rfl (lv_room (Nat.le_of_ble_eq_true rfl)) zd_L_law_16 ⟨Nat.le_of_ble_eq_true rfl, Nat.le_of_ble_eq_true rfl⟩ (fun H locs hP hD hS => ?_)
  refine lv_aload_n hx hb zd_L_law_19 rfl (lv_at hl 0 rfl) ?_
  refine lv_iconst (v := 3) hx hb zd_L_law_20 (by decide) ?_
  refine pw_cell (A := (fun q => s.heap.size ≤ q)) (ws := [(q0, .inr (0, [.int 0, .int 0, .int 0, .int 0, .null, .null, .null, .null, .int 0, .int 0, .int 0]))]) (ret := (some .int)) (k := 3) (rest := [.int (lw_cell L xs 2), .int (lw_cell L xs 1), .int (lw_cell L xs 0), .ref q0, .ref q0]) ⟨hx, hb, hml, hown, hT⟩ (cwS 2 hT (fb_gS zi_424 zi_425 zi_0 zc_L_cell) rfl rfl rfl (by decide +kernel) ⟨Nat.le_of_ble_eq_true rfl, Nat.le_of_ble_eq_true rfl⟩) hX hbl hbA hLL (by decide) hP hD hS hA hl.1 rfl (lv_room (Nat.le_of_ble_eq_true rfl)) zd_L_law_21 ⟨Nat.le_of_ble_eq_true rfl, Nat.le_of_ble_eq_true rfl⟩ (fun H locs hP hD hS => ?_)
  have hPc : va_P D fb_cl [(q0, .inr (0, [.int 0, .int 0, .int 0, .int 0, .null, .null, .null, .null, .int 0, .int 0, .int 0]))] H := fb_Pr (a := ([] : va_W)) hP
  have hDc : va_D (fun q => s.heap.size ≤ q) [(q0, .inr (0, [.int 0, .int 0, .int 0, .int 0, .null, .null, .null, .null, .int 0, .int 0, .int 0]))] := fb_Dr (a := ([] : va_W)) hD
  have hFc : ∀ q, va_A [(q0, .inr (0, [.int 0, .int 0, .int 0, .int 0, .null, .null, .null, .null, .int 0, .int 0, .int 0]))] H.size q → s.heap.size ≤ q := va_free (A0 := (fun q => s.heap.size ≤ q)) hDc hS hA [0] rfl
  refine va_callv (A0 := (fun q => s.heap.size ≤ q)) (va_runI (As := [.int (lw_cell L xs 0), .int (lw_cell L xs 1), .int (lw_cell L xs 2), .int (lw_cell L xs 3)]) (rest := [.ref q0]) ⟨hx, hb, hml, hown, hT⟩ (c_X_init l D cA q0 (lw_cell L xs 0) (lw_cell L xs 1) (lw_cell L xs 2) (lw_cell L xs 3) H.size) (cwI 4 hT (fb_gI zc_X_init) rfl rfl rfl (hT _ zi_1) (hT _ zi_11) (hT _ zi_12) rfl (by decide +kernel) ⟨Nat.le_of_ble_eq_true rfl, Nat.le_of_ble_eq_true rfl⟩) ⟨fun a U g mk q => by obtain ⟨q0, q1, qP, qK, qD, qA, qB, qC, qE, qN⟩ := q; exact ⟨q0, q1, qP, va_K.moved (u := U) (U := U.calling g mk a) (Vm.Alike.refl U.vm) qK, qD, va_AO.moved (u := U) (U := U.calling g mk a) (Vm.Alike.refl U.vm) qA, va_AO.moved (u := U) (U := U.calling g mk a) (Vm.Alike.refl U.vm) qB, va_AO.moved (u := U) (U := U.calling g mk a) (Vm.Alike.refl U.vm) qC, va_AO.moved (u := U) (U := U.calling g mk a) (Vm.Alike.refl U.vm) qE, va_Nw.same rfl rfl qN⟩, fun U hU hW => ⟨rfl, by rw [hU], by rw [hU]; exact hPc, va_K.moved hW.alike hK, hDc.weaken (fun _ _ _ _ => trivial), va_AO.moved hW.alike hao1, va_AO.moved hW.alike hao4, va_AO.moved hW.alike hao2, va_AO.moved hW.alike hao3, va_Nw.warmM hW hnw⟩⟩ rfl rfl hl.1 rfl (lv_room (Nat.le_of_ble_eq_true rfl)) zd_L_law_24 ⟨Nat.le_of_ble_eq_true rfl, Nat.le_of_ble_eq_true rfl⟩) hS (fun q _ h => hFc q h) hFc (fun uu t H1 locs ht hvm hq5 hB hsz9 hk9 hS => ?_)
  obtain ⟨hP1, hK1, hD1⟩ := hB
  rw [ht] at hP1
  obtain ⟨hP, hD⟩ := fb_join (A := (fun q => s.heap.size ≤ q)) (wr := ([] : va_W)) (wc := [(q0, .inr (0, [.int 0, .int 0, .int 0, .int 0, .null, .null, .null, .null, .int 0, .int 0, .int 0]))]) hP hD hFc (fun q h => h) hk9 hP1 hD1
  generalize H1 = H at hP hS ⊢
  refine W.widen (k := 229) (n := 989) (by omega) (by omega) ?_
  obtain ⟨aC, eaC⟩ : ∃ z, z = uu := ⟨_, rfl⟩
  rw [← eaC] at hP hD hq5
  have hq0 : aC 0 0 = q0 := hq5
  have hP : va_P D fb_cl (fb_wl (fb_cC cA) aC (cf_st0 (cf_near (lw_cell L xs 0) 1 8) (cf_near (lw_cell L xs 1) 4 40) (cf_near (lw_cell L xs 2) 0 40) (cf_near (lw_cell L xs 3) 1 40)) fb_LC0) H := hP
  have hD : va_D (fun q => s.heap.size ≤ q) (fb_wl (fb_cC cA) aC (cf_st0 (cf_near (lw_cell L xs 0) 1 8) (cf_near (lw_cell L xs 1) 4 40) (cf_near (lw_cell L xs 2) 0 40) (cf_near (lw_cell L xs 3) 1 40)) fb_LC0) := hD
  refine lv_astore_n (lv' := [(1, .ref q0), (0, .ref b)]) hx hb zd_L_law_27 rfl hl (by decide) rfl (fun ls hl => ?_)
  refine va_new (A := (fun q => s.heap.size ≤ q)) (ci := 5) (fs := [.int 0, .int 0, .int 0, .int 0, .int 0, .int 0, .int 0, .null, .null, .null, .null, .null, .null, .null, .null, .int 0, .null, .null, .null, .null, .null, .null, .null, .null, .null, .null, .null, .null]) (C := "PausedFabricModel") (T := zT_M) (N := 28) hx hb hT zin_M zt_M ztok_M hown (hT _ zi_427) (hT _ zi_428) (hT _ zi_5) hK hP hD hS hA rfl (fun j hj => by rcases (show j = 0 ∨ j = 1 ∨ j = 2 ∨ j = 3 ∨ j = 4 ∨ j = 5 ∨ j = 6 ∨ j = 7 ∨ j = 8 ∨ j = 9 ∨ j = 10 ∨ j = 11 ∨ j = 12 ∨ j = 13 ∨ j = 14 ∨ j = 15 ∨ j = 16 ∨ j = 17 ∨ j = 18 ∨ j = 19 ∨ j = 20 ∨ j = 21 ∨ j = 22 ∨ j = 23 ∨ j = 24 ∨ j = 25 ∨ j = 26 ∨ j = 27 by omega) with rfl | rfl | rfl | rfl | rfl | rfl | rfl | rfl | rfl | rfl | rfl | rfl | rfl | rfl | rfl | rfl | rfl | rfl | rfl | rfl | rfl | rfl | rfl | rfl | rfl | rfl | rfl | rfl <;> rfl) (Nat.le_of_ble_eq_true rfl) (Nat.le_of_ble_eq_true rfl) zd_L_law_28 (fun q28 H hP hD hS => ?_)
  refine W.widen (k := 230) (n := 1017) (by omega) (by omega) ?_
  refine lv_dup hx hb zd_L_law_31 rfl ?_
  refine lv_aload_n hx hb zd_L_law_32 rfl (lv_at hl 1 rfl) ?_
  refine lv_iconst (v := 0) hx hb zd_L_law_33 (by decide) ?_
  refine pw_cell (A := (fun q => s.heap.size ≤ q)) (ws := ((fb_wl (fb_cC cA) aC (cf_st0 (cf_near (lw_cell L xs 0) 1 8) (cf_near (lw_cell L xs 1) 4 40) (cf_near (lw_cell L xs 2) 0 40) (cf_near (lw_cell L xs 3) 1 40)) fb_LC0) ++ [(q28, .inr (5, [.int 0, .int 0, .int 0, .int 0, .int 0, .int 0, .int 0, .null, .null, .null, .null, .null, .null, .null, .null, .int 0, .null, .null, .null, .null, .null, .null, .null, .null, .null, .null, .null, .null]))])) (ret := (some .int)) (k := 0) (rest := [.ref q28, .ref q28]) ⟨hx, hb, hml, hown, hT⟩ (cwS 2 hT (fb_gS zi_424 zi_425 zi_0 zc_L_cell) rfl rfl rfl (by decide +kernel) ⟨Nat.le_of_ble_eq_true rfl, Nat.le_of_ble_eq_true rfl⟩) hX hbl hbA hLL (by decide) hP hD hS hA hl.1 rfl (lv_room (Nat.le_of_ble_eq_true rfl)) zd_L_law_34 ⟨Nat.le_of_ble_eq_true rfl, Nat.le_of_ble_eq_true rfl⟩ (fun H locs hP hD hS => ?_)
  refine lv_aload_n hx hb zd_L_law_37 rfl (lv_at hl 1 rfl) ?_
  refine lv_iconst (v := 1) hx hb zd_L_law_38 (by decide) ?_
  refine pw_cell (A := (fun q => s.heap.size ≤ q)) (ws := ((fb_wl (fb_cC cA) aC (cf_st0 (cf_near (lw_cell L xs 0) 1 8) (cf_near (lw_cell L xs 1) 4 40) (cf_near (lw_cell L xs 2) 0 40) (cf_near (lw_cell L xs 3) 1 40)) fb_LC0) ++ [(q28, .inr (5, [.int 0, .int 0, .int 0, .int 0, .int 0, .int 0, .int 0, .null, .null, .null, .null, .null, .null, .null, .null, .int 0, .null, .null, .null, .null, .null, .null, .null, .null, .null, .null, .null, .null]))])) (ret := (some .int)) (k := 1) (rest := [.int (lw_cell L xs 0), .ref q28, .ref q28]) ⟨hx, hb, hml, hown, hT⟩ (cwS 2 hT (fb_gS zi_424 zi_425 zi_0 zc_L_cell) rfl rfl rfl (by decide +kernel) ⟨Nat.le_of_ble_eq_true rfl, Nat.le_of_ble_eq_true rfl⟩) hX hbl hbA hLL (by decide) hP hD hS hA hl.1 rfl (lv_room (Nat.le_of_ble_eq_true rfl)) zd_L_law_39 ⟨Nat.le_of_ble_eq_true rfl, Nat.le_of_ble_eq_true rfl⟩ (fun H locs hP hD hS => ?_)
  refine lv_aload_n hx hb zd_L_law_42 rfl (lv_at hl 1 rfl) ?_
  refine lv_iconst (v := 2) hx hb zd_L_law_43 (by decide) ?_
  refine pw_cell (A := (fun q => s.heap.size ≤ q)) (ws := ((fb_wl (fb_cC cA) aC (cf_st0 (cf_near (lw_cell L xs 0) 1 8) (cf_near (lw_cell L xs 1) 4 40) (cf_near (lw_cell L xs 2) 0 40) (cf_near (lw_cell L xs 3) 1 40)) fb_LC0) ++ [(q28, .inr (5, [.int 0, .int 0, .int 0, .int 0, .int 0, .int 0, .int 0, .null, .null, .null, .null, .null, .null, .null, .null, .int 0, .null, .null, .null, .null, .null, .null, .null, .null, .null, .null, .null, .null]))])) (ret := (some .int)) (k := 2) (rest := [.int (lw_cell L xs 1), .int (lw_cell L xs 0), .ref q28, .ref q28]) ⟨hx, hb, hml, hown, hT⟩ (cwS 2 hT (fb_gS zi_424 zi_425 zi_0 zc_L_cell) rfl rfl rfl (by decide +kernel) ⟨Nat.le_of_ble_eq_true rfl, Nat.le_of_ble_eq_true rfl⟩) hX hbl hbA hLL (by decide) hP hD hS hA hl.1 rfl (lv_room (Nat.le_of_ble_eq_true rfl)) zd_L_law_44 ⟨Nat.le_of_ble_eq_true rfl, Nat.le_of_ble_eq_true rfl⟩ (fun H locs hP hD hS => ?_)
  refine lv_aload_n hx hb zd_L_law_47 rfl (lv_at hl 1 rfl) ?_
  refine lv_iconst (v := 3) hx hb zd_L_law_48 (by decide) ?_
  refine pw_cell (A := (fun q => s.heap.size ≤ q)) (ws := ((fb_wl (fb_cC cA) aC (cf_st0 (cf_near (lw_cell L xs 0) 1 8) (cf_near (lw_cell L xs 1) 4 40) (cf_near (lw_cell L xs 2) 0 40) (cf_near (lw_cell L xs 3) 1 40)) fb_LC0) ++ [(q28, .inr (5, [.int 0, .int 0, .int 0, .int 0, .int 0, .int 0, .int 0, .null, .null, .null, .null, .null, .null, .null, .null, .int 0, .null, .null, .null, .null, .null, .null, .null, .null, .null, .null, .null, .null]))])) (ret := (some .int)) (k := 3) (rest := [.int (lw_cell L xs 2), .int (lw_cell L xs 1), .int (lw_cell L xs 0), .ref q28, .ref q28]) ⟨hx, hb, hml, hown, hT⟩ (cwS 2 hT (fb_gS zi_424 zi_425 zi_0 zc_L_cell) rfl rfl rfl (by decide +kernel) ⟨Nat.le_of_ble_eq_true rfl, Nat.le_of_ble_eq_true rfl⟩) hX hbl hbA hLL (by decide) hP hD hS hA hl.1 rfl (lv_room (Nat.le_of_ble_eq_true rfl)) zd_L_law_49 ⟨Nat.le_of_ble_eq_true rfl, Nat.le_of_ble_eq_true rfl⟩ (fun H locs hP hD hS => ?_)
  have hPc : va_P D fb_cl [(q28, .inr (5, [.int 0, .int 0, .int 0, .int 0, .int 0, .int 0, .int 0, .null, .null, .null, .null, .null, .null, .null, .null, .int 0, .null, .null, .null, .null, .null, .null, .null, .null, .null, .null, .null, .null]))] H := fb_Pr (a := (fb_wl (fb_cC cA) aC (cf_st0 (cf_near (lw_cell L xs 0) 1 8) (cf_near (lw_cell L xs 1) 4 40) (cf_near (lw_cell L xs 2) 0 40) (cf_near (lw_cell L xs 3) 1 40)) fb_LC0)) hP
  have hDc : va_D (fun q => s.heap.size ≤ q) [(q28, .inr (5, [.int 0, .int 0, .int 0, .int 0, .int 0, .int 0, .int 0, .null, .null, .null, .null, .null, .null, .null, .null, .int 0, .null, .null, .null, .null, .null, .null, .null, .null, .null, .null, .null, .null]))] := fb_Dr (a := (fb_wl (fb_cC cA) aC (cf_st0 (cf_near (lw_cell L xs 0) 1 8) (cf_near (lw_cell L xs 1) 4 40) (cf_near (lw_cell L xs 2) 0 40) (cf_near (lw_cell L xs 3) 1 40)) fb_LC0)) hD
  have hFc : ∀ q, va_A [(q28, .inr (5, [.int 0, .int 0, .int 0, .int 0, .int 0, .int 0, .int 0, .null, .null, .null, .null, .null, .null, .null, .null, .int 0, .null, .null, .null, .null, .null, .null, .null, .null, .null, .null, .null, .null]))] H.size q → s.heap.size ≤ q := va_free (A0 := (fun q => s.heap.size ≤ q)) hDc hS hA [0] rfl
  refine va_callv (A0 := (fun q => s.heap.size ≤ q)) (va_runI (As := [.int (lw_cell L xs 0), .int (lw_cell L xs 1), .int (lw_cell L xs 2), .int (lw_cell L xs 3)]) (rest := [.ref q28]) ⟨hx, hb, hml, hown, hT⟩ (c_M_init l D cA q28 (lw_cell L xs 0) (lw_cell L xs 1) (lw_cell L xs 2) (lw_cell L xs 3) H.size) (cwI 4 hT (fb_gI zc_M_init) rfl rfl rfl (hT _ zi_5) (hT _ zi_429) (hT _ zi_430) rfl (by decide +kernel) ⟨Nat.le_of_ble_eq_true rfl, Nat.le_of_ble_eq_true rfl⟩) ⟨fun a U g mk q => by obtain ⟨q0, q1, qP, qK, qD⟩ := q; exact ⟨q0, q1, qP, va_K.moved (u := U) (U := U.calling g mk a) (Vm.Alike.refl U.vm) qK, qD⟩, fun U hU hW => ⟨rfl, by rw [hU], by rw [hU]; exact hPc, va_K.moved hW.alike hK, hDc.weaken (fun _ _ _ _ => trivial)⟩⟩ rfl rfl hl.1 rfl (lv_room (Nat.le_of_ble_eq_true rfl)) zd_L_law_52 ⟨Nat.le_of_ble_eq_true rfl, Nat.le_of_ble_eq_true rfl⟩) hS (fun q _ h => hFc q h) hFc (fun uu t H1 locs ht hvm hq5 hB hsz9 hk9 hS => ?_)
  obtain ⟨hP1, hK1, hD1⟩ := hB
  rw [ht] at hP1
  obtain ⟨hP, hD⟩ := fb_join (A := (fun q => s.heap.size ≤ q)) (wr := (fb_wl (fb_cC cA) aC (cf_st0 (cf_near (lw_cell L xs 0) 1 8) (cf_near (lw_cell L xs 1) 4 40) (cf_near (lw_cell L xs 2) 0 40) (cf_near (lw_cell L xs 3) 1 40)) fb_LC0)) (wc := [(q28, .inr (5, [.int 0, .int 0, .int 0, .int 0, .int 0, .int 0, .int 0, .null, .null, .null, .null, .null, .null, .null, .null, .int 0, .null, .null, .null, .null, .null, .null, .null, .null, .null, .null, .null, .null]))]) hP hD hFc (fun q h => h) hk9 hP1 hD1
  generalize H1 = H at hP hS ⊢
  refine W.widen (k := 250) (n := 4363) (by omega) (by omega) ?_
  rw [← fb_wl_minit (cA := cA) (b := q28) (u := uu) (d := (mf_near (lw_cell L xs 0) 1 8)) (x := (mf_near (lw_cell L xs 1) 4 40)) (r := (mf_near (lw_cell L xs 2) 0 40)) (k := (mf_near (lw_cell L xs 3) 1 40))] at hP hD
  obtain ⟨aM, eaM⟩ : ∃ z, z = fb_adM q28 uu := ⟨_, rfl⟩
  rw [← eaM] at hP hD
  have hM00 : aM 0 0 = q28 := by rw [eaM]; rfl
  refine lv_astore_n (lv' := [(2, .ref q28), (1, .ref q0), (0, .ref b)]) hx hb zd_L_law_55 rfl hl (by decide) rfl (fun ls hl => ?_)
  refine lv_iconst (v := 4) hx hb zd_L_law_56 (by decide) ?_
  refine lv_istore_n (lv' := [(3, .int 4), (2, .ref q28), (1, .ref q0), (0, .ref b)]) hx hb zd_L_law_57 rfl hl (by decide) rfl (fun ls hl => ?_)
  have hn0 := near_rg (v := (lw_cell L xs 0)) (show (1 : Int32) ≤ 8 by decide)
  have hn1 := near_rg (v := (lw_cell L xs 1)) (show (4 : Int32) ≤ 40 by decide)
  have hn2 := near_rg (v := (lw_cell L xs 2)) (show (0 : Int32) ≤ 40 by decide)
  have hn3 := near_rg (v := (lw_cell L xs 3)) (show (1 : Int32) ≤ 40 by decide)
  have hCO : CO 0 0 0 (cf_st0 (cf_near (lw_cell L xs 0) 1 8) (cf_near (lw_cell L xs 1) 4 40) (cf_near (lw_cell L xs 2) 0 40) (cf_near (lw_cell L xs 3) 1 40)) (mf_st0 (mf_near (lw_cell L xs 0) 1 8) (mf_near (lw_cell L xs 1) 4 40) (mf_near (lw_cell L xs 2) 0 40) (mf_near (lw_cell L xs 3) 1 40)) := ⟨fb_okC0 (hn0.1 ▸ hn0.2) (hn1.1 ▸ hn1.2) (hn2.1 ▸ hn2.2) (hn3.1 ▸ hn3.2), fb_okM0 hn0.2 hn1.2 hn2.2 hn3.2, by omega, by omega, by omega, co_init _ _ _ _⟩
  refine W.widen (k := 250 + 2 * 0) (n := 4363 + 16 * 0) (by omega) (by omega) ?_
  refine pw_loopC (n := (L - 4) / 4) (fc := fun j => 250 + 2 * j) (fs := fun j => 4363 + 16 * j) (Inv := fun (j : Nat) (H : Heap) (locs : List Loc) (ls : Array Slot) => ∃ (fl fr T : Nat) (sC sM : fb_S) (aC aM : Nat → Nat → Nat) (LC : fb_L), CO fl fr T sC sM ∧ T ≤ 20 * j ∧ fb_lvC LC fl fr ∧ lv_has ls 4 [(0, .ref b), (1, .ref (aC 0 0)), (2, .ref (aM 0 0)), (3, .int (nI (4 + 4 * j)))] ∧ va_P D fb_cl (fb_wl (fb_cM cA) aM sM fb_LM ++ fb_wl (fb_cC cA) aC sC LC) H ∧ va_D (fun q => s.heap.size ≤ q) (fb_wl (fb_cM cA) aM sM fb_LM ++ fb_wl (fb_cC cA) aC sC LC) ∧ va_S (fun q => s.heap.size ≤ q) s.heap H locs) ?_ ?_ ?_
  · skip
    intro j hj H locs ls hI ihj
    obtain ⟨fl, fr, T, sC, sM, aC, aM, LC, hCO, hT20, hLv, hl, hP, hD, hS⟩ := hI
    obtain ⟨okC, okM, hfl, hfr, hTb, hCP⟩ := hCO
    have hCO : CO fl fr T sC sM := ⟨okC, okM, hfl, hfr, hTb, hCP⟩
    have hflr : fl ≤ 12 ∧ fr ≤ 100 ∧ T ≤ 30000 := ⟨hfl, hfr, by omega⟩
    have hj4 : 4 + 4 * j + 4 ≤ L := by omega
    have hj5 : j < 512 := by omega
    refine lv_iload_n hx hb zd_L_law_58 rfl (lv_at hl 3 rfl) ?_
    refine lv_aload_n hx hb zd_L_law_59 rfl (lv_at hl 0 rfl) ?_
    refine va_slen (A := (fun q => s.heap.size ≤ q)) hx hb hX hbl hbA hS zd_L_law_60 ?_
    refine lv_iconst (v := 4) hx hb zd_L_law_61 (by decide) ?_
    refine lv_isub hx hb zd_L_law_62 ?_
    refine lv_icmp_gt (tgt := 643) hx hb zd_L_law_63 (by decide) (fun h9 => absurd h9 (lw_go hj hL)) (fun _ => ?_)
    refine lv_aload_n hx hb zd_L_law_66 rfl (lv_at hl 0 rfl) ?_
    refine lv_iload_n hx hb zd_L_law_67 rfl (lv_at hl 3 rfl) ?_
    refine va_sld (A := (fun q => s.heap.size ≤ q)) hx hb hX hbl hbA hS (vp_in_nI (by omega) hLL) zd_L_law_68 ?_
    refine lv_bipush (v := 31) hx hb zd_L_law_69 (by decide) ?_
    refine lv_iand hx hb zd_L_law_71 ?_
    obtain ⟨t, ht, et⟩ := lw_and31 (xs (nI (4 + 4 * j)).toNatClampNeg)
    rw [et]
    rcases (show t = 0 ∨ t = 1 ∨ t = 2 ∨ t = 3 ∨ t = 4 ∨ t = 5 ∨ t = 6 ∨ t = 7 ∨ t = 8 ∨ t = 9 ∨ t = 10 ∨ t = 11 ∨ t = 12 ∨ t = 13 ∨ t = 14 ∨ t = 15 ∨ t = 16 ∨ 16 < t by omega) with rfl | rfl | rfl | rfl | rfl | rfl | rfl | rfl | rfl | rfl | rfl | rfl | rfl | rfl | rfl | rfl | rfl | ht16
    · skip
      refine lv_tableIn (x := nI 0) (off := 84) (tgt := 156) hx hb zd_L_law_72 (by decide) (by decide) (by decide) (by decide) ?_
      refine lv_aload_n hx hb zd_L_law_156 rfl (lv_at hl 1 rfl) ?_
      refine lv_aload_n hx hb zd_L_law_157 rfl (lv_at hl 0 rfl) ?_
      refine lv_iload_n hx hb zd_L_law_158 rfl (lv_at hl 3 rfl) ?_
      refine lv_iconst (v := 1) hx hb zd_L_law_159 (by decide) ?_
      refine lv_iadd hx hb zd_L_law_160 ?_
      refine va_sld (A := (fun q => s.heap.size ≤ q)) hx hb hX hbl hbA hS (lw_in (t := 1) hj4 (by decide) hLL) zd_L_law_161 ?_
      refine lv_aload_n hx hb zd_L_law_162 rfl (lv_at hl 0 rfl) ?_
      refine lv_iload_n hx hb zd_L_law_163 rfl (lv_at hl 3 rfl) ?_
      refine lv_iconst (v := 2) hx hb zd_L_law_164 (by decide) ?_
      refine lv_iadd hx hb zd_L_law_165 ?_
      refine va_sld (A := (fun q => s.heap.size ≤ q)) hx hb hX hbl hbA hS (lw_in (t := 2) hj4 (by decide) hLL) zd_L_law_166 ?_
      refine lv_aload_n hx hb zd_L_law_167 rfl (lv_at hl 0 rfl) ?_
      refine lv_iload_n hx hb zd_L_law_168 rfl (lv_at hl 3 rfl) ?_
      refine lv_iconst (v := 3) hx hb zd_L_law_169 (by decide) ?_
      refine lv_iadd hx hb zd_L_law_170 ?_
      refine va_sld (A := (fun q => s.heap.size ≤ q)) hx hb hX hbl hbA hS (lw_in (t := 3) hj4 (by decide) hLL) zd_L_law_171 ?_
      have hAA : ∀ q, fb_A aC LC H.size q → s.heap.size ≤ q := fb_AA (fb_Dr (a := (fb_wl (fb_cM cA) aM sM fb_LM)) hD) (fun q h => Nat.le_trans hS.1 h)
      refine va_calli (A0 := (fun q => s.heap.size ≤ q)) (va_runV (bytes := zb_X_flow) (maxL := 5) (ret := (some .int)) (As := [.int (xs (nI (4 + 4 * j) + 1).toNatClampNeg), .int (xs (nI (4 + 4 * j) + 2).toNatClampNeg), .int (xs (nI (4 + 4 * j) + 3).toNatClampNeg)]) (rest := []) ⟨hx, hb, hml, hown, hT⟩ (c_X_flow l D cA aC LC fl fr sC hLv okC (xs (nI (4 + 4 * j) + 1).toNatClampNeg) (xs (nI (4 + 4 * j) + 2).toNatClampNeg) (xs (nI (4 + 4 * j) + 3).toNatClampNeg) H.size) (cwV 3 hT (fb_gV zi_148 zi_149 zi_150 zi_1 zc_X_flow) rfl rfl rfl (by decide +kernel) ⟨Nat.le_of_ble_eq_true rfl, Nat.le_of_ble_eq_true rfl⟩) ⟨fun a U g mk q => by obtain ⟨q0, ⟨q1, qP, qK, qD⟩, qA⟩ := q; exact ⟨q0, ⟨q1, qP, va_K.moved (u := U) (U := U.calling g mk a) (Vm.Alike.refl U.vm) qK, qD⟩, va_AO.moved (u := U) (U := U.calling g mk a) (Vm.Alike.refl U.vm) qA⟩, fb_recv hK (fb_Pr (a := (fb_wl (fb_cM cA) aM sM fb_LM)) hP) (hLv.2.1 0 (by decide)) rfl rfl, fun U hU hW => ⟨rfl, ⟨by rw [hU], by rw [hU]; exact fb_Pr (a := (fb_wl (fb_cM cA) aM sM fb_LM)) hP, va_K.moved hW.alike hK, (fb_Dr (a := (fb_wl (fb_cM cA) aM sM fb_LM)) hD).weaken (fun _ _ _ _ => trivial)⟩, va_AO.moved hW.alike hao1⟩⟩ rfl rfl hl.1 rfl (lv_room (Nat.le_of_ble_eq_true rfl)) zd_L_law_172 ⟨show 250 + 2 * j + 2 ≤ 600000 by omega, show 4363 + 16 * j + 16 ≤ 7302250 by omega⟩) hS (fun q _ h => hAA q h) hAA (fun r9 w9 t H1 locs ht hvm hq5 hB hsz9 hk9 hS => ?_)
      obtain ⟨hrC, hsC, okC1, hLv1, ha00⟩ := hq5
      rw [hrC]
      obtain ⟨hP1, hK1, hD1⟩ := hB
      rw [ht] at hP1
      obtain ⟨hP, hD⟩ := fb_join (A := (fun q => s.heap.size ≤ q)) (wr := (fb_wl (fb_cM cA) aM sM fb_LM)) (wc := fb_wl (fb_cC cA) aC sC LC) hP hD hAA fb_Bof hk9 hP1 hD1
      generalize H1 = H at hP hS ⊢
      obtain ⟨sC1, aC1, LC1⟩ := w9
      have hsC : sC1 = _ := hsC
      have ha00 : aC1 0 0 = aC 0 0 := ha00
      rw [← ha00] at hl
      refine W.widen (k := 250 + 2 * j + 2) (n := 4363 + 16 * j + 16) (by omega) (by omega) ?_
      refine lv_aload_n hx hb zd_L_law_175 rfl (lv_at hl 2 rfl) ?_
      refine lv_aload_n hx hb zd_L_law_176 rfl (lv_at hl 0 rfl) ?_
      refine lv_iload_n hx hb zd_L_law_177 rfl (lv_at hl 3 rfl) ?_
      refine lv_iconst (v := 1) hx hb zd_L_law_178 (by decide) ?_
      refine lv_iadd hx hb zd_L_law_179 ?_
      refine va_sld (A := (fun q => s.heap.size ≤ q)) hx hb hX hbl hbA hS (lw_in (t := 1) hj4 (by decide) hLL) zd_L_law_180 ?_
      refine lv_aload_n hx hb zd_L_law_181 rfl (lv_at hl 0 rfl) ?_
      refine lv_iload_n hx hb zd_L_law_182 rfl (lv_at hl 3 rfl) ?_
      refine lv_iconst (v := 2) hx hb zd_L_law_183 (by decide) ?_
      refine lv_iadd hx hb zd_L_law_184 ?_
      refine va_sld (A := (fun q => s.heap.size ≤ q)) hx hb hX hbl hbA hS (lw_in (t := 2) hj4 (by decide) hLL) zd_L_law_185 ?_
      refine lv_aload_n hx hb zd_L_law_186 rfl (lv_at hl 0 rfl) ?_
      refine lv_iload_n hx hb zd_L_law_187 rfl (lv_at hl 3 rfl) ?_
      refine lv_iconst (v := 3) hx hb zd_L_law_188 (by decide) ?_
      refine lv_iadd hx hb zd_L_law_189 ?_
      refine va_sld (A := (fun q => s.heap.size ≤ q)) hx hb hX hbl hbA hS (lw_in (t := 3) hj4 (by decide) hLL) zd_L_law_190 ?_
      have hP : va_P D fb_cl ((fb_wl (fb_cC cA) aC1 sC1 LC1) ++ (fb_wl (fb_cM cA) aM sM fb_LM)) H := fb_Psw hP
      have hD : va_D (fun q => s.heap.size ≤ q) ((fb_wl (fb_cC cA) aC1 sC1 LC1) ++ (fb_wl (fb_cM cA) aM sM fb_LM)) := fb_Dsw hD
      refine pw_ViX (A := (fun q => s.heap.size ≤ q)) (wr := (fb_wl (fb_cC cA) aC1 sC1 LC1)) (bytes := zb_M_flow) (maxL := 4) (ret := (some .int)) (As := [.int (xs (nI (4 + 4 * j) + 1).toNatClampNeg), .int (xs (nI (4 + 4 * j) + 2).toNatClampNeg), .int (xs (nI (4 + 4 * j) + 3).toNatClampNeg)]) (rest := [.int (cf_flowA sC (xs (nI (4 + 4 * j) + 1).toNatClampNeg) (xs (nI (4 + 4 * j) + 2).toNatClampNeg) (xs (nI (4 + 4 * j) + 3).toNatClampNeg))]) ⟨hx, hb, hml, hown, hT⟩ (c_M_flow l D cA aM fl fr T sM hflr okM (xs (nI (4 + 4 * j) + 1).toNatClampNeg) (xs (nI (4 + 4 * j) + 2).toNatClampNeg) (xs (nI (4 + 4 * j) + 3).toNatClampNeg)) (cwV 3 hT (fb_gV zi_522 zi_523 zi_524 zi_5 zc_M_flow) rfl rfl rfl (by decide +kernel) ⟨Nat.le_of_ble_eq_true rfl, Nat.le_of_ble_eq_true rfl⟩) hK hP hD hS (fb_AA (fb_Dr (a := (fb_wl (fb_cC cA) aC1 sC1 LC1)) hD) (fun q h => Nat.le_trans hS.1 h)) (fb_recv hK (fb_Pr (a := (fb_wl (fb_cC cA) aC1 sC1 LC1)) hP) (fb_memM (k := 0) rfl) rfl rfl) rfl hl.1 rfl (lv_room (Nat.le_of_ble_eq_true rfl)) zd_L_law_191 ⟨show 250 + 2 * j + 2 ≤ 600000 by omega, show 4363 + 16 * j + 16 ≤ 7302250 by omega⟩ (fun rM sM1 H locs hp hP hD hS _ => ?_)
      obtain ⟨hrM, hsM, okM1⟩ := hp
      rw [hrM]
      have hP := fb_Psw hP
      have hD := fb_Dsw hD
      refine lv_icmp_eq (tgt := 637) hx hb zd_L_law_194 (by decide) (fun _ => ?_) (fun h9 => absurd (co_flow hCO (xs (nI (4 + 4 * j) + 1).toNatClampNeg) (xs (nI (4 + 4 * j) + 2).toNatClampNeg) (xs (nI (4 + 4 * j) + 3).toNatClampNeg)).1 h9)
      have hco := co_flow hCO (xs (nI (4 + 4 * j) + 1).toNatClampNeg) (xs (nI (4 + 4 * j) + 2).toNatClampNeg) (xs (nI (4 + 4 * j) + 3).toNatClampNeg)
      rw [← hco.2.1] at okM1
      refine lv_iinc (k := 3) (v := nI (4 + 4 * (j + 1))) (lv' := [(3, .int (nI (4 + 4 * (j + 1)))), (0, .ref b), (1, .ref (aC1 0 0)), (2, .ref (aM 0 0))]) hx hb zd_L_law_637 hl rfl (lw_inc j) (by decide) rfl (fun ls hl => ?_)
      refine lv_goto (tgt := 58) hx hb zd_L_law_640 (by decide) ?_
      refine W.widen (k := 250 + 2 * (j + 1)) (n := 4363 + 16 * (j + 1)) (by omega) (by omega) ?_
      exact ihj _ _ _ ⟨cf_flC sC fl (xs (nI (4 + 4 * j) + 1).toNatClampNeg) (xs (nI (4 + 4 * j) + 2).toNatClampNeg) (xs (nI (4 + 4 * j) + 3).toNatClampNeg), fr, T, sC1, sM1, aC1, aM, LC1, ⟨okC1, okM1, hLv1.2.2.2.2.2.2.1, hfr, hTb, by rw [hsC, hsM]; exact hco.2.2⟩, by omega, hLv1, lv_sub hl [1, 2, 3, 0] rfl, hP, hD, hS⟩
    · skip
      refine lv_tableIn (x := nI 1) (off := 127) (tgt := 199) hx hb zd_L_law_72 (by decide) (by decide) (by decide) (by decide) ?_
      refine lv_aload_n hx hb zd_L_law_199 rfl (lv_at hl 1 rfl) ?_
      refine lv_aload_n hx hb zd_L_law_200 rfl (lv_at hl 0 rfl) ?_
      refine lv_iload_n hx hb zd_L_law_201 rfl (lv_at hl 3 rfl) ?_
      refine lv_iconst (v := 1) hx hb zd_L_law_202 (by decide) ?_
      refine lv_iadd hx hb zd_L_law_203 ?_
      refine va_sld (A := (fun q => s.heap.size ≤ q)) hx hb hX hbl hbA hS (lw_in (t := 1) hj4 (by decide) hLL) zd_L_law_204 ?_
      refine lv_aload_n hx hb zd_L_law_205 rfl (lv_at hl 0 rfl) ?_
      refine lv_iload_n hx hb zd_L_law_206 rfl (lv_at hl 3 rfl) ?_
      refine lv_iconst (v := 2) hx hb zd_L_law_207 (by decide) ?_
      refine lv_iadd hx hb zd_L_law_208 ?_
      refine va_sld (A := (fun q => s.heap.size ≤ q)) hx hb hX hbl hbA hS (lw_in (t := 2) hj4 (by decide) hLL) zd_L_law_209 ?_
      have hAA : ∀ q, fb_A aC LC H.size q → s.heap.size ≤ q := fb_AA (fb_Dr (a := (fb_wl (fb_cM cA) aM sM fb_LM)) hD) (fun q h => Nat.le_trans hS.1 h)
      refine pw_ViX (A := (fun q => s.heap.size ≤ q)) (wr := (fb_wl (fb_cM cA) aM sM fb_LM)) (bytes := zb_X_share) (maxL := 3) (ret := (some .boolean)) (As := [.int (xs (nI (4 + 4 * j) + 1).toNatClampNeg), .int (xs (nI (4 + 4 * j) + 2).toNatClampNeg)]) (rest := []) ⟨hx, hb, hml, hown, hT⟩ (c_X_share l D cA aC LC fl fr sC hLv okC (xs (nI (4 + 4 * j) + 1).toNatClampNeg) (xs (nI (4 + 4 * j) + 2).toNatClampNeg)) (cwV 2 hT (fb_gV zi_220 zi_221 zi_222 zi_1 zc_X_share) rfl rfl rfl (by decide +kernel) ⟨Nat.le_of_ble_eq_true rfl, Nat.le_of_ble_eq_true rfl⟩) hK hP hD hS hAA (fb_recv hK (fb_Pr (a := (fb_wl (fb_cM cA) aM sM fb_LM)) hP) (hLv.2.1 0 (by decide)) rfl rfl) rfl hl.1 rfl (lv_room (Nat.le_of_ble_eq_true rfl)) zd_L_law_210 ⟨show 250 + 2 * j ≤ 600000 by omega, show 4363 + 16 * j ≤ 7302250 by omega⟩ (fun rC sC1 H locs hp hP hD hS _ => ?_)
      obtain ⟨hrC, hsC, okC1⟩ := hp
      rw [hrC]
      refine lv_aload_n hx hb zd_L_law_213 rfl (lv_at hl 2 rfl) ?_
      refine lv_aload_n hx hb zd_L_law_214 rfl (lv_at hl 0 rfl) ?_
      refine lv_iload_n hx hb zd_L_law_215 rfl (lv_at hl 3 rfl) ?_
      refine lv_iconst (v := 1) hx hb zd_L_law_216 (by decide) ?_
      refine lv_iadd hx hb zd_L_law_217 ?_
      refine va_sld (A := (fun q => s.heap.size ≤ q)) hx hb hX hbl hbA hS (lw_in (t := 1) hj4 (by decide) hLL) zd_L_law_218 ?_
      refine lv_aload_n hx hb zd_L_law_219 rfl (lv_at hl 0 rfl) ?_
      refine lv_iload_n hx hb zd_L_law_220 rfl (lv_at hl 3 rfl) ?_
      refine lv_iconst (v := 2) hx hb zd_L_law_221 (by decide) ?_
      refine lv_iadd hx hb zd_L_law_222 ?_
      refine va_sld (A := (fun q => s.heap.size ≤ q)) hx hb hX hbl hbA hS (lw_in (t := 2) hj4 (by decide) hLL) zd_L_law_223 ?_
      have hP : va_P D fb_cl ((fb_wl (fb_cC cA) aC sC1 LC) ++ (fb_wl (fb_cM cA) aM sM fb_LM)) H := fb_Psw hP
      have hD : va_D (fun q => s.heap.size ≤ q) ((fb_wl (fb_cC cA) aC sC1 LC) ++ (fb_wl (fb_cM cA) aM sM fb_LM)) := fb_Dsw hD
      refine pw_ViX (A := (fun q => s.heap.size ≤ q)) (wr := (fb_wl (fb_cC cA) aC sC1 LC)) (bytes := zb_M_share) (maxL := 3) (ret := (some .boolean)) (As := [.int (xs (nI (4 + 4 * j) + 1).toNatClampNeg), .int (xs (nI (4 + 4 * j) + 2).toNatClampNeg)]) (rest := [.int (cf_shareA (xs (nI (4 + 4 * j) + 1).toNatClampNeg) (xs (nI (4 + 4 * j) + 2).toNatClampNeg))]) ⟨hx, hb, hml, hown, hT⟩ (c_M_share l D cA aM fl fr T sM hflr okM (xs (nI (4 + 4 * j) + 1).toNatClampNeg) (xs (nI (4 + 4 * j) + 2).toNatClampNeg)) (cwV 2 hT (fb_gV zi_526 zi_527 zi_528 zi_5 zc_M_share) rfl rfl rfl (by decide +kernel) ⟨Nat.le_of_ble_eq_true rfl, Nat.le_of_ble_eq_true rfl⟩) hK hP hD hS (fb_AA (fb_Dr (a := (fb_wl (fb_cC cA) aC sC1 LC)) hD) (fun q h => Nat.le_trans hS.1 h)) (fb_recv hK (fb_Pr (a := (fb_wl (fb_cC cA) aC sC1 LC)) hP) (fb_memM (k := 0) rfl) rfl rfl) rfl hl.1 rfl (lv_room (Nat.le_of_ble_eq_true rfl)) zd_L_law_224 ⟨show 250 + 2 * j ≤ 600000 by omega, show 4363 + 16 * j ≤ 7302250 by omega⟩ (fun rM sM1 H locs hp hP hD hS _ => ?_)
      obtain ⟨hrM, hsM, okM1⟩ := hp
      rw [hrM]
      have hP := fb_Psw hP
      have hD := fb_Dsw hD
      refine lv_icmp_eq (tgt := 637) hx hb zd_L_law_227 (by decide) (fun _ => ?_) (fun h9 => absurd (co_share hCO (xs (nI (4 + 4 * j) + 1).toNatClampNeg) (xs (nI (4 + 4 * j) + 2).toNatClampNeg)).1 h9)
      refine lv_iinc (k := 3) (v := nI (4 + 4 * (j + 1))) (lv' := [(3, .int (nI (4 + 4 * (j + 1)))), (0, .ref b), (1, .ref (aC 0 0)), (2, .ref (aM 0 0))]) hx hb zd_L_law_637 hl rfl (lw_inc j) (by decide) rfl (fun ls hl => ?_)
      refine lv_goto (tgt := 58) hx hb zd_L_law_640 (by decide) ?_
      refine W.widen (k := 250 + 2 * (j + 1)) (n := 4363 + 16 * (j + 1)) (by omega) (by omega) ?_
      exact ihj _ _ _ ⟨fl, fr, T, sC1, sM1, aC, aM, LC, ⟨okC1, okM1, hfl, hfr, hTb, by rw [hsC, hsM]; exact (co_share hCO (xs (nI (4 + 4 * j) + 1).toNatClampNeg) (xs (nI (4 + 4 * j) + 2).toNatClampNeg)).2⟩, by omega, hLv, lv_sub hl [1, 2, 3, 0] rfl, hP, hD, hS⟩
    · skip
      refine lv_tableIn (x := nI 2) (off := 160) (tgt := 232) hx hb zd_L_law_72 (by decide) (by decide) (by decide) (by decide) ?_
      refine lv_aload_n hx hb zd_L_law_232 rfl (lv_at hl 1 rfl) ?_
      refine lv_aload_n hx hb zd_L_law_233 rfl (lv_at hl 0 rfl) ?_
      refine lv_iload_n hx hb zd_L_law_234 rfl (lv_at hl 3 rfl) ?_
      refine lv_iconst (v := 1) hx hb zd_L_law_235 (by decide) ?_
      refine lv_iadd hx hb zd_L_law_236 ?_
      refine va_sld (A := (fun q => s.heap.size ≤ q)) hx hb hX hbl hbA hS (lw_in (t := 1) hj4 (by decide) hLL) zd_L_law_237 ?_
      refine lv_aload_n hx hb zd_L_law_238 rfl (lv_at hl 0 rfl) ?_
      refine lv_iload_n hx hb zd_L_law_239 rfl (lv_at hl 3 rfl) ?_
      refine lv_iconst (v := 2) hx hb zd_L_law_240 (by decide) ?_
      refine lv_iadd hx hb zd_L_law_241 ?_
      refine va_sld (A := (fun q => s.heap.size ≤ q)) hx hb hX hbl hbA hS (lw_in (t := 2) hj4 (by decide) hLL) zd_L_law_242 ?_
      have hAA : ∀ q, fb_A aC LC H.size q → s.heap.size ≤ q := fb_AA (fb_Dr (a := (fb_wl (fb_cM cA) aM sM fb_LM)) hD) (fun q h => Nat.le_trans hS.1 h)
      refine va_calli (A0 := (fun q => s.heap.size ≤ q)) (va_runV (bytes := zb_X_inject) (maxL := 6) (ret := (some .int)) (As := [.int (xs (nI (4 + 4 * j) + 1).toNatClampNeg), .int (xs (nI (4 + 4 * j) + 2).toNatClampNeg)]) (rest := []) ⟨hx, hb, hml, hown, hT⟩ (c_X_inject l D cA aC LC fl fr sC hLv okC (xs (nI (4 + 4 * j) + 1).toNatClampNeg) (xs (nI (4 + 4 * j) + 2).toNatClampNeg) H.size) (cwV 2 hT (fb_gV zi_224 zi_225 zi_226 zi_1 zc_X_inject) rfl rfl rfl (by decide +kernel) ⟨Nat.le_of_ble_eq_true rfl, Nat.le_of_ble_eq_true rfl⟩) ⟨fb_blind, fb_recv hK (fb_Pr (a := (fb_wl (fb_cM cA) aM sM fb_LM)) hP) (hLv.2.1 0 (by decide)) rfl rfl, fun U hU hW => ⟨rfl, by rw [hU], by rw [hU]; exact fb_Pr (a := (fb_wl (fb_cM cA) aM sM fb_LM)) hP, va_K.moved hW.alike hK, (fb_Dr (a := (fb_wl (fb_cM cA) aM sM fb_LM)) hD).weaken (fun _ _ _ _ => trivial)⟩⟩ rfl rfl hl.1 rfl (lv_room (Nat.le_of_ble_eq_true rfl)) zd_L_law_243 ⟨show 250 + 2 * j + 1 ≤ 600000 by omega, show 4363 + 16 * j + 10 ≤ 7302250 by omega⟩) hS (fun q _ h => hAA q h) hAA (fun r9 w9 t H1 locs ht hvm hq5 hB hsz9 hk9 hS => ?_)
      obtain ⟨hrC, hsC, okC1, hLv1, ha00⟩ := hq5
      rw [hrC]
      obtain ⟨hP1, hK1, hD1⟩ := hB
      rw [ht] at hP1
      obtain ⟨hP, hD⟩ := fb_join (A := (fun q => s.heap.size ≤ q)) (wr := (fb_wl (fb_cM cA) aM sM fb_LM)) (wc := fb_wl (fb_cC cA) aC sC LC) hP hD hAA fb_Bof hk9 hP1 hD1
      generalize H1 = H at hP hS ⊢
      obtain ⟨sC1, aC1, LC1⟩ := w9
      have hsC : sC1 = _ := hsC
      have ha00 : aC1 0 0 = aC 0 0 := ha00
      rw [← ha00] at hl
      refine W.widen (k := 250 + 2 * j + 1) (n := 4363 + 16 * j + 10) (by omega) (by omega) ?_
      refine lv_aload_n hx hb zd_L_law_246 rfl (lv_at hl 2 rfl) ?_
      refine lv_aload_n hx hb zd_L_law_247 rfl (lv_at hl 0 rfl) ?_
      refine lv_iload_n hx hb zd_L_law_248 rfl (lv_at hl 3 rfl) ?_
      refine lv_iconst (v := 1) hx hb zd_L_law_249 (by decide) ?_
      refine lv_iadd hx hb zd_L_law_250 ?_
      refine va_sld (A := (fun q => s.heap.size ≤ q)) hx hb hX hbl hbA hS (lw_in (t := 1) hj4 (by decide) hLL) zd_L_law_251 ?_
      refine lv_aload_n hx hb zd_L_law_252 rfl (lv_at hl 0 rfl) ?_
      refine lv_iload_n hx hb zd_L_law_253 rfl (lv_at hl 3 rfl) ?_
      refine lv_iconst (v := 2) hx hb zd_L_law_254 (by decide) ?_
      refine lv_iadd hx hb zd_L_law_255 ?_
      refine va_sld (A := (fun q => s.heap.size ≤ q)) hx hb hX hbl hbA hS (lw_in (t := 2) hj4 (by decide) hLL) zd_L_law_256 ?_
      have hP : va_P D fb_cl ((fb_wl (fb_cC cA) aC1 sC1 LC1) ++ (fb_wl (fb_cM cA) aM sM fb_LM)) H := fb_Psw hP
      have hD : va_D (fun q => s.heap.size ≤ q) ((fb_wl (fb_cC cA) aC1 sC1 LC1) ++ (fb_wl (fb_cM cA) aM sM fb_LM)) := fb_Dsw hD
      refine pw_ViX (A := (fun q => s.heap.size ≤ q)) (wr := (fb_wl (fb_cC cA) aC1 sC1 LC1)) (bytes := zb_M_inject) (maxL := 3) (ret := (some .int)) (As := [.int (xs (nI (4 + 4 * j) + 1).toNatClampNeg), .int (xs (nI (4 + 4 * j) + 2).toNatClampNeg)]) (rest := [.int (cf_injA sC (xs (nI (4 + 4 * j) + 1).toNatClampNeg) (xs (nI (4 + 4 * j) + 2).toNatClampNeg))]) ⟨hx, hb, hml, hown, hT⟩ (c_M_inject l D cA aM fl fr T sM hflr okM (xs (nI (4 + 4 * j) + 1).toNatClampNeg) (xs (nI (4 + 4 * j) + 2).toNatClampNeg)) (cwV 2 hT (fb_gV zi_530 zi_531 zi_532 zi_5 zc_M_inject) rfl rfl rfl (by decide +kernel) ⟨Nat.le_of_ble_eq_true rfl, Nat.le_of_ble_eq_true rfl⟩) hK hP hD hS (fb_AA (fb_Dr (a := (fb_wl (fb_cC cA) aC1 sC1 LC1)) hD) (fun q h => Nat.le_trans hS.1 h)) (fb_recv hK (fb_Pr (a := (fb_wl (fb_cC cA) aC1 sC1 LC1)) hP) (fb_memM (k := 0) rfl) rfl rfl) rfl hl.1 rfl (lv_room (Nat.le_of_ble_eq_true rfl)) zd_L_law_257 ⟨show 250 + 2 * j + 1 ≤ 600000 by omega, show 4363 + 16 * j + 10 ≤ 7302250 by omega⟩ (fun rM sM1 H locs hp hP hD hS _ => ?_)
      obtain ⟨hrM, hsM, okM1⟩ := hp
      rw [hrM]
      have hP := fb_Psw hP
      have hD := fb_Dsw hD
      refine lv_icmp_eq (tgt := 637) hx hb zd_L_law_260 (by decide) (fun _ => ?_) (fun h9 => absurd (co_inject hCO (xs (nI (4 + 4 * j) + 1).toNatClampNeg) (xs (nI (4 + 4 * j) + 2).toNatClampNeg)).1 h9)
      have hco := co_inject hCO (xs (nI (4 + 4 * j) + 1).toNatClampNeg) (xs (nI (4 + 4 * j) + 2).toNatClampNeg)
      rw [← hco.2.1] at okM1
      refine lv_iinc (k := 3) (v := nI (4 + 4 * (j + 1))) (lv' := [(3, .int (nI (4 + 4 * (j + 1)))), (0, .ref b), (1, .ref (aC1 0 0)), (2, .ref (aM 0 0))]) hx hb zd_L_law_637 hl rfl (lw_inc j) (by decide) rfl (fun ls hl => ?_)
      refine lv_goto (tgt := 58) hx hb zd_L_law_640 (by decide) ?_
      refine W.widen (k := 250 + 2 * (j + 1)) (n := 4363 + 16 * (j + 1)) (by omega) (by omega) ?_
      exact ihj _ _ _ ⟨fl, cf_frC sC fr (xs (nI (4 + 4 * j) + 1).toNatClampNeg) (xs (nI (4 + 4 * j) + 2).toNatClampNeg), T, sC1, sM1, aC1, aM, LC1, ⟨okC1, okM1, hfl, hLv1.2.2.2.2.2.2.2, hTb, by rw [hsC, hsM]; exact hco.2.2⟩, by omega, hLv1, lv_sub hl [1, 2, 3, 0] rfl, hP, hD, hS⟩
    · skip
      refine lv_tableIn (x := nI 3) (off := 193) (tgt := 265) hx hb zd_L_law_72 (by decide) (by decide) (by decide) (by decide) ?_
      refine lv_aload_n hx hb zd_L_law_265 rfl (lv_at hl 1 rfl) ?_
      refine lv_aload_n hx hb zd_L_law_266 rfl (lv_at hl 0 rfl) ?_
      refine lv_iload_n hx hb zd_L_law_267 rfl (lv_at hl 3 rfl) ?_
      refine lv_iconst (v := 1) hx hb zd_L_law_268 (by decide) ?_
      refine lv_iadd hx hb zd_L_law_269 ?_
      refine va_sld (A := (fun q => s.heap.size ≤ q)) hx hb hX hbl hbA hS (lw_in (t := 1) hj4 (by decide) hLL) zd_L_law_270 ?_
      have hAA : ∀ q, fb_A aC LC H.size q → s.heap.size ≤ q := fb_AA (fb_Dr (a := (fb_wl (fb_cM cA) aM sM fb_LM)) hD) (fun q h => Nat.le_trans hS.1 h)
      refine pw_ViX (A := (fun q => s.heap.size ≤ q)) (wr := (fb_wl (fb_cM cA) aM sM fb_LM)) (bytes := zb_X_tick) (maxL := 4) (ret := (some .int)) (As := [.int (xs (nI (4 + 4 * j) + 1).toNatClampNeg)]) (rest := []) ⟨hx, hb, hml, hown, hT⟩ (c_X_tick l D cA aC LC fl fr sC hLv okC (xs (nI (4 + 4 * j) + 1).toNatClampNeg)) (cwV 1 hT (fb_gV zi_290 zi_291 zi_292 zi_1 zc_X_tick) rfl rfl rfl (by decide +kernel) ⟨Nat.le_of_ble_eq_true rfl, Nat.le_of_ble_eq_true rfl⟩) hK hP hD hS hAA (fb_recv hK (fb_Pr (a := (fb_wl (fb_cM cA) aM sM fb_LM)) hP) (hLv.2.1 0 (by decide)) rfl rfl) rfl hl.1 rfl (lv_room (Nat.le_of_ble_eq_true rfl)) zd_L_law_271 ⟨show 250 + 2 * j ≤ 600000 by omega, show 4363 + 16 * j ≤ 7302250 by omega⟩ (fun rC sC1 H locs hp hP hD hS _ => ?_)
      obtain ⟨hrC, hsC, okC1⟩ := hp
      rw [hrC]
      refine lv_aload_n hx hb zd_L_law_274 rfl (lv_at hl 2 rfl) ?_
      refine lv_aload_n hx hb zd_L_law_275 rfl (lv_at hl 0 rfl) ?_
      refine lv_iload_n hx hb zd_L_law_276 rfl (lv_at hl 3 rfl) ?_
      refine lv_iconst (v := 1) hx hb zd_L_law_277 (by decide) ?_
      refine lv_iadd hx hb zd_L_law_278 ?_
      refine va_sld (A := (fun q => s.heap.size ≤ q)) hx hb hX hbl hbA hS (lw_in (t := 1) hj4 (by decide) hLL) zd_L_law_279 ?_
      have hP : va_P D fb_cl ((fb_wl (fb_cC cA) aC sC1 LC) ++ (fb_wl (fb_cM cA) aM sM fb_LM)) H := fb_Psw hP
      have hD : va_D (fun q => s.heap.size ≤ q) ((fb_wl (fb_cC cA) aC sC1 LC) ++ (fb_wl (fb_cM cA) aM sM fb_LM)) := fb_Dsw hD
      refine pw_ViX (A := (fun q => s.heap.size ≤ q)) (wr := (fb_wl (fb_cC cA) aC sC1 LC)) (bytes := zb_M_tick) (maxL := 5) (ret := (some .int)) (As := [.int (xs (nI (4 + 4 * j) + 1).toNatClampNeg)]) (rest := [.int (cf_tickA fl (xs (nI (4 + 4 * j) + 1).toNatClampNeg) sC)]) ⟨hx, hb, hml, hown, hT⟩ (c_M_tick l D cA aM fl fr T sM hflr okM (xs (nI (4 + 4 * j) + 1).toNatClampNeg) (by omega)) (cwV 1 hT (fb_gV zi_542 zi_543 zi_544 zi_5 zc_M_tick) rfl rfl rfl (by decide +kernel) ⟨Nat.le_of_ble_eq_true rfl, Nat.le_of_ble_eq_true rfl⟩) hK hP hD hS (fb_AA (fb_Dr (a := (fb_wl (fb_cC cA) aC sC1 LC)) hD) (fun q h => Nat.le_trans hS.1 h)) (fb_recv hK (fb_Pr (a := (fb_wl (fb_cC cA) aC sC1 LC)) hP) (fb_memM (k := 0) rfl) rfl rfl) rfl hl.1 rfl (lv_room (Nat.le_of_ble_eq_true rfl)) zd_L_law_280 ⟨show 250 + 2 * j ≤ 600000 by omega, show 4363 + 16 * j ≤ 7302250 by omega⟩ (fun rM sM1 H locs hp hP hD hS _ => ?_)
      obtain ⟨hrM, hsM, okM1⟩ := hp
      rw [hrM]
      have hP := fb_Psw hP
      have hD := fb_Dsw hD
      refine lv_icmp_eq (tgt := 637) hx hb zd_L_law_283 (by decide) (fun _ => ?_) (fun h9 => absurd (co_tick hCO (xs (nI (4 + 4 * j) + 1).toNatClampNeg)).1 h9)
      have hmT := mf_T_le T (xs (nI (4 + 4 * j) + 1).toNatClampNeg)
      refine lv_iinc (k := 3) (v := nI (4 + 4 * (j + 1))) (lv' := [(3, .int (nI (4 + 4 * (j + 1)))), (0, .ref b), (1, .ref (aC 0 0)), (2, .ref (aM 0 0))]) hx hb zd_L_law_637 hl rfl (lw_inc j) (by decide) rfl (fun ls hl => ?_)
      refine lv_goto (tgt := 58) hx hb zd_L_law_640 (by decide) ?_
      refine W.widen (k := 250 + 2 * (j + 1)) (n := 4363 + 16 * (j + 1)) (by omega) (by omega) ?_
      exact ihj _ _ _ ⟨fl, fr, mf_T T (xs (nI (4 + 4 * j) + 1).toNatClampNeg), sC1, sM1, aC, aM, LC, ⟨okC1, okM1, hfl, hfr, by omega, by rw [hsC, hsM]; exact (co_tick hCO (xs (nI (4 + 4 * j) + 1).toNatClampNeg)).2⟩, by omega, hLv, lv_sub hl [1, 2, 3, 0] rfl, hP, hD, hS⟩
    · skip
      refine lv_tableIn (x := nI 4) (off := 216) (tgt := 288) hx hb zd_L_law_72 (by decide) (by decide) (by decide) (by decide) ?_
      refine lv_aload_n hx hb zd_L_law_288 rfl (lv_at hl 1 rfl) ?_
      have hAA : ∀ q, fb_A aC LC H.size q → s.heap.size ≤ q := fb_AA (fb_Dr (a := (fb_wl (fb_cM cA) aM sM fb_LM)) hD) (fun q h => Nat.le_trans hS.1 h)
      refine pw_ViX (A := (fun q => s.heap.size ≤ q)) (wr := (fb_wl (fb_cM cA) aM sM fb_LM)) (bytes := zb_X_clock) (maxL := 1) (ret := (some .int)) (As := []) (rest := []) ⟨hx, hb, hml, hown, hT⟩ (c_X_clock l D cA aC LC fl fr sC hLv okC ) (cwV 0 hT (fb_gV zi_368 zi_369 zi_370 zi_1 zc_X_clock) rfl rfl rfl (by decide +kernel) ⟨Nat.le_of_ble_eq_true rfl, Nat.le_of_ble_eq_true rfl⟩) hK hP hD hS hAA (fb_recv hK (fb_Pr (a := (fb_wl (fb_cM cA) aM sM fb_LM)) hP) (hLv.2.1 0 (by decide)) rfl rfl) rfl hl.1 rfl (lv_room (Nat.le_of_ble_eq_true rfl)) zd_L_law_289 ⟨show 250 + 2 * j ≤ 600000 by omega, show 4363 + 16 * j ≤ 7302250 by omega⟩ (fun rC sC1 H locs hp hP hD hS _ => ?_)
      obtain ⟨hrC, hsC, okC1⟩ := hp
      rw [hrC]
      rw [hsC] at hP hD
      refine lv_aload_n hx hb zd_L_law_292 rfl (lv_at hl 2 rfl) ?_
      have hP : va_P D fb_cl ((fb_wl (fb_cC cA) aC sC LC) ++ (fb_wl (fb_cM cA) aM sM fb_LM)) H := fb_Psw hP
      have hD : va_D (fun q => s.heap.size ≤ q) ((fb_wl (fb_cC cA) aC sC LC) ++ (fb_wl (fb_cM cA) aM sM fb_LM)) := fb_Dsw hD
      refine pw_ViX (A := (fun q => s.heap.size ≤ q)) (wr := (fb_wl (fb_cC cA) aC sC LC)) (bytes := zb_M_clock) (maxL := 1) (ret := (some .int)) (As := []) (rest := [.int (sC 6 0)]) ⟨hx, hb, hml, hown, hT⟩ (c_M_clock l D cA aM fl fr T sM hflr okM ) (cwV 0 hT (fb_gV zi_617 zi_618 zi_619 zi_5 zc_M_clock) rfl rfl rfl (by decide +kernel) ⟨Nat.le_of_ble_eq_true rfl, Nat.le_of_ble_eq_true rfl⟩) hK hP hD hS (fb_AA (fb_Dr (a := (fb_wl (fb_cC cA) aC sC LC)) hD) (fun q h => Nat.le_trans hS.1 h)) (fb_recv hK (fb_Pr (a := (fb_wl (fb_cC cA) aC sC LC)) hP) (fb_memM (k := 0) rfl) rfl rfl) rfl hl.1 rfl (lv_room (Nat.le_of_ble_eq_true rfl)) zd_L_law_293 ⟨show 250 + 2 * j ≤ 600000 by omega, show 4363 + 16 * j ≤ 7302250 by omega⟩ (fun rM sM1 H locs hp hP hD hS _ => ?_)
      obtain ⟨hrM, hsM, okM1⟩ := hp
      rw [hrM]
      rw [hsM] at hP hD
      have hP := fb_Psw hP
      have hD := fb_Dsw hD
      refine lv_icmp_eq (tgt := 637) hx hb zd_L_law_296 (by decide) (fun _ => ?_) (fun h9 => absurd (co_clock hCO ) h9)
      refine lv_iinc (k := 3) (v := nI (4 + 4 * (j + 1))) (lv' := [(3, .int (nI (4 + 4 * (j + 1)))), (0, .ref b), (1, .ref (aC 0 0)), (2, .ref (aM 0 0))]) hx hb zd_L_law_637 hl rfl (lw_inc j) (by decide) rfl (fun ls hl => ?_)
      refine lv_goto (tgt := 58) hx hb zd_L_law_640 (by decide) ?_
      refine W.widen (k := 250 + 2 * (j + 1)) (n := 4363 + 16 * (j + 1)) (by omega) (by omega) ?_
      exact ihj _ _ _ ⟨fl, fr, T, sC, sM, aC, aM, LC, hCO, by omega, hLv, lv_sub hl [1, 2, 3, 0] rfl, hP, hD, hS⟩
    · skip
      refine lv_tableIn (x := nI 5) (off := 229) (tgt := 301) hx hb zd_L_law_72 (by decide) (by decide) (by decide) (by decide) ?_
      refine lv_aload_n hx hb zd_L_law_301 rfl (lv_at hl 1 rfl) ?_
      refine lv_aload_n hx hb zd_L_law_302 rfl (lv_at hl 0 rfl) ?_
      refine lv_iload_n hx hb zd_L_law_303 rfl (lv_at hl 3 rfl) ?_
      refine lv_iconst (v := 1) hx hb zd_L_law_304 (by decide) ?_
      refine lv_iadd hx hb zd_L_law_305 ?_
      refine va_sld (A := (fun q => s.heap.size ≤ q)) hx hb hX hbl hbA hS (lw_in (t := 1) hj4 (by decide) hLL) zd_L_law_306 ?_
      have hAA : ∀ q, fb_A aC LC H.size q → s.heap.size ≤ q := fb_AA (fb_Dr (a := (fb_wl (fb_cM cA) aM sM fb_LM)) hD) (fun q h => Nat.le_trans hS.1 h)
      refine pw_ViX (A := (fun q => s.heap.size ≤ q)) (wr := (fb_wl (fb_cM cA) aM sM fb_LM)) (bytes := zb_X_state) (maxL := 3) (ret := (some .int)) (As := [.int (xs (nI (4 + 4 * j) + 1).toNatClampNeg)]) (rest := []) ⟨hx, hb, hml, hown, hT⟩ (c_X_state l D cA aC LC fl fr sC hLv okC (xs (nI (4 + 4 * j) + 1).toNatClampNeg)) (cwV 1 hT (fb_gV zi_372 zi_373 zi_374 zi_1 zc_X_state) rfl rfl rfl (by decide +kernel) ⟨Nat.le_of_ble_eq_true rfl, Nat.le_of_ble_eq_true rfl⟩) hK hP hD hS hAA (fb_recv hK (fb_Pr (a := (fb_wl (fb_cM cA) aM sM fb_LM)) hP) (hLv.2.1 0 (by decide)) rfl rfl) rfl hl.1 rfl (lv_room (Nat.le_of_ble_eq_true rfl)) zd_L_law_307 ⟨show 250 + 2 * j ≤ 600000 by omega, show 4363 + 16 * j ≤ 7302250 by omega⟩ (fun rC sC1 H locs hp hP hD hS _ => ?_)
      obtain ⟨hrC, hsC, okC1⟩ := hp
      rw [hrC]
      rw [hsC] at hP hD
      refine lv_aload_n hx hb zd_L_law_310 rfl (lv_at hl 2 rfl) ?_
      refine lv_aload_n hx hb zd_L_law_311 rfl (lv_at hl 0 rfl) ?_
      refine lv_iload_n hx hb zd_L_law_312 rfl (lv_at hl 3 rfl) ?_
      refine lv_iconst (v := 1) hx hb zd_L_law_313 (by decide) ?_
      refine lv_iadd hx hb zd_L_law_314 ?_
      refine va_sld (A := (fun q => s.heap.size ≤ q)) hx hb hX hbl hbA hS (lw_in (t := 1) hj4 (by decide) hLL) zd_L_law_315 ?_
      have hP : va_P D fb_cl ((fb_wl (fb_cC cA) aC sC LC) ++ (fb_wl (fb_cM cA) aM sM fb_LM)) H := fb_Psw hP
      have hD : va_D (fun q => s.heap.size ≤ q) ((fb_wl (fb_cC cA) aC sC LC) ++ (fb_wl (fb_cM cA) aM sM fb_LM)) := fb_Dsw hD
      refine pw_ViX (A := (fun q => s.heap.size ≤ q)) (wr := (fb_wl (fb_cC cA) aC sC LC)) (bytes := zb_M_state) (maxL := 2) (ret := (some .int)) (As := [.int (xs (nI (4 + 4 * j) + 1).toNatClampNeg)]) (rest := [.int (cf_qK sC 38 (xs (nI (4 + 4 * j) + 1).toNatClampNeg))]) ⟨hx, hb, hml, hown, hT⟩ (c_M_state l D cA aM fl fr T sM hflr okM (xs (nI (4 + 4 * j) + 1).toNatClampNeg)) (cwV 1 hT (fb_gV zi_621 zi_622 zi_623 zi_5 zc_M_state) rfl rfl rfl (by decide +kernel) ⟨Nat.le_of_ble_eq_true rfl, Nat.le_of_ble_eq_true rfl⟩) hK hP hD hS (fb_AA (fb_Dr (a := (fb_wl (fb_cC cA) aC sC LC)) hD) (fun q h => Nat.le_trans hS.1 h)) (fb_recv hK (fb_Pr (a := (fb_wl (fb_cC cA) aC sC LC)) hP) (fb_memM (k := 0) rfl) rfl rfl) rfl hl.1 rfl (lv_room (Nat.le_of_ble_eq_true rfl)) zd_L_law_316 ⟨show 250 + 2 * j ≤ 600000 by omega, show 4363 + 16 * j ≤ 7302250 by omega⟩ (fun rM sM1 H locs hp hP hD hS _ => ?_)
      obtain ⟨hrM, hsM, okM1⟩ := hp
      rw [hrM]
      rw [hsM] at hP hD
      have hP := fb_Psw hP
      have hD := fb_Dsw hD
      refine lv_icmp_eq (tgt := 637) hx hb zd_L_law_319 (by decide) (fun _ => ?_) (fun h9 => absurd (co_state hCO (xs (nI (4 + 4 * j) + 1).toNatClampNeg)) h9)
      refine lv_iinc (k := 3) (v := nI (4 + 4 * (j + 1))) (lv' := [(3, .int (nI (4 + 4 * (j + 1)))), (0, .ref b), (1, .ref (aC 0 0)), (2, .ref (aM 0 0))]) hx hb zd_L_law_637 hl rfl (lw_inc j) (by decide) rfl (fun ls hl => ?_)
      refine lv_goto (tgt := 58) hx hb zd_L_law_640 (by decide) ?_
      refine W.widen (k := 250 + 2 * (j + 1)) (n := 4363 + 16 * (j + 1)) (by omega) (by omega) ?_
      exact ihj _ _ _ ⟨fl, fr, T, sC, sM, aC, aM, LC, hCO, by omega, hLv, lv_sub hl [1, 2, 3, 0] rfl, hP, hD, hS⟩
    · skip
      refine lv_tableIn (x := nI 6) (off := 252) (tgt := 324) hx hb zd_L_law_72 (by decide) (by decide) (by decide) (by decide) ?_
      refine lv_aload_n hx hb zd_L_law_324 rfl (lv_at hl 1 rfl) ?_
      refine lv_aload_n hx hb zd_L_law_325 rfl (lv_at hl 0 rfl) ?_
      refine lv_iload_n hx hb zd_L_law_326 rfl (lv_at hl 3 rfl) ?_
      refine lv_iconst (v := 1) hx hb zd_L_law_327 (by decide) ?_
      refine lv_iadd hx hb zd_L_law_328 ?_
      refine va_sld (A := (fun q => s.heap.size ≤ q)) hx hb hX hbl hbA hS (lw_in (t := 1) hj4 (by decide) hLL) zd_L_law_329 ?_
      have hAA : ∀ q, fb_A aC LC H.size q → s.heap.size ≤ q := fb_AA (fb_Dr (a := (fb_wl (fb_cM cA) aM sM fb_LM)) hD) (fun q h => Nat.le_trans hS.1 h)
      refine pw_ViX (A := (fun q => s.heap.size ≤ q)) (wr := (fb_wl (fb_cM cA) aM sM fb_LM)) (bytes := zb_X_node) (maxL := 3) (ret := (some .int)) (As := [.int (xs (nI (4 + 4 * j) + 1).toNatClampNeg)]) (rest := []) ⟨hx, hb, hml, hown, hT⟩ (c_X_node l D cA aC LC fl fr sC hLv okC (xs (nI (4 + 4 * j) + 1).toNatClampNeg)) (cwV 1 hT (fb_gV zi_380 zi_381 zi_382 zi_1 zc_X_node) rfl rfl rfl (by decide +kernel) ⟨Nat.le_of_ble_eq_true rfl, Nat.le_of_ble_eq_true rfl⟩) hK hP hD hS hAA (fb_recv hK (fb_Pr (a := (fb_wl (fb_cM cA) aM sM fb_LM)) hP) (hLv.2.1 0 (by decide)) rfl rfl) rfl hl.1 rfl (lv_room (Nat.le_of_ble_eq_true rfl)) zd_L_law_330 ⟨show 250 + 2 * j ≤ 600000 by omega, show 4363 + 16 * j ≤ 7302250 by omega⟩ (fun rC sC1 H locs hp hP hD hS _ => ?_)
      obtain ⟨hrC, hsC, okC1⟩ := hp
      rw [hrC]
      rw [hsC] at hP hD
      refine lv_aload_n hx hb zd_L_law_333 rfl (lv_at hl 2 rfl) ?_
      refine lv_aload_n hx hb zd_L_law_334 rfl (lv_at hl 0 rfl) ?_
      refine lv_iload_n hx hb zd_L_law_335 rfl (lv_at hl 3 rfl) ?_
      refine lv_iconst (v := 1) hx hb zd_L_law_336 (by decide) ?_
      refine lv_iadd hx hb zd_L_law_337 ?_
      refine va_sld (A := (fun q => s.heap.size ≤ q)) hx hb hX hbl hbA hS (lw_in (t := 1) hj4 (by decide) hLL) zd_L_law_338 ?_
      have hP : va_P D fb_cl ((fb_wl (fb_cC cA) aC sC LC) ++ (fb_wl (fb_cM cA) aM sM fb_LM)) H := fb_Psw hP
      have hD : va_D (fun q => s.heap.size ≤ q) ((fb_wl (fb_cC cA) aC sC LC) ++ (fb_wl (fb_cM cA) aM sM fb_LM)) := fb_Dsw hD
      refine pw_ViX (A := (fun q => s.heap.size ≤ q)) (wr := (fb_wl (fb_cC cA) aC sC LC)) (bytes := zb_M_node) (maxL := 2) (ret := (some .int)) (As := [.int (xs (nI (4 + 4 * j) + 1).toNatClampNeg)]) (rest := [.int (cf_qK sC 39 (xs (nI (4 + 4 * j) + 1).toNatClampNeg))]) ⟨hx, hb, hml, hown, hT⟩ (c_M_node l D cA aM fl fr T sM hflr okM (xs (nI (4 + 4 * j) + 1).toNatClampNeg)) (cwV 1 hT (fb_gV zi_629 zi_630 zi_631 zi_5 zc_M_node) rfl rfl rfl (by decide +kernel) ⟨Nat.le_of_ble_eq_true rfl, Nat.le_of_ble_eq_true rfl⟩) hK hP hD hS (fb_AA (fb_Dr (a := (fb_wl (fb_cC cA) aC sC LC)) hD) (fun q h => Nat.le_trans hS.1 h)) (fb_recv hK (fb_Pr (a := (fb_wl (fb_cC cA) aC sC LC)) hP) (fb_memM (k := 0) rfl) rfl rfl) rfl hl.1 rfl (lv_room (Nat.le_of_ble_eq_true rfl)) zd_L_law_339 ⟨show 250 + 2 * j ≤ 600000 by omega, show 4363 + 16 * j ≤ 7302250 by omega⟩ (fun rM sM1 H locs hp hP hD hS _ => ?_)
      obtain ⟨hrM, hsM, okM1⟩ := hp
      rw [hrM]
      rw [hsM] at hP hD
      have hP := fb_Psw hP
      have hD := fb_Dsw hD
      refine lv_icmp_eq (tgt := 637) hx hb zd_L_law_342 (by decide) (fun _ => ?_) (fun h9 => absurd (co_node hCO (xs (nI (4 + 4 * j) + 1).toNatClampNeg)) h9)
      refine lv_iinc (k := 3) (v := nI (4 + 4 * (j + 1))) (lv' := [(3, .int (nI (4 + 4 * (j + 1)))), (0, .ref b), (1, .ref (aC 0 0)), (2, .ref (aM 0 0))]) hx hb zd_L_law_637 hl rfl (lw_inc j) (by decide) rfl (fun ls hl => ?_)
      refine lv_goto (tgt := 58) hx hb zd_L_law_640 (by decide) ?_
      refine W.widen (k := 250 + 2 * (j + 1)) (n := 4363 + 16 * (j + 1)) (by omega) (by omega) ?_
      exact ihj _ _ _ ⟨fl, fr, T, sC, sM, aC, aM, LC, hCO, by omega, hLv, lv_sub hl [1, 2, 3, 0] rfl, hP, hD, hS⟩
    · skip
      refine lv_tableIn (x := nI 7) (off := 275) (tgt := 347) hx hb zd_L_law_72 (by decide) (by decide) (by decide) (by decide) ?_
      refine lv_aload_n hx hb zd_L_law_347 rfl (lv_at hl 1 rfl) ?_
      refine lv_aload_n hx hb zd_L_law_348 rfl (lv_at hl 0 rfl) ?_
      refine lv_iload_n hx hb zd_L_law_349 rfl (lv_at hl 3 rfl) ?_
      refine lv_iconst (v := 1) hx hb zd_L_law_350 (by decide) ?_
      refine lv_iadd hx hb zd_L_law_351 ?_
      refine va_sld (A := (fun q => s.heap.size ≤ q)) hx hb hX hbl hbA hS (lw_in (t := 1) hj4 (by decide) hLL) zd_L_law_352 ?_
      have hAA : ∀ q, fb_A aC LC H.size q → s.heap.size ≤ q := fb_AA (fb_Dr (a := (fb_wl (fb_cM cA) aM sM fb_LM)) hD) (fun q h => Nat.le_trans hS.1 h)
      refine pw_ViX (A := (fun q => s.heap.size ≤ q)) (wr := (fb_wl (fb_cM cA) aM sM fb_LM)) (bytes := zb_X_marked) (maxL := 3) (ret := (some .boolean)) (As := [.int (xs (nI (4 + 4 * j) + 1).toNatClampNeg)]) (rest := []) ⟨hx, hb, hml, hown, hT⟩ (c_X_marked l D cA aC LC fl fr sC hLv okC (xs (nI (4 + 4 * j) + 1).toNatClampNeg)) (cwV 1 hT (fb_gV zi_384 zi_385 zi_386 zi_1 zc_X_marked) rfl rfl rfl (by decide +kernel) ⟨Nat.le_of_ble_eq_true rfl, Nat.le_of_ble_eq_true rfl⟩) hK hP hD hS hAA (fb_recv hK (fb_Pr (a := (fb_wl (fb_cM cA) aM sM fb_LM)) hP) (hLv.2.1 0 (by decide)) rfl rfl) rfl hl.1 rfl (lv_room (Nat.le_of_ble_eq_true rfl)) zd_L_law_353 ⟨show 250 + 2 * j ≤ 600000 by omega, show 4363 + 16 * j ≤ 7302250 by omega⟩ (fun rC sC1 H locs hp hP hD hS _ => ?_)
      obtain ⟨hrC, hsC, okC1⟩ := hp
      rw [hrC]
      rw [hsC] at hP hD
      refine lv_aload_n hx hb zd_L_law_356 rfl (lv_at hl 2 rfl) ?_
      refine lv_aload_n hx hb zd_L_law_357 rfl (lv_at hl 0 rfl) ?_
      refine lv_iload_n hx hb zd_L_law_358 rfl (lv_at hl 3 rfl) ?_
      refine lv_iconst (v := 1) hx hb zd_L_law_359 (by decide) ?_
      refine lv_iadd hx hb zd_L_law_360 ?_
      refine va_sld (A := (fun q => s.heap.size ≤ q)) hx hb hX hbl hbA hS (lw_in (t := 1) hj4 (by decide) hLL) zd_L_law_361 ?_
      have hP : va_P D fb_cl ((fb_wl (fb_cC cA) aC sC LC) ++ (fb_wl (fb_cM cA) aM sM fb_LM)) H := fb_Psw hP
      have hD : va_D (fun q => s.heap.size ≤ q) ((fb_wl (fb_cC cA) aC sC LC) ++ (fb_wl (fb_cM cA) aM sM fb_LM)) := fb_Dsw hD
      refine pw_ViX (A := (fun q => s.heap.size ≤ q)) (wr := (fb_wl (fb_cC cA) aC sC LC)) (bytes := zb_M_marked) (maxL := 2) (ret := (some .boolean)) (As := [.int (xs (nI (4 + 4 * j) + 1).toNatClampNeg)]) (rest := [.int (cf_qM sC (xs (nI (4 + 4 * j) + 1).toNatClampNeg))]) ⟨hx, hb, hml, hown, hT⟩ (c_M_marked l D cA aM fl fr T sM hflr okM (xs (nI (4 + 4 * j) + 1).toNatClampNeg)) (cwV 1 hT (fb_gV zi_633 zi_634 zi_635 zi_5 zc_M_marked) rfl rfl rfl (by decide +kernel) ⟨Nat.le_of_ble_eq_true rfl, Nat.le_of_ble_eq_true rfl⟩) hK hP hD hS (fb_AA (fb_Dr (a := (fb_wl (fb_cC cA) aC sC LC)) hD) (fun q h => Nat.le_trans hS.1 h)) (fb_recv hK (fb_Pr (a := (fb_wl (fb_cC cA) aC sC LC)) hP) (fb_memM (k := 0) rfl) rfl rfl) rfl hl.1 rfl (lv_room (Nat.le_of_ble_eq_true rfl)) zd_L_law_362 ⟨show 250 + 2 * j ≤ 600000 by omega, show 4363 + 16 * j ≤ 7302250 by omega⟩ (fun rM sM1 H locs hp hP hD hS _ => ?_)
      obtain ⟨hrM, hsM, okM1⟩ := hp
      rw [hrM]
      rw [hsM] at hP hD
      have hP := fb_Psw hP
      have hD := fb_Dsw hD
      refine lv_icmp_eq (tgt := 637) hx hb zd_L_law_365 (by decide) (fun _ => ?_) (fun h9 => absurd (co_marked hCO (xs (nI (4 + 4 * j) + 1).toNatClampNeg)) h9)
      refine lv_iinc (k := 3) (v := nI (4 + 4 * (j + 1))) (lv' := [(3, .int (nI (4 + 4 * (j + 1)))), (0, .ref b), (1, .ref (aC 0 0)), (2, .ref (aM 0 0))]) hx hb zd_L_law_637 hl rfl (lw_inc j) (by decide) rfl (fun ls hl => ?_)
      refine lv_goto (tgt := 58) hx hb zd_L_law_640 (by decide) ?_
      refine W.widen (k := 250 + 2 * (j + 1)) (n := 4363 + 16 * (j + 1)) (by omega) (by omega) ?_
      exact ihj _ _ _ ⟨fl, fr, T, sC, sM, aC, aM, LC, hCO, by omega, hLv, lv_sub hl [1, 2, 3, 0] rfl, hP, hD, hS⟩
    · skip
      refine lv_tableIn (x := nI 8) (off := 298) (tgt := 370) hx hb zd_L_law_72 (by decide) (by decide) (by decide) (by decide) ?_
      refine lv_aload_n hx hb zd_L_law_370 rfl (lv_at hl 1 rfl) ?_
      refine lv_aload_n hx hb zd_L_law_371 rfl (lv_at hl 0 rfl) ?_
      refine lv_iload_n hx hb zd_L_law_372 rfl (lv_at hl 3 rfl) ?_
      refine lv_iconst (v := 1) hx hb zd_L_law_373 (by decide) ?_
      refine lv_iadd hx hb zd_L_law_374 ?_
      refine va_sld (A := (fun q => s.heap.size ≤ q)) hx hb hX hbl hbA hS (lw_in (t := 1) hj4 (by decide) hLL) zd_L_law_375 ?_
      refine lv_aload_n hx hb zd_L_law_376 rfl (lv_at hl 0 rfl) ?_
      refine lv_iload_n hx hb zd_L_law_377 rfl (lv_at hl 3 rfl) ?_
      refine lv_iconst (v := 2) hx hb zd_L_law_378 (by decide) ?_
      refine lv_iadd hx hb zd_L_law_379 ?_
      refine va_sld (A := (fun q => s.heap.size ≤ q)) hx hb hX hbl hbA hS (lw_in (t := 2) hj4 (by decide) hLL) zd_L_law_380 ?_
      refine lv_aload_n hx hb zd_L_law_381 rfl (lv_at hl 0 rfl) ?_
      refine lv_iload_n hx hb zd_L_law_382 rfl (lv_at hl 3 rfl) ?_
      refine lv_iconst (v := 3) hx hb zd_L_law_383 (by decide) ?_
      refine lv_iadd hx hb zd_L_law_384 ?_
      refine va_sld (A := (fun q => s.heap.size ≤ q)) hx hb hX hbl hbA hS (lw_in (t := 3) hj4 (by decide) hLL) zd_L_law_385 ?_
      have hAA : ∀ q, fb_A aC LC H.size q → s.heap.size ≤ q := fb_AA (fb_Dr (a := (fb_wl (fb_cM cA) aM sM fb_LM)) hD) (fun q h => Nat.le_trans hS.1 h)
      refine pw_ViX (A := (fun q => s.heap.size ≤ q)) (wr := (fb_wl (fb_cM cA) aM sM fb_LM)) (bytes := zb_X_queued) (maxL := 5) (ret := (some .int)) (As := [.int (xs (nI (4 + 4 * j) + 1).toNatClampNeg), .int (xs (nI (4 + 4 * j) + 2).toNatClampNeg), .int (xs (nI (4 + 4 * j) + 3).toNatClampNeg)]) (rest := []) ⟨hx, hb, hml, hown, hT⟩ (c_X_queued l D cA aC LC fl fr sC hLv okC (xs (nI (4 + 4 * j) + 1).toNatClampNeg) (xs (nI (4 + 4 * j) + 2).toNatClampNeg) (xs (nI (4 + 4 * j) + 3).toNatClampNeg)) (cwV 3 hT (fb_gV zi_388 zi_389 zi_390 zi_1 zc_X_queued) rfl rfl rfl (by decide +kernel) ⟨Nat.le_of_ble_eq_true rfl, Nat.le_of_ble_eq_true rfl⟩) hK hP hD hS hAA (fb_recv hK (fb_Pr (a := (fb_wl (fb_cM cA) aM sM fb_LM)) hP) (hLv.2.1 0 (by decide)) rfl rfl) rfl hl.1 rfl (lv_room (Nat.le_of_ble_eq_true rfl)) zd_L_law_386 ⟨show 250 + 2 * j ≤ 600000 by omega, show 4363 + 16 * j ≤ 7302250 by omega⟩ (fun rC sC1 H locs hp hP hD hS _ => ?_)
      obtain ⟨hrC, hsC, okC1⟩ := hp
      rw [hrC]
      rw [hsC] at hP hD
      refine lv_aload_n hx hb zd_L_law_389 rfl (lv_at hl 2 rfl) ?_
      refine lv_aload_n hx hb zd_L_law_390 rfl (lv_at hl 0 rfl) ?_
      refine lv_iload_n hx hb zd_L_law_391 rfl (lv_at hl 3 rfl) ?_
      refine lv_iconst (v := 1) hx hb zd_L_law_392 (by decide) ?_
      refine lv_iadd hx hb zd_L_law_393 ?_
      refine va_sld (A := (fun q => s.heap.size ≤ q)) hx hb hX hbl hbA hS (lw_in (t := 1) hj4 (by decide) hLL) zd_L_law_394 ?_
      refine lv_aload_n hx hb zd_L_law_395 rfl (lv_at hl 0 rfl) ?_
      refine lv_iload_n hx hb zd_L_law_396 rfl (lv_at hl 3 rfl) ?_
      refine lv_iconst (v := 2) hx hb zd_L_law_397 (by decide) ?_
      refine lv_iadd hx hb zd_L_law_398 ?_
      refine va_sld (A := (fun q => s.heap.size ≤ q)) hx hb hX hbl hbA hS (lw_in (t := 2) hj4 (by decide) hLL) zd_L_law_399 ?_
      refine lv_aload_n hx hb zd_L_law_400 rfl (lv_at hl 0 rfl) ?_
      refine lv_iload_n hx hb zd_L_law_401 rfl (lv_at hl 3 rfl) ?_
      refine lv_iconst (v := 3) hx hb zd_L_law_402 (by decide) ?_
      refine lv_iadd hx hb zd_L_law_403 ?_
      refine va_sld (A := (fun q => s.heap.size ≤ q)) hx hb hX hbl hbA hS (lw_in (t := 3) hj4 (by decide) hLL) zd_L_law_404 ?_
      have hP : va_P D fb_cl ((fb_wl (fb_cC cA) aC sC LC) ++ (fb_wl (fb_cM cA) aM sM fb_LM)) H := fb_Psw hP
      have hD : va_D (fun q => s.heap.size ≤ q) ((fb_wl (fb_cC cA) aC sC LC) ++ (fb_wl (fb_cM cA) aM sM fb_LM)) := fb_Dsw hD
      refine pw_ViX (A := (fun q => s.heap.size ≤ q)) (wr := (fb_wl (fb_cC cA) aC sC LC)) (bytes := zb_M_queued) (maxL := 4) (ret := (some .int)) (As := [.int (xs (nI (4 + 4 * j) + 1).toNatClampNeg), .int (xs (nI (4 + 4 * j) + 2).toNatClampNeg), .int (xs (nI (4 + 4 * j) + 3).toNatClampNeg)]) (rest := [.int (cf_queued sC (xs (nI (4 + 4 * j) + 1).toNatClampNeg) (xs (nI (4 + 4 * j) + 2).toNatClampNeg) (xs (nI (4 + 4 * j) + 3).toNatClampNeg))]) ⟨hx, hb, hml, hown, hT⟩ (c_M_queued l D cA aM fl fr T sM hflr okM (xs (nI (4 + 4 * j) + 1).toNatClampNeg) (xs (nI (4 + 4 * j) + 2).toNatClampNeg) (xs (nI (4 + 4 * j) + 3).toNatClampNeg)) (cwV 3 hT (fb_gV zi_637 zi_638 zi_639 zi_5 zc_M_queued) rfl rfl rfl (by decide +kernel) ⟨Nat.le_of_ble_eq_true rfl, Nat.le_of_ble_eq_true rfl⟩) hK hP hD hS (fb_AA (fb_Dr (a := (fb_wl (fb_cC cA) aC sC LC)) hD) (fun q h => Nat.le_trans hS.1 h)) (fb_recv hK (fb_Pr (a := (fb_wl (fb_cC cA) aC sC LC)) hP) (fb_memM (k := 0) rfl) rfl rfl) rfl hl.1 rfl (lv_room (Nat.le_of_ble_eq_true rfl)) zd_L_law_405 ⟨show 250 + 2 * j ≤ 600000 by omega, show 4363 + 16 * j ≤ 7302250 by omega⟩ (fun rM sM1 H locs hp hP hD hS _ => ?_)
      obtain ⟨hrM, hsM, okM1⟩ := hp
      rw [hrM]
      rw [hsM] at hP hD
      have hP := fb_Psw hP
      have hD := fb_Dsw hD
      refine lv_icmp_eq (tgt := 637) hx hb zd_L_law_408 (by decide) (fun _ => ?_) (fun h9 => absurd (co_queued hCO (xs (nI (4 + 4 * j) + 1).toNatClampNeg) (xs (nI (4 + 4 * j) + 2).toNatClampNeg) (xs (nI (4 + 4 * j) + 3).toNatClampNeg)) h9)
      refine lv_iinc (k := 3) (v := nI (4 + 4 * (j + 1))) (lv' := [(3, .int (nI (4 + 4 * (j + 1)))), (0, .ref b), (1, .ref (aC 0 0)), (2, .ref (aM 0 0))]) hx hb zd_L_law_637 hl rfl (lw_inc j) (by decide) rfl (fun ls hl => ?_)
      refine lv_goto (tgt := 58) hx hb zd_L_law_640 (by decide) ?_
      refine W.widen (k := 250 + 2 * (j + 1)) (n := 4363 + 16 * (j + 1)) (by omega) (by omega) ?_
      exact ihj _ _ _ ⟨fl, fr, T, sC, sM, aC, aM, LC, hCO, by omega, hLv, lv_sub hl [1, 2, 3, 0] rfl, hP, hD, hS⟩
    · skip
      refine lv_tableIn (x := nI 9) (off := 341) (tgt := 413) hx hb zd_L_law_72 (by decide) (by decide) (by decide) (by decide) ?_
      refine lv_aload_n hx hb zd_L_law_413 rfl (lv_at hl 1 rfl) ?_
      refine lv_aload_n hx hb zd_L_law_414 rfl (lv_at hl 0 rfl) ?_
      refine lv_iload_n hx hb zd_L_law_415 rfl (lv_at hl 3 rfl) ?_
      refine lv_iconst (v := 1) hx hb zd_L_law_416 (by decide) ?_
      refine lv_iadd hx hb zd_L_law_417 ?_
      refine va_sld (A := (fun q => s.heap.size ≤ q)) hx hb hX hbl hbA hS (lw_in (t := 1) hj4 (by decide) hLL) zd_L_law_418 ?_
      refine lv_aload_n hx hb zd_L_law_419 rfl (lv_at hl 0 rfl) ?_
      refine lv_iload_n hx hb zd_L_law_420 rfl (lv_at hl 3 rfl) ?_
      refine lv_iconst (v := 2) hx hb zd_L_law_421 (by decide) ?_
      refine lv_iadd hx hb zd_L_law_422 ?_
      refine va_sld (A := (fun q => s.heap.size ≤ q)) hx hb hX hbl hbA hS (lw_in (t := 2) hj4 (by decide) hLL) zd_L_law_423 ?_
      refine lv_aload_n hx hb zd_L_law_424 rfl (lv_at hl 0 rfl) ?_
      refine lv_iload_n hx hb zd_L_law_425 rfl (lv_at hl 3 rfl) ?_
      refine lv_iconst (v := 3) hx hb zd_L_law_426 (by decide) ?_
      refine lv_iadd hx hb zd_L_law_427 ?_
      refine va_sld (A := (fun q => s.heap.size ≤ q)) hx hb hX hbl hbA hS (lw_in (t := 3) hj4 (by decide) hLL) zd_L_law_428 ?_
      have hAA : ∀ q, fb_A aC LC H.size q → s.heap.size ≤ q := fb_AA (fb_Dr (a := (fb_wl (fb_cM cA) aM sM fb_LM)) hD) (fun q h => Nat.le_trans hS.1 h)
      refine pw_ViX (A := (fun q => s.heap.size ≤ q)) (wr := (fb_wl (fb_cM cA) aM sM fb_LM)) (bytes := zb_X_held) (maxL := 5) (ret := (some .int)) (As := [.int (xs (nI (4 + 4 * j) + 1).toNatClampNeg), .int (xs (nI (4 + 4 * j) + 2).toNatClampNeg), .int (xs (nI (4 + 4 * j) + 3).toNatClampNeg)]) (rest := []) ⟨hx, hb, hml, hown, hT⟩ (c_X_held l D cA aC LC fl fr sC hLv okC (xs (nI (4 + 4 * j) + 1).toNatClampNeg) (xs (nI (4 + 4 * j) + 2).toNatClampNeg) (xs (nI (4 + 4 * j) + 3).toNatClampNeg)) (cwV 3 hT (fb_gV zi_392 zi_393 zi_394 zi_1 zc_X_held) rfl rfl rfl (by decide +kernel) ⟨Nat.le_of_ble_eq_true rfl, Nat.le_of_ble_eq_true rfl⟩) hK hP hD hS hAA (fb_recv hK (fb_Pr (a := (fb_wl (fb_cM cA) aM sM fb_LM)) hP) (hLv.2.1 0 (by decide)) rfl rfl) rfl hl.1 rfl (lv_room (Nat.le_of_ble_eq_true rfl)) zd_L_law_429 ⟨show 250 + 2 * j ≤ 600000 by omega, show 4363 + 16 * j ≤ 7302250 by omega⟩ (fun rC sC1 H locs hp hP hD hS _ => ?_)
      obtain ⟨hrC, hsC, okC1⟩ := hp
      rw [hrC]
      rw [hsC] at hP hD
      refine lv_aload_n hx hb zd_L_law_432 rfl (lv_at hl 2 rfl) ?_
      refine lv_aload_n hx hb zd_L_law_433 rfl (lv_at hl 0 rfl) ?_
      refine lv_iload_n hx hb zd_L_law_434 rfl (lv_at hl 3 rfl) ?_
      refine lv_iconst (v := 1) hx hb zd_L_law_435 (by decide) ?_
      refine lv_iadd hx hb zd_L_law_436 ?_
      refine va_sld (A := (fun q => s.heap.size ≤ q)) hx hb hX hbl hbA hS (lw_in (t := 1) hj4 (by decide) hLL) zd_L_law_437 ?_
      refine lv_aload_n hx hb zd_L_law_438 rfl (lv_at hl 0 rfl) ?_
      refine lv_iload_n hx hb zd_L_law_439 rfl (lv_at hl 3 rfl) ?_
      refine lv_iconst (v := 2) hx hb zd_L_law_440 (by decide) ?_
      refine lv_iadd hx hb zd_L_law_441 ?_
      refine va_sld (A := (fun q => s.heap.size ≤ q)) hx hb hX hbl hbA hS (lw_in (t := 2) hj4 (by decide) hLL) zd_L_law_442 ?_
      refine lv_aload_n hx hb zd_L_law_443 rfl (lv_at hl 0 rfl) ?_
      refine lv_iload_n hx hb zd_L_law_444 rfl (lv_at hl 3 rfl) ?_
      refine lv_iconst (v := 3) hx hb zd_L_law_445 (by decide) ?_
      refine lv_iadd hx hb zd_L_law_446 ?_
      refine va_sld (A := (fun q => s.heap.size ≤ q)) hx hb hX hbl hbA hS (lw_in (t := 3) hj4 (by decide) hLL) zd_L_law_447 ?_
      have hP : va_P D fb_cl ((fb_wl (fb_cC cA) aC sC LC) ++ (fb_wl (fb_cM cA) aM sM fb_LM)) H := fb_Psw hP
      have hD : va_D (fun q => s.heap.size ≤ q) ((fb_wl (fb_cC cA) aC sC LC) ++ (fb_wl (fb_cM cA) aM sM fb_LM)) := fb_Dsw hD
      refine pw_ViX (A := (fun q => s.heap.size ≤ q)) (wr := (fb_wl (fb_cC cA) aC sC LC)) (bytes := zb_M_held) (maxL := 4) (ret := (some .int)) (As := [.int (xs (nI (4 + 4 * j) + 1).toNatClampNeg), .int (xs (nI (4 + 4 * j) + 2).toNatClampNeg), .int (xs (nI (4 + 4 * j) + 3).toNatClampNeg)]) (rest := [.int (cf_held sC (xs (nI (4 + 4 * j) + 1).toNatClampNeg) (xs (nI (4 + 4 * j) + 2).toNatClampNeg) (xs (nI (4 + 4 * j) + 3).toNatClampNeg))]) ⟨hx, hb, hml, hown, hT⟩ (c_M_held l D cA aM fl fr T sM hflr okM (xs (nI (4 + 4 * j) + 1).toNatClampNeg) (xs (nI (4 + 4 * j) + 2).toNatClampNeg) (xs (nI (4 + 4 * j) + 3).toNatClampNeg)) (cwV 3 hT (fb_gV zi_641 zi_642 zi_643 zi_5 zc_M_held) rfl rfl rfl (by decide +kernel) ⟨Nat.le_of_ble_eq_true rfl, Nat.le_of_ble_eq_true rfl⟩) hK hP hD hS (fb_AA (fb_Dr (a := (fb_wl (fb_cC cA) aC sC LC)) hD) (fun q h => Nat.le_trans hS.1 h)) (fb_recv hK (fb_Pr (a := (fb_wl (fb_cC cA) aC sC LC)) hP) (fb_memM (k := 0) rfl) rfl rfl) rfl hl.1 rfl (lv_room (Nat.le_of_ble_eq_true rfl)) zd_L_law_448 ⟨show 250 + 2 * j ≤ 600000 by omega, show 4363 + 16 * j ≤ 7302250 by omega⟩ (fun rM sM1 H locs hp hP hD hS _ => ?_)
      obtain ⟨hrM, hsM, okM1⟩ := hp
      rw [hrM]
      rw [hsM] at hP hD
      have hP := fb_Psw hP
      have hD := fb_Dsw hD
      refine lv_icmp_eq (tgt := 637) hx hb zd_L_law_451 (by decide) (fun _ => ?_) (fun h9 => absurd (co_held hCO (xs (nI (4 + 4 * j) + 1).toNatClampNeg) (xs (nI (4 + 4 * j) + 2).toNatClampNeg) (xs (nI (4 + 4 * j) + 3).toNatClampNeg)) h9)
      refine lv_iinc (k := 3) (v := nI (4 + 4 * (j + 1))) (lv' := [(3, .int (nI (4 + 4 * (j + 1)))), (0, .ref b), (1, .ref (aC 0 0)), (2, .ref (aM 0 0))]) hx hb zd_L_law_637 hl rfl (lw_inc j) (by decide) rfl (fun ls hl => ?_)
      refine lv_goto (tgt := 58) hx hb zd_L_law_640 (by decide) ?_
      refine W.widen (k := 250 + 2 * (j + 1)) (n := 4363 + 16 * (j + 1)) (by omega) (by omega) ?_
      exact ihj _ _ _ ⟨fl, fr, T, sC, sM, aC, aM, LC, hCO, by omega, hLv, lv_sub hl [1, 2, 3, 0] rfl, hP, hD, hS⟩
    · skip
      refine lv_tableIn (x := nI 10) (off := 384) (tgt := 456) hx hb zd_L_law_72 (by decide) (by decide) (by decide) (by decide) ?_
      refine lv_aload_n hx hb zd_L_law_456 rfl (lv_at hl 1 rfl) ?_
      refine lv_aload_n hx hb zd_L_law_457 rfl (lv_at hl 0 rfl) ?_
      refine lv_iload_n hx hb zd_L_law_458 rfl (lv_at hl 3 rfl) ?_
      refine lv_iconst (v := 1) hx hb zd_L_law_459 (by decide) ?_
      refine lv_iadd hx hb zd_L_law_460 ?_
      refine va_sld (A := (fun q => s.heap.size ≤ q)) hx hb hX hbl hbA hS (lw_in (t := 1) hj4 (by decide) hLL) zd_L_law_461 ?_
      refine lv_aload_n hx hb zd_L_law_462 rfl (lv_at hl 0 rfl) ?_
      refine lv_iload_n hx hb zd_L_law_463 rfl (lv_at hl 3 rfl) ?_
      refine lv_iconst (v := 2) hx hb zd_L_law_464 (by decide) ?_
      refine lv_iadd hx hb zd_L_law_465 ?_
      refine va_sld (A := (fun q => s.heap.size ≤ q)) hx hb hX hbl hbA hS (lw_in (t := 2) hj4 (by decide) hLL) zd_L_law_466 ?_
      have hAA : ∀ q, fb_A aC LC H.size q → s.heap.size ≤ q := fb_AA (fb_Dr (a := (fb_wl (fb_cM cA) aM sM fb_LM)) hD) (fun q h => Nat.le_trans hS.1 h)
      refine pw_ViX (A := (fun q => s.heap.size ≤ q)) (wr := (fb_wl (fb_cM cA) aM sM fb_LM)) (bytes := zb_X_asks) (maxL := 4) (ret := (some .boolean)) (As := [.int (xs (nI (4 + 4 * j) + 1).toNatClampNeg), .int (xs (nI (4 + 4 * j) + 2).toNatClampNeg)]) (rest := []) ⟨hx, hb, hml, hown, hT⟩ (c_X_asks l D cA aC LC fl fr sC hLv okC (xs (nI (4 + 4 * j) + 1).toNatClampNeg) (xs (nI (4 + 4 * j) + 2).toNatClampNeg)) (cwV 2 hT (fb_gV zi_396 zi_397 zi_398 zi_1 zc_X_asks) rfl rfl rfl (by decide +kernel) ⟨Nat.le_of_ble_eq_true rfl, Nat.le_of_ble_eq_true rfl⟩) hK hP hD hS hAA (fb_recv hK (fb_Pr (a := (fb_wl (fb_cM cA) aM sM fb_LM)) hP) (hLv.2.1 0 (by decide)) rfl rfl) rfl hl.1 rfl (lv_room (Nat.le_of_ble_eq_true rfl)) zd_L_law_467 ⟨show 250 + 2 * j ≤ 600000 by omega, show 4363 + 16 * j ≤ 7302250 by omega⟩ (fun rC sC1 H locs hp hP hD hS _ => ?_)
      obtain ⟨hrC, hsC, okC1⟩ := hp
      rw [hrC]
      rw [hsC] at hP hD
      refine lv_aload_n hx hb zd_L_law_470 rfl (lv_at hl 2 rfl) ?_
      refine lv_aload_n hx hb zd_L_law_471 rfl (lv_at hl 0 rfl) ?_
      refine lv_iload_n hx hb zd_L_law_472 rfl (lv_at hl 3 rfl) ?_
      refine lv_iconst (v := 1) hx hb zd_L_law_473 (by decide) ?_
      refine lv_iadd hx hb zd_L_law_474 ?_
      refine va_sld (A := (fun q => s.heap.size ≤ q)) hx hb hX hbl hbA hS (lw_in (t := 1) hj4 (by decide) hLL) zd_L_law_475 ?_
      refine lv_aload_n hx hb zd_L_law_476 rfl (lv_at hl 0 rfl) ?_
      refine lv_iload_n hx hb zd_L_law_477 rfl (lv_at hl 3 rfl) ?_
      refine lv_iconst (v := 2) hx hb zd_L_law_478 (by decide) ?_
      refine lv_iadd hx hb zd_L_law_479 ?_
      refine va_sld (A := (fun q => s.heap.size ≤ q)) hx hb hX hbl hbA hS (lw_in (t := 2) hj4 (by decide) hLL) zd_L_law_480 ?_
      have hP : va_P D fb_cl ((fb_wl (fb_cC cA) aC sC LC) ++ (fb_wl (fb_cM cA) aM sM fb_LM)) H := fb_Psw hP
      have hD : va_D (fun q => s.heap.size ≤ q) ((fb_wl (fb_cC cA) aC sC LC) ++ (fb_wl (fb_cM cA) aM sM fb_LM)) := fb_Dsw hD
      refine pw_ViX (A := (fun q => s.heap.size ≤ q)) (wr := (fb_wl (fb_cC cA) aC sC LC)) (bytes := zb_M_asks) (maxL := 3) (ret := (some .boolean)) (As := [.int (xs (nI (4 + 4 * j) + 1).toNatClampNeg), .int (xs (nI (4 + 4 * j) + 2).toNatClampNeg)]) (rest := [.int (cf_qP sC 14 (xs (nI (4 + 4 * j) + 1).toNatClampNeg) (xs (nI (4 + 4 * j) + 2).toNatClampNeg))]) ⟨hx, hb, hml, hown, hT⟩ (c_M_asks l D cA aM fl fr T sM hflr okM (xs (nI (4 + 4 * j) + 1).toNatClampNeg) (xs (nI (4 + 4 * j) + 2).toNatClampNeg)) (cwV 2 hT (fb_gV zi_645 zi_646 zi_647 zi_5 zc_M_asks) rfl rfl rfl (by decide +kernel) ⟨Nat.le_of_ble_eq_true rfl, Nat.le_of_ble_eq_true rfl⟩) hK hP hD hS (fb_AA (fb_Dr (a := (fb_wl (fb_cC cA) aC sC LC)) hD) (fun q h => Nat.le_trans hS.1 h)) (fb_recv hK (fb_Pr (a := (fb_wl (fb_cC cA) aC sC LC)) hP) (fb_memM (k := 0) rfl) rfl rfl) rfl hl.1 rfl (lv_room (Nat.le_of_ble_eq_true rfl)) zd_L_law_481 ⟨show 250 + 2 * j ≤ 600000 by omega, show 4363 + 16 * j ≤ 7302250 by omega⟩ (fun rM sM1 H locs hp hP hD hS _ => ?_)
      obtain ⟨hrM, hsM, okM1⟩ := hp
      rw [hrM]
      rw [hsM] at hP hD
      have hP := fb_Psw hP
      have hD := fb_Dsw hD
      refine lv_icmp_eq (tgt := 637) hx hb zd_L_law_484 (by decide) (fun _ => ?_) (fun h9 => absurd (co_asks hCO (xs (nI (4 + 4 * j) + 1).toNatClampNeg) (xs (nI (4 + 4 * j) + 2).toNatClampNeg)) h9)
      refine lv_iinc (k := 3) (v := nI (4 + 4 * (j + 1))) (lv' := [(3, .int (nI (4 + 4 * (j + 1)))), (0, .ref b), (1, .ref (aC 0 0)), (2, .ref (aM 0 0))]) hx hb zd_L_law_637 hl rfl (lw_inc j) (by decide) rfl (fun ls hl => ?_)
      refine lv_goto (tgt := 58) hx hb zd_L_law_640 (by decide) ?_
      refine W.widen (k := 250 + 2 * (j + 1)) (n := 4363 + 16 * (j + 1)) (by omega) (by omega) ?_
      exact ihj _ _ _ ⟨fl, fr, T, sC, sM, aC, aM, LC, hCO, by omega, hLv, lv_sub hl [1, 2, 3, 0] rfl, hP, hD, hS⟩
    · skip
      refine lv_tableIn (x := nI 11) (off := 417) (tgt := 489) hx hb zd_L_law_72 (by decide) (by decide) (by decide) (by decide) ?_
      refine lv_aload_n hx hb zd_L_law_489 rfl (lv_at hl 1 rfl) ?_
      refine lv_aload_n hx hb zd_L_law_490 rfl (lv_at hl 0 rfl) ?_
      refine lv_iload_n hx hb zd_L_law_491 rfl (lv_at hl 3 rfl) ?_
      refine lv_iconst (v := 1) hx hb zd_L_law_492 (by decide) ?_
      refine lv_iadd hx hb zd_L_law_493 ?_
      refine va_sld (A := (fun q => s.heap.size ≤ q)) hx hb hX hbl hbA hS (lw_in (t := 1) hj4 (by decide) hLL) zd_L_law_494 ?_
      refine lv_aload_n hx hb zd_L_law_495 rfl (lv_at hl 0 rfl) ?_
      refine lv_iload_n hx hb zd_L_law_496 rfl (lv_at hl 3 rfl) ?_
      refine lv_iconst (v := 2) hx hb zd_L_law_497 (by decide) ?_
      refine lv_iadd hx hb zd_L_law_498 ?_
      refine va_sld (A := (fun q => s.heap.size ≤ q)) hx hb hX hbl hbA hS (lw_in (t := 2) hj4 (by decide) hLL) zd_L_law_499 ?_
      have hAA : ∀ q, fb_A aC LC H.size q → s.heap.size ≤ q := fb_AA (fb_Dr (a := (fb_wl (fb_cM cA) aM sM fb_LM)) hD) (fun q h => Nat.le_trans hS.1 h)
      refine pw_ViX (A := (fun q => s.heap.size ≤ q)) (wr := (fb_wl (fb_cM cA) aM sM fb_LM)) (bytes := zb_X_paused) (maxL := 4) (ret := (some .boolean)) (As := [.int (xs (nI (4 + 4 * j) + 1).toNatClampNeg), .int (xs (nI (4 + 4 * j) + 2).toNatClampNeg)]) (rest := []) ⟨hx, hb, hml, hown, hT⟩ (c_X_paused l D cA aC LC fl fr sC hLv okC (xs (nI (4 + 4 * j) + 1).toNatClampNeg) (xs (nI (4 + 4 * j) + 2).toNatClampNeg)) (cwV 2 hT (fb_gV zi_400 zi_401 zi_402 zi_1 zc_X_paused) rfl rfl rfl (by decide +kernel) ⟨Nat.le_of_ble_eq_true rfl, Nat.le_of_ble_eq_true rfl⟩) hK hP hD hS hAA (fb_recv hK (fb_Pr (a := (fb_wl (fb_cM cA) aM sM fb_LM)) hP) (hLv.2.1 0 (by decide)) rfl rfl) rfl hl.1 rfl (lv_room (Nat.le_of_ble_eq_true rfl)) zd_L_law_500 ⟨show 250 + 2 * j ≤ 600000 by omega, show 4363 + 16 * j ≤ 7302250 by omega⟩ (fun rC sC1 H locs hp hP hD hS _ => ?_)
      obtain ⟨hrC, hsC, okC1⟩ := hp
      rw [hrC]
      rw [hsC] at hP hD
      refine lv_aload_n hx hb zd_L_law_503 rfl (lv_at hl 2 rfl) ?_
      refine lv_aload_n hx hb zd_L_law_504 rfl (lv_at hl 0 rfl) ?_
      refine lv_iload_n hx hb zd_L_law_505 rfl (lv_at hl 3 rfl) ?_
      refine lv_iconst (v := 1) hx hb zd_L_law_506 (by decide) ?_
      refine lv_iadd hx hb zd_L_law_507 ?_
      refine va_sld (A := (fun q => s.heap.size ≤ q)) hx hb hX hbl hbA hS (lw_in (t := 1) hj4 (by decide) hLL) zd_L_law_508 ?_
      refine lv_aload_n hx hb zd_L_law_509 rfl (lv_at hl 0 rfl) ?_
      refine lv_iload_n hx hb zd_L_law_510 rfl (lv_at hl 3 rfl) ?_
      refine lv_iconst (v := 2) hx hb zd_L_law_511 (by decide) ?_
      refine lv_iadd hx hb zd_L_law_512 ?_
      refine va_sld (A := (fun q => s.heap.size ≤ q)) hx hb hX hbl hbA hS (lw_in (t := 2) hj4 (by decide) hLL) zd_L_law_513 ?_
      have hP : va_P D fb_cl ((fb_wl (fb_cC cA) aC sC LC) ++ (fb_wl (fb_cM cA) aM sM fb_LM)) H := fb_Psw hP
      have hD : va_D (fun q => s.heap.size ≤ q) ((fb_wl (fb_cC cA) aC sC LC) ++ (fb_wl (fb_cM cA) aM sM fb_LM)) := fb_Dsw hD
      refine pw_ViX (A := (fun q => s.heap.size ≤ q)) (wr := (fb_wl (fb_cC cA) aC sC LC)) (bytes := zb_M_paused) (maxL := 3) (ret := (some .boolean)) (As := [.int (xs (nI (4 + 4 * j) + 1).toNatClampNeg), .int (xs (nI (4 + 4 * j) + 2).toNatClampNeg)]) (rest := [.int (cf_qP sC 16 (xs (nI (4 + 4 * j) + 1).toNatClampNeg) (xs (nI (4 + 4 * j) + 2).toNatClampNeg))]) ⟨hx, hb, hml, hown, hT⟩ (c_M_paused l D cA aM fl fr T sM hflr okM (xs (nI (4 + 4 * j) + 1).toNatClampNeg) (xs (nI (4 + 4 * j) + 2).toNatClampNeg)) (cwV 2 hT (fb_gV zi_649 zi_650 zi_651 zi_5 zc_M_paused) rfl rfl rfl (by decide +kernel) ⟨Nat.le_of_ble_eq_true rfl, Nat.le_of_ble_eq_true rfl⟩) hK hP hD hS (fb_AA (fb_Dr (a := (fb_wl (fb_cC cA) aC sC LC)) hD) (fun q h => Nat.le_trans hS.1 h)) (fb_recv hK (fb_Pr (a := (fb_wl (fb_cC cA) aC sC LC)) hP) (fb_memM (k := 0) rfl) rfl rfl) rfl hl.1 rfl (lv_room (Nat.le_of_ble_eq_true rfl)) zd_L_law_514 ⟨show 250 + 2 * j ≤ 600000 by omega, show 4363 + 16 * j ≤ 7302250 by omega⟩ (fun rM sM1 H locs hp hP hD hS _ => ?_)
      obtain ⟨hrM, hsM, okM1⟩ := hp
      rw [hrM]
      rw [hsM] at hP hD
      have hP := fb_Psw hP
      have hD := fb_Dsw hD
      refine lv_icmp_eq (tgt := 637) hx hb zd_L_law_517 (by decide) (fun _ => ?_) (fun h9 => absurd (co_paused hCO (xs (nI (4 + 4 * j) + 1).toNatClampNeg) (xs (nI (4 + 4 * j) + 2).toNatClampNeg)) h9)
      refine lv_iinc (k := 3) (v := nI (4 + 4 * (j + 1))) (lv' := [(3, .int (nI (4 + 4 * (j + 1)))), (0, .ref b), (1, .ref (aC 0 0)), (2, .ref (aM 0 0))]) hx hb zd_L_law_637 hl rfl (lw_inc j) (by decide) rfl (fun ls hl => ?_)
      refine lv_goto (tgt := 58) hx hb zd_L_law_640 (by decide) ?_
      refine W.widen (k := 250 + 2 * (j + 1)) (n := 4363 + 16 * (j + 1)) (by omega) (by omega) ?_
      exact ihj _ _ _ ⟨fl, fr, T, sC, sM, aC, aM, LC, hCO, by omega, hLv, lv_sub hl [1, 2, 3, 0] rfl, hP, hD, hS⟩
    · skip
      refine lv_tableIn (x := nI 12) (off := 450) (tgt := 522) hx hb zd_L_law_72 (by decide) (by decide) (by decide) (by decide) ?_
      refine lv_aload_n hx hb zd_L_law_522 rfl (lv_at hl 1 rfl) ?_
      refine lv_aload_n hx hb zd_L_law_523 rfl (lv_at hl 0 rfl) ?_
      refine lv_iload_n hx hb zd_L_law_524 rfl (lv_at hl 3 rfl) ?_
      refine lv_iconst (v := 1) hx hb zd_L_law_525 (by decide) ?_
      refine lv_iadd hx hb zd_L_law_526 ?_
      refine va_sld (A := (fun q => s.heap.size ≤ q)) hx hb hX hbl hbA hS (lw_in (t := 1) hj4 (by decide) hLL) zd_L_law_527 ?_
      have hAA : ∀ q, fb_A aC LC H.size q → s.heap.size ≤ q := fb_AA (fb_Dr (a := (fb_wl (fb_cM cA) aM sM fb_LM)) hD) (fun q h => Nat.le_trans hS.1 h)
      refine pw_ViX (A := (fun q => s.heap.size ≤ q)) (wr := (fb_wl (fb_cM cA) aM sM fb_LM)) (bytes := zb_X_rate) (maxL := 3) (ret := (some .int)) (As := [.int (xs (nI (4 + 4 * j) + 1).toNatClampNeg)]) (rest := []) ⟨hx, hb, hml, hown, hT⟩ (c_X_rate l D cA aC LC fl fr sC hLv okC (xs (nI (4 + 4 * j) + 1).toNatClampNeg)) (cwV 1 hT (fb_gV zi_404 zi_405 zi_406 zi_1 zc_X_rate) rfl rfl rfl (by decide +kernel) ⟨Nat.le_of_ble_eq_true rfl, Nat.le_of_ble_eq_true rfl⟩) hK hP hD hS hAA (fb_recv hK (fb_Pr (a := (fb_wl (fb_cM cA) aM sM fb_LM)) hP) (hLv.2.1 0 (by decide)) rfl rfl) rfl hl.1 rfl (lv_room (Nat.le_of_ble_eq_true rfl)) zd_L_law_528 ⟨show 250 + 2 * j ≤ 600000 by omega, show 4363 + 16 * j ≤ 7302250 by omega⟩ (fun rC sC1 H locs hp hP hD hS _ => ?_)
      obtain ⟨hrC, hsC, okC1⟩ := hp
      rw [hrC]
      rw [hsC] at hP hD
      refine lv_aload_n hx hb zd_L_law_531 rfl (lv_at hl 2 rfl) ?_
      refine lv_aload_n hx hb zd_L_law_532 rfl (lv_at hl 0 rfl) ?_
      refine lv_iload_n hx hb zd_L_law_533 rfl (lv_at hl 3 rfl) ?_
      refine lv_iconst (v := 1) hx hb zd_L_law_534 (by decide) ?_
      refine lv_iadd hx hb zd_L_law_535 ?_
      refine va_sld (A := (fun q => s.heap.size ≤ q)) hx hb hX hbl hbA hS (lw_in (t := 1) hj4 (by decide) hLL) zd_L_law_536 ?_
      have hP : va_P D fb_cl ((fb_wl (fb_cC cA) aC sC LC) ++ (fb_wl (fb_cM cA) aM sM fb_LM)) H := fb_Psw hP
      have hD : va_D (fun q => s.heap.size ≤ q) ((fb_wl (fb_cC cA) aC sC LC) ++ (fb_wl (fb_cM cA) aM sM fb_LM)) := fb_Dsw hD
      refine pw_ViX (A := (fun q => s.heap.size ≤ q)) (wr := (fb_wl (fb_cC cA) aC sC LC)) (bytes := zb_M_rate) (maxL := 2) (ret := (some .int)) (As := [.int (xs (nI (4 + 4 * j) + 1).toNatClampNeg)]) (rest := [.int (cf_qF sC 23 (xs (nI (4 + 4 * j) + 1).toNatClampNeg) 0)]) ⟨hx, hb, hml, hown, hT⟩ (c_M_rate l D cA aM fl fr T sM hflr okM (xs (nI (4 + 4 * j) + 1).toNatClampNeg)) (cwV 1 hT (fb_gV zi_653 zi_654 zi_655 zi_5 zc_M_rate) rfl rfl rfl (by decide +kernel) ⟨Nat.le_of_ble_eq_true rfl, Nat.le_of_ble_eq_true rfl⟩) hK hP hD hS (fb_AA (fb_Dr (a := (fb_wl (fb_cC cA) aC sC LC)) hD) (fun q h => Nat.le_trans hS.1 h)) (fb_recv hK (fb_Pr (a := (fb_wl (fb_cC cA) aC sC LC)) hP) (fb_memM (k := 0) rfl) rfl rfl) rfl hl.1 rfl (lv_room (Nat.le_of_ble_eq_true rfl)) zd_L_law_537 ⟨show 250 + 2 * j ≤ 600000 by omega, show 4363 + 16 * j ≤ 7302250 by omega⟩ (fun rM sM1 H locs hp hP hD hS _ => ?_)
      obtain ⟨hrM, hsM, okM1⟩ := hp
      rw [hrM]
      rw [hsM] at hP hD
      have hP := fb_Psw hP
      have hD := fb_Dsw hD
      refine lv_icmp_eq (tgt := 637) hx hb zd_L_law_540 (by decide) (fun _ => ?_) (fun h9 => absurd (co_rate hCO (xs (nI (4 + 4 * j) + 1).toNatClampNeg)) h9)
      refine lv_iinc (k := 3) (v := nI (4 + 4 * (j + 1))) (lv' := [(3, .int (nI (4 + 4 * (j + 1)))), (0, .ref b), (1, .ref (aC 0 0)), (2, .ref (aM 0 0))]) hx hb zd_L_law_637 hl rfl (lw_inc j) (by decide) rfl (fun ls hl => ?_)
      refine lv_goto (tgt := 58) hx hb zd_L_law_640 (by decide) ?_
      refine W.widen (k := 250 + 2 * (j + 1)) (n := 4363 + 16 * (j + 1)) (by omega) (by omega) ?_
      exact ihj _ _ _ ⟨fl, fr, T, sC, sM, aC, aM, LC, hCO, by omega, hLv, lv_sub hl [1, 2, 3, 0] rfl, hP, hD, hS⟩
    · skip
      refine lv_tableIn (x := nI 13) (off := 473) (tgt := 545) hx hb zd_L_law_72 (by decide) (by decide) (by decide) (by decide) ?_
      refine lv_aload_n hx hb zd_L_law_545 rfl (lv_at hl 1 rfl) ?_
      refine lv_aload_n hx hb zd_L_law_546 rfl (lv_at hl 0 rfl) ?_
      refine lv_iload_n hx hb zd_L_law_547 rfl (lv_at hl 3 rfl) ?_
      refine lv_iconst (v := 1) hx hb zd_L_law_548 (by decide) ?_
      refine lv_iadd hx hb zd_L_law_549 ?_
      refine va_sld (A := (fun q => s.heap.size ≤ q)) hx hb hX hbl hbA hS (lw_in (t := 1) hj4 (by decide) hLL) zd_L_law_550 ?_
      have hAA : ∀ q, fb_A aC LC H.size q → s.heap.size ≤ q := fb_AA (fb_Dr (a := (fb_wl (fb_cM cA) aM sM fb_LM)) hD) (fun q h => Nat.le_trans hS.1 h)
      refine pw_ViX (A := (fun q => s.heap.size ≤ q)) (wr := (fb_wl (fb_cM cA) aM sM fb_LM)) (bytes := zb_X_alpha) (maxL := 3) (ret := (some .int)) (As := [.int (xs (nI (4 + 4 * j) + 1).toNatClampNeg)]) (rest := []) ⟨hx, hb, hml, hown, hT⟩ (c_X_alpha l D cA aC LC fl fr sC hLv okC (xs (nI (4 + 4 * j) + 1).toNatClampNeg)) (cwV 1 hT (fb_gV zi_408 zi_409 zi_410 zi_1 zc_X_alpha) rfl rfl rfl (by decide +kernel) ⟨Nat.le_of_ble_eq_true rfl, Nat.le_of_ble_eq_true rfl⟩) hK hP hD hS hAA (fb_recv hK (fb_Pr (a := (fb_wl (fb_cM cA) aM sM fb_LM)) hP) (hLv.2.1 0 (by decide)) rfl rfl) rfl hl.1 rfl (lv_room (Nat.le_of_ble_eq_true rfl)) zd_L_law_551 ⟨show 250 + 2 * j ≤ 600000 by omega, show 4363 + 16 * j ≤ 7302250 by omega⟩ (fun rC sC1 H locs hp hP hD hS _ => ?_)
      obtain ⟨hrC, hsC, okC1⟩ := hp
      rw [hrC]
      rw [hsC] at hP hD
      refine lv_aload_n hx hb zd_L_law_554 rfl (lv_at hl 2 rfl) ?_
      refine lv_aload_n hx hb zd_L_law_555 rfl (lv_at hl 0 rfl) ?_
      refine lv_iload_n hx hb zd_L_law_556 rfl (lv_at hl 3 rfl) ?_
      refine lv_iconst (v := 1) hx hb zd_L_law_557 (by decide) ?_
      refine lv_iadd hx hb zd_L_law_558 ?_
      refine va_sld (A := (fun q => s.heap.size ≤ q)) hx hb hX hbl hbA hS (lw_in (t := 1) hj4 (by decide) hLL) zd_L_law_559 ?_
      have hP : va_P D fb_cl ((fb_wl (fb_cC cA) aC sC LC) ++ (fb_wl (fb_cM cA) aM sM fb_LM)) H := fb_Psw hP
      have hD : va_D (fun q => s.heap.size ≤ q) ((fb_wl (fb_cC cA) aC sC LC) ++ (fb_wl (fb_cM cA) aM sM fb_LM)) := fb_Dsw hD
      refine pw_ViX (A := (fun q => s.heap.size ≤ q)) (wr := (fb_wl (fb_cC cA) aC sC LC)) (bytes := zb_M_alpha) (maxL := 2) (ret := (some .int)) (As := [.int (xs (nI (4 + 4 * j) + 1).toNatClampNeg)]) (rest := [.int (cf_qF sC 25 (xs (nI (4 + 4 * j) + 1).toNatClampNeg) 0)]) ⟨hx, hb, hml, hown, hT⟩ (c_M_alpha l D cA aM fl fr T sM hflr okM (xs (nI (4 + 4 * j) + 1).toNatClampNeg)) (cwV 1 hT (fb_gV zi_657 zi_658 zi_659 zi_5 zc_M_alpha) rfl rfl rfl (by decide +kernel) ⟨Nat.le_of_ble_eq_true rfl, Nat.le_of_ble_eq_true rfl⟩) hK hP hD hS (fb_AA (fb_Dr (a := (fb_wl (fb_cC cA) aC sC LC)) hD) (fun q h => Nat.le_trans hS.1 h)) (fb_recv hK (fb_Pr (a := (fb_wl (fb_cC cA) aC sC LC)) hP) (fb_memM (k := 0) rfl) rfl rfl) rfl hl.1 rfl (lv_room (Nat.le_of_ble_eq_true rfl)) zd_L_law_560 ⟨show 250 + 2 * j ≤ 600000 by omega, show 4363 + 16 * j ≤ 7302250 by omega⟩ (fun rM sM1 H locs hp hP hD hS _ => ?_)
      obtain ⟨hrM, hsM, okM1⟩ := hp
      rw [hrM]
      rw [hsM] at hP hD
      have hP := fb_Psw hP
      have hD := fb_Dsw hD
      refine lv_icmp_eq (tgt := 637) hx hb zd_L_law_563 (by decide) (fun _ => ?_) (fun h9 => absurd (co_alpha hCO (xs (nI (4 + 4 * j) + 1).toNatClampNeg)) h9)
      refine lv_iinc (k := 3) (v := nI (4 + 4 * (j + 1))) (lv' := [(3, .int (nI (4 + 4 * (j + 1)))), (0, .ref b), (1, .ref (aC 0 0)), (2, .ref (aM 0 0))]) hx hb zd_L_law_637 hl rfl (lw_inc j) (by decide) rfl (fun ls hl => ?_)
      refine lv_goto (tgt := 58) hx hb zd_L_law_640 (by decide) ?_
      refine W.widen (k := 250 + 2 * (j + 1)) (n := 4363 + 16 * (j + 1)) (by omega) (by omega) ?_
      exact ihj _ _ _ ⟨fl, fr, T, sC, sM, aC, aM, LC, hCO, by omega, hLv, lv_sub hl [1, 2, 3, 0] rfl, hP, hD, hS⟩
    · skip
      refine lv_tableIn (x := nI 14) (off := 496) (tgt := 568) hx hb zd_L_law_72 (by decide) (by decide) (by decide) (by decide) ?_
      refine lv_aload_n hx hb zd_L_law_568 rfl (lv_at hl 1 rfl) ?_
      refine lv_aload_n hx hb zd_L_law_569 rfl (lv_at hl 0 rfl) ?_
      refine lv_iload_n hx hb zd_L_law_570 rfl (lv_at hl 3 rfl) ?_
      refine lv_iconst (v := 1) hx hb zd_L_law_571 (by decide) ?_
      refine lv_iadd hx hb zd_L_law_572 ?_
      refine va_sld (A := (fun q => s.heap.size ≤ q)) hx hb hX hbl hbA hS (lw_in (t := 1) hj4 (by decide) hLL) zd_L_law_573 ?_
      have hAA : ∀ q, fb_A aC LC H.size q → s.heap.size ≤ q := fb_AA (fb_Dr (a := (fb_wl (fb_cM cA) aM sM fb_LM)) hD) (fun q h => Nat.le_trans hS.1 h)
      refine pw_ViX (A := (fun q => s.heap.size ≤ q)) (wr := (fb_wl (fb_cM cA) aM sM fb_LM)) (bytes := zb_X_received) (maxL := 3) (ret := (some .int)) (As := [.int (xs (nI (4 + 4 * j) + 1).toNatClampNeg)]) (rest := []) ⟨hx, hb, hml, hown, hT⟩ (c_X_received l D cA aC LC fl fr sC hLv okC (xs (nI (4 + 4 * j) + 1).toNatClampNeg)) (cwV 1 hT (fb_gV zi_412 zi_413 zi_414 zi_1 zc_X_received) rfl rfl rfl (by decide +kernel) ⟨Nat.le_of_ble_eq_true rfl, Nat.le_of_ble_eq_true rfl⟩) hK hP hD hS hAA (fb_recv hK (fb_Pr (a := (fb_wl (fb_cM cA) aM sM fb_LM)) hP) (hLv.2.1 0 (by decide)) rfl rfl) rfl hl.1 rfl (lv_room (Nat.le_of_ble_eq_true rfl)) zd_L_law_574 ⟨show 250 + 2 * j ≤ 600000 by omega, show 4363 + 16 * j ≤ 7302250 by omega⟩ (fun rC sC1 H locs hp hP hD hS _ => ?_)
      obtain ⟨hrC, hsC, okC1⟩ := hp
      rw [hrC]
      rw [hsC] at hP hD
      refine lv_aload_n hx hb zd_L_law_577 rfl (lv_at hl 2 rfl) ?_
      refine lv_aload_n hx hb zd_L_law_578 rfl (lv_at hl 0 rfl) ?_
      refine lv_iload_n hx hb zd_L_law_579 rfl (lv_at hl 3 rfl) ?_
      refine lv_iconst (v := 1) hx hb zd_L_law_580 (by decide) ?_
      refine lv_iadd hx hb zd_L_law_581 ?_
      refine va_sld (A := (fun q => s.heap.size ≤ q)) hx hb hX hbl hbA hS (lw_in (t := 1) hj4 (by decide) hLL) zd_L_law_582 ?_
      have hP : va_P D fb_cl ((fb_wl (fb_cC cA) aC sC LC) ++ (fb_wl (fb_cM cA) aM sM fb_LM)) H := fb_Psw hP
      have hD : va_D (fun q => s.heap.size ≤ q) ((fb_wl (fb_cC cA) aC sC LC) ++ (fb_wl (fb_cM cA) aM sM fb_LM)) := fb_Dsw hD
      refine pw_ViX (A := (fun q => s.heap.size ≤ q)) (wr := (fb_wl (fb_cC cA) aC sC LC)) (bytes := zb_M_received) (maxL := 2) (ret := (some .int)) (As := [.int (xs (nI (4 + 4 * j) + 1).toNatClampNeg)]) (rest := [.int (cf_qF sC 30 (xs (nI (4 + 4 * j) + 1).toNatClampNeg) 0)]) ⟨hx, hb, hml, hown, hT⟩ (c_M_received l D cA aM fl fr T sM hflr okM (xs (nI (4 + 4 * j) + 1).toNatClampNeg)) (cwV 1 hT (fb_gV zi_661 zi_662 zi_663 zi_5 zc_M_received) rfl rfl rfl (by decide +kernel) ⟨Nat.le_of_ble_eq_true rfl, Nat.le_of_ble_eq_true rfl⟩) hK hP hD hS (fb_AA (fb_Dr (a := (fb_wl (fb_cC cA) aC sC LC)) hD) (fun q h => Nat.le_trans hS.1 h)) (fb_recv hK (fb_Pr (a := (fb_wl (fb_cC cA) aC sC LC)) hP) (fb_memM (k := 0) rfl) rfl rfl) rfl hl.1 rfl (lv_room (Nat.le_of_ble_eq_true rfl)) zd_L_law_583 ⟨show 250 + 2 * j ≤ 600000 by omega, show 4363 + 16 * j ≤ 7302250 by omega⟩ (fun rM sM1 H locs hp hP hD hS _ => ?_)
      obtain ⟨hrM, hsM, okM1⟩ := hp
      rw [hrM]
      rw [hsM] at hP hD
      have hP := fb_Psw hP
      have hD := fb_Dsw hD
      refine lv_icmp_eq (tgt := 637) hx hb zd_L_law_586 (by decide) (fun _ => ?_) (fun h9 => absurd (co_received hCO (xs (nI (4 + 4 * j) + 1).toNatClampNeg)) h9)
      refine lv_iinc (k := 3) (v := nI (4 + 4 * (j + 1))) (lv' := [(3, .int (nI (4 + 4 * (j + 1)))), (0, .ref b), (1, .ref (aC 0 0)), (2, .ref (aM 0 0))]) hx hb zd_L_law_637 hl rfl (lw_inc j) (by decide) rfl (fun ls hl => ?_)
      refine lv_goto (tgt := 58) hx hb zd_L_law_640 (by decide) ?_
      refine W.widen (k := 250 + 2 * (j + 1)) (n := 4363 + 16 * (j + 1)) (by omega) (by omega) ?_
      exact ihj _ _ _ ⟨fl, fr, T, sC, sM, aC, aM, LC, hCO, by omega, hLv, lv_sub hl [1, 2, 3, 0] rfl, hP, hD, hS⟩
    · skip
      refine lv_tableIn (x := nI 15) (off := 519) (tgt := 591) hx hb zd_L_law_72 (by decide) (by decide) (by decide) (by decide) ?_
      refine lv_aload_n hx hb zd_L_law_591 rfl (lv_at hl 1 rfl) ?_
      refine lv_aload_n hx hb zd_L_law_592 rfl (lv_at hl 0 rfl) ?_
      refine lv_iload_n hx hb zd_L_law_593 rfl (lv_at hl 3 rfl) ?_
      refine lv_iconst (v := 1) hx hb zd_L_law_594 (by decide) ?_
      refine lv_iadd hx hb zd_L_law_595 ?_
      refine va_sld (A := (fun q => s.heap.size ≤ q)) hx hb hX hbl hbA hS (lw_in (t := 1) hj4 (by decide) hLL) zd_L_law_596 ?_
      have hAA : ∀ q, fb_A aC LC H.size q → s.heap.size ≤ q := fb_AA (fb_Dr (a := (fb_wl (fb_cM cA) aM sM fb_LM)) hD) (fun q h => Nat.le_trans hS.1 h)
      refine pw_ViX (A := (fun q => s.heap.size ≤ q)) (wr := (fb_wl (fb_cM cA) aM sM fb_LM)) (bytes := zb_X_dropped) (maxL := 3) (ret := (some .int)) (As := [.int (xs (nI (4 + 4 * j) + 1).toNatClampNeg)]) (rest := []) ⟨hx, hb, hml, hown, hT⟩ (c_X_dropped l D cA aC LC fl fr sC hLv okC (xs (nI (4 + 4 * j) + 1).toNatClampNeg)) (cwV 1 hT (fb_gV zi_416 zi_417 zi_418 zi_1 zc_X_dropped) rfl rfl rfl (by decide +kernel) ⟨Nat.le_of_ble_eq_true rfl, Nat.le_of_ble_eq_true rfl⟩) hK hP hD hS hAA (fb_recv hK (fb_Pr (a := (fb_wl (fb_cM cA) aM sM fb_LM)) hP) (hLv.2.1 0 (by decide)) rfl rfl) rfl hl.1 rfl (lv_room (Nat.le_of_ble_eq_true rfl)) zd_L_law_597 ⟨show 250 + 2 * j ≤ 600000 by omega, show 4363 + 16 * j ≤ 7302250 by omega⟩ (fun rC sC1 H locs hp hP hD hS _ => ?_)
      obtain ⟨hrC, hsC, okC1⟩ := hp
      rw [hrC]
      rw [hsC] at hP hD
      refine lv_aload_n hx hb zd_L_law_600 rfl (lv_at hl 2 rfl) ?_
      refine lv_aload_n hx hb zd_L_law_601 rfl (lv_at hl 0 rfl) ?_
      refine lv_iload_n hx hb zd_L_law_602 rfl (lv_at hl 3 rfl) ?_
      refine lv_iconst (v := 1) hx hb zd_L_law_603 (by decide) ?_
      refine lv_iadd hx hb zd_L_law_604 ?_
      refine va_sld (A := (fun q => s.heap.size ≤ q)) hx hb hX hbl hbA hS (lw_in (t := 1) hj4 (by decide) hLL) zd_L_law_605 ?_
      have hP : va_P D fb_cl ((fb_wl (fb_cC cA) aC sC LC) ++ (fb_wl (fb_cM cA) aM sM fb_LM)) H := fb_Psw hP
      have hD : va_D (fun q => s.heap.size ≤ q) ((fb_wl (fb_cC cA) aC sC LC) ++ (fb_wl (fb_cM cA) aM sM fb_LM)) := fb_Dsw hD
      refine pw_ViX (A := (fun q => s.heap.size ≤ q)) (wr := (fb_wl (fb_cC cA) aC sC LC)) (bytes := zb_M_dropped) (maxL := 2) (ret := (some .int)) (As := [.int (xs (nI (4 + 4 * j) + 1).toNatClampNeg)]) (rest := [.int (cf_qF sC 31 (xs (nI (4 + 4 * j) + 1).toNatClampNeg) 0)]) ⟨hx, hb, hml, hown, hT⟩ (c_M_dropped l D cA aM fl fr T sM hflr okM (xs (nI (4 + 4 * j) + 1).toNatClampNeg)) (cwV 1 hT (fb_gV zi_669 zi_670 zi_671 zi_5 zc_M_dropped) rfl rfl rfl (by decide +kernel) ⟨Nat.le_of_ble_eq_true rfl, Nat.le_of_ble_eq_true rfl⟩) hK hP hD hS (fb_AA (fb_Dr (a := (fb_wl (fb_cC cA) aC sC LC)) hD) (fun q h => Nat.le_trans hS.1 h)) (fb_recv hK (fb_Pr (a := (fb_wl (fb_cC cA) aC sC LC)) hP) (fb_memM (k := 0) rfl) rfl rfl) rfl hl.1 rfl (lv_room (Nat.le_of_ble_eq_true rfl)) zd_L_law_606 ⟨show 250 + 2 * j ≤ 600000 by omega, show 4363 + 16 * j ≤ 7302250 by omega⟩ (fun rM sM1 H locs hp hP hD hS _ => ?_)
      obtain ⟨hrM, hsM, okM1⟩ := hp
      rw [hrM]
      rw [hsM] at hP hD
      have hP := fb_Psw hP
      have hD := fb_Dsw hD
      refine lv_icmp_eq (tgt := 637) hx hb zd_L_law_609 (by decide) (fun _ => ?_) (fun h9 => absurd (co_dropped hCO (xs (nI (4 + 4 * j) + 1).toNatClampNeg)) h9)
      refine lv_iinc (k := 3) (v := nI (4 + 4 * (j + 1))) (lv' := [(3, .int (nI (4 + 4 * (j + 1)))), (0, .ref b), (1, .ref (aC 0 0)), (2, .ref (aM 0 0))]) hx hb zd_L_law_637 hl rfl (lw_inc j) (by decide) rfl (fun ls hl => ?_)
      refine lv_goto (tgt := 58) hx hb zd_L_law_640 (by decide) ?_
      refine W.widen (k := 250 + 2 * (j + 1)) (n := 4363 + 16 * (j + 1)) (by omega) (by omega) ?_
      exact ihj _ _ _ ⟨fl, fr, T, sC, sM, aC, aM, LC, hCO, by omega, hLv, lv_sub hl [1, 2, 3, 0] rfl, hP, hD, hS⟩
    · skip
      refine lv_tableIn (x := nI 16) (off := 542) (tgt := 614) hx hb zd_L_law_72 (by decide) (by decide) (by decide) (by decide) ?_
      refine lv_aload_n hx hb zd_L_law_614 rfl (lv_at hl 1 rfl) ?_
      refine lv_aload_n hx hb zd_L_law_615 rfl (lv_at hl 0 rfl) ?_
      refine lv_iload_n hx hb zd_L_law_616 rfl (lv_at hl 3 rfl) ?_
      refine lv_iconst (v := 1) hx hb zd_L_law_617 (by decide) ?_
      refine lv_iadd hx hb zd_L_law_618 ?_
      refine va_sld (A := (fun q => s.heap.size ≤ q)) hx hb hX hbl hbA hS (lw_in (t := 1) hj4 (by decide) hLL) zd_L_law_619 ?_
      have hAA : ∀ q, fb_A aC LC H.size q → s.heap.size ≤ q := fb_AA (fb_Dr (a := (fb_wl (fb_cM cA) aM sM fb_LM)) hD) (fun q h => Nat.le_trans hS.1 h)
      refine pw_ViX (A := (fun q => s.heap.size ≤ q)) (wr := (fb_wl (fb_cM cA) aM sM fb_LM)) (bytes := zb_X_last) (maxL := 3) (ret := (some .int)) (As := [.int (xs (nI (4 + 4 * j) + 1).toNatClampNeg)]) (rest := []) ⟨hx, hb, hml, hown, hT⟩ (c_X_last l D cA aC LC fl fr sC hLv okC (xs (nI (4 + 4 * j) + 1).toNatClampNeg)) (cwV 1 hT (fb_gV zi_420 zi_421 zi_422 zi_1 zc_X_last) rfl rfl rfl (by decide +kernel) ⟨Nat.le_of_ble_eq_true rfl, Nat.le_of_ble_eq_true rfl⟩) hK hP hD hS hAA (fb_recv hK (fb_Pr (a := (fb_wl (fb_cM cA) aM sM fb_LM)) hP) (hLv.2.1 0 (by decide)) rfl rfl) rfl hl.1 rfl (lv_room (Nat.le_of_ble_eq_true rfl)) zd_L_law_620 ⟨show 250 + 2 * j ≤ 600000 by omega, show 4363 + 16 * j ≤ 7302250 by omega⟩ (fun rC sC1 H locs hp hP hD hS _ => ?_)
      obtain ⟨hrC, hsC, okC1⟩ := hp
      rw [hrC]
      rw [hsC] at hP hD
      refine lv_aload_n hx hb zd_L_law_623 rfl (lv_at hl 2 rfl) ?_
      refine lv_aload_n hx hb zd_L_law_624 rfl (lv_at hl 0 rfl) ?_
      refine lv_iload_n hx hb zd_L_law_625 rfl (lv_at hl 3 rfl) ?_
      refine lv_iconst (v := 1) hx hb zd_L_law_626 (by decide) ?_
      refine lv_iadd hx hb zd_L_law_627 ?_
      refine va_sld (A := (fun q => s.heap.size ≤ q)) hx hb hX hbl hbA hS (lw_in (t := 1) hj4 (by decide) hLL) zd_L_law_628 ?_
      have hP : va_P D fb_cl ((fb_wl (fb_cC cA) aC sC LC) ++ (fb_wl (fb_cM cA) aM sM fb_LM)) H := fb_Psw hP
      have hD : va_D (fun q => s.heap.size ≤ q) ((fb_wl (fb_cC cA) aC sC LC) ++ (fb_wl (fb_cM cA) aM sM fb_LM)) := fb_Dsw hD
      refine pw_ViX (A := (fun q => s.heap.size ≤ q)) (wr := (fb_wl (fb_cC cA) aC sC LC)) (bytes := zb_M_last) (maxL := 5) (ret := (some .int)) (As := [.int (xs (nI (4 + 4 * j) + 1).toNatClampNeg)]) (rest := [.int (cf_qF sC 32 (xs (nI (4 + 4 * j) + 1).toNatClampNeg) (-1))]) ⟨hx, hb, hml, hown, hT⟩ (c_M_last l D cA aM fl fr T sM hflr okM (xs (nI (4 + 4 * j) + 1).toNatClampNeg)) (cwV 1 hT (fb_gV zi_673 zi_674 zi_675 zi_5 zc_M_last) rfl rfl rfl (by decide +kernel) ⟨Nat.le_of_ble_eq_true rfl, Nat.le_of_ble_eq_true rfl⟩) hK hP hD hS (fb_AA (fb_Dr (a := (fb_wl (fb_cC cA) aC sC LC)) hD) (fun q h => Nat.le_trans hS.1 h)) (fb_recv hK (fb_Pr (a := (fb_wl (fb_cC cA) aC sC LC)) hP) (fb_memM (k := 0) rfl) rfl rfl) rfl hl.1 rfl (lv_room (Nat.le_of_ble_eq_true rfl)) zd_L_law_629 ⟨show 250 + 2 * j ≤ 600000 by omega, show 4363 + 16 * j ≤ 7302250 by omega⟩ (fun rM sM1 H locs hp hP hD hS _ => ?_)
      obtain ⟨hrM, hsM, okM1⟩ := hp
      rw [hrM]
      rw [hsM] at hP hD
      have hP := fb_Psw hP
      have hD := fb_Dsw hD
      refine lv_icmp_eq (tgt := 637) hx hb zd_L_law_632 (by decide) (fun _ => ?_) (fun h9 => absurd (co_last hCO (xs (nI (4 + 4 * j) + 1).toNatClampNeg)) h9)
      refine lv_iinc (k := 3) (v := nI (4 + 4 * (j + 1))) (lv' := [(3, .int (nI (4 + 4 * (j + 1)))), (0, .ref b), (1, .ref (aC 0 0)), (2, .ref (aM 0 0))]) hx hb zd_L_law_637 hl rfl (lw_inc j) (by decide) rfl (fun ls hl => ?_)
      refine lv_goto (tgt := 58) hx hb zd_L_law_640 (by decide) ?_
      refine W.widen (k := 250 + 2 * (j + 1)) (n := 4363 + 16 * (j + 1)) (by omega) (by omega) ?_
      exact ihj _ _ _ ⟨fl, fr, T, sC, sM, aC, aM, LC, hCO, by omega, hLv, lv_sub hl [1, 2, 3, 0] rfl, hP, hD, hS⟩
    · skip
      refine lv_tableOut (tgt := 637) hx hb zd_L_law_72 (Or.inr (by rw [nI_toInt (by omega)]; omega)) (by decide) ?_
      refine lv_iinc (k := 3) (v := nI (4 + 4 * (j + 1))) (lv' := [(3, .int (nI (4 + 4 * (j + 1)))), (0, .ref b), (1, .ref (aC 0 0)), (2, .ref (aM 0 0))]) hx hb zd_L_law_637 hl rfl (lw_inc j) (by decide) rfl (fun ls hl => ?_)
      refine lv_goto (tgt := 58) hx hb zd_L_law_640 (by decide) ?_
      refine W.widen (k := 250 + 2 * (j + 1)) (n := 4363 + 16 * (j + 1)) (by omega) (by omega) ?_
      exact ihj _ _ _ ⟨fl, fr, T, sC, sM, aC, aM, LC, hCO, by omega, hLv, lv_sub hl [1, 2, 3, 0] rfl, hP, hD, hS⟩
  · skip
    intro H locs ls hI
    obtain ⟨fl, fr, T, sC, sM, aC, aM, LC, hCO, hT20, hLv, hl, hP, hD, hS⟩ := hI
    refine lv_iload_n hx hb zd_L_law_58 rfl (lv_at hl 3 rfl) ?_
    refine lv_aload_n hx hb zd_L_law_59 rfl (lv_at hl 0 rfl) ?_
    refine va_slen (A := (fun q => s.heap.size ≤ q)) hx hb hX hbl hbA hS zd_L_law_60 ?_
    refine lv_iconst (v := 4) hx hb zd_L_law_61 (by decide) ?_
    refine lv_isub hx hb zd_L_law_62 ?_
    refine lv_icmp_gt (tgt := 643) hx hb zd_L_law_63 (by decide) (fun _ => ?_) (fun h9 => absurd (lw_stop hL) h9)
    refine lv_iconst (v := 1) hx hb zd_L_law_643 (by decide) ?_
    refine W.widen (k := 600000) (n := 7302250) (by show 250 + 2 * ((L - 4) / 4) ≤ 600000; omega) (by show 4363 + 16 * ((L - 4) / 4) ≤ 7302250; omega) ?_
    refine va_forget hS.2.2 ?_
    exact lw_ret hx hb hr hlocks zd_L_law_644
  · skip
    refine ⟨0, 0, 0, _, _, aC, aM, fb_LC0, hCO, by omega, fb_lvC0, ?_, fb_Psw hP, fb_Dsw hD, hS⟩
    rw [hq0, hM00]
    exact lv_sub hl [3, 2, 1, 0] rfl
