/-! calls from a world that holds more than the callee's side; refs into arrays -/
theorem fb_Psw {D : va_G} {cl : List vw_C} {a b : va_W} {H : Heap} (h : va_P D cl (a ++ b) H) : va_P D cl (b ++ a) H := fb_Papp (fb_Pr h) (fb_Pl h)
theorem fb_Dsw {A : Nat → Prop} {a b : va_W} (h : va_D A (a ++ b)) : va_D A (b ++ a) := fb_Dapp (fb_Dr h) (fb_Dl h) (fun _ _ _ _ hi hj e => fb_Dn h hj hi e.symm)
section FBV
variable {p : Program} {l : Launch} {e : Env} {R : Room} {s : State} {m : MethodId} {args : Array Value} {below : List Frame} {meth : Method} {c : Code} {H : Heap} {locs : List Loc} {cells slots : Nat} {Q : State → Prop}
variable {cc bytes : ByteArray} {pc nL maxL n index b : Nat} {ls : Array Slot} {rest st0 As : List Value} {D : va_G} {cl : List vw_C} {tys : List (ClassId × FieldType)} {H0 : Heap} {cn : fb_C} {ad : Nat → Nat → Nat} {st : fb_S} {LL : fb_L} {A : Nat → Prop} {wr : va_W}
variable {Ts ws : List Cond} {own C : String} {y : MethodName} {rm : Room} {ret : Option FieldType}
theorem pw_ViX {post : Int32 → fb_S → Prop} (S : CallFix p m c cc nL s args Ts own) (hM : fb_Mi l y ws rm cn D cl tys ad LL st (.ref b :: As) post) (cw : CallW R s args own C index y bytes maxL ret ws rm 0 0 n) (hK : va_K D cl tys s) (hP : va_P D cl (wr ++ fb_wl cn ad st LL) H) (hD : va_D A (wr ++ fb_wl cn ad st LL)) (hS : va_S A H0 H locs) (hAA : ∀ q, fb_A ad LL H.size q → A q)
    (hrecv : ∃ cellB : Cell, H[b]? = some cellB ∧ cellB.vm.isStatics = false ∧ s.vm.findClass C = some cellB.cls) (hn : As.length = n) (hsz : ls.size = nL) (hst : st0 = As.reverse ++ .ref b :: rest) (hW : 2 * (F0 m pc ls st0).monitorRoom + (rest.map fun v => v.category).sum ≤ 8) (hdg : decode cc pc = .ok (.invokevirtual index, 3)) (hf : cells ≤ R.cells ∧ slots ≤ R.slots)
    (kk : ∀ (r : Int32) (st1 : fb_S) (H1 : Heap) (locs1 : List Loc), post r st1 → va_P D cl (wr ++ fb_wl cn ad st1 LL) H1 → va_D A (wr ++ fb_wl cn ad st1 LL) → va_S A H0 H1 locs1 → H.size ≤ H1.size → W p l e R s m args below meth c H1 locs1 cells slots Q (F0 m (pc + 3) ls (.int r :: rest))) : W p l e R s m args below meth c H locs cells slots Q (F0 m pc ls st0) := by
  refine va_calli (va_runV S (hM H.size) cw ⟨fb_blind, hrecv, fun U hU hW => ⟨rfl, by rw [hU], by rw [hU]; exact fb_Pr hP, va_K.moved hW.alike hK, (fb_Dr hD).weaken (fun _ _ _ _ => trivial)⟩⟩ rfl hn hsz hst hW hdg hf) hS (fun q _ h => hAA q h) hAA (fun r u t H1 locs1 ht hvm hp hB hz hk hS1 => ?_)
  obtain ⟨hP1, -, hD1⟩ := hB
  rw [ht] at hP1
  obtain ⟨h1, h2⟩ := fb_join hP hD hAA fb_Bof hk hP1 hD1
  exact kk r u H1 locs1 hp h1 h2 hS1 hz
theorem pw_VqX {post : Option Nat → fb_S → Prop} (S : CallFix p m c cc nL s args Ts own) (hM : fb_Mq l y ws rm cn D cl tys ad LL st (.ref b :: As) post) (cw : CallW R s args own C index y bytes maxL ret ws rm 0 0 n) (hK : va_K D cl tys s) (hP : va_P D cl (wr ++ fb_wl cn ad st LL) H) (hD : va_D A (wr ++ fb_wl cn ad st LL)) (hS : va_S A H0 H locs) (hAA : ∀ q, fb_A ad LL H.size q → A q)
    (hrecv : ∃ cellB : Cell, H[b]? = some cellB ∧ cellB.vm.isStatics = false ∧ s.vm.findClass C = some cellB.cls) (hn : As.length = n) (hsz : ls.size = nL) (hst : st0 = As.reverse ++ .ref b :: rest) (hW : 2 * (F0 m pc ls st0).monitorRoom + (rest.map fun v => v.category).sum ≤ 8) (hdg : decode cc pc = .ok (.invokevirtual index, 3)) (hf : cells ≤ R.cells ∧ slots ≤ R.slots)
    (kk : ∀ (r : Option Nat) (st1 : fb_S) (H1 : Heap) (locs1 : List Loc), post r st1 → va_P D cl (wr ++ fb_wl cn ad st1 LL) H1 → va_D A (wr ++ fb_wl cn ad st1 LL) → va_S A H0 H1 locs1 → H.size ≤ H1.size → W p l e R s m args below meth c H1 locs1 cells slots Q (F0 m (pc + 3) ls (va_rf r :: rest))) : W p l e R s m args below meth c H locs cells slots Q (F0 m pc ls st0) := by
  refine va_callq (va_runV S (hM H.size) cw ⟨fb_blind, hrecv, fun U hU hW => ⟨rfl, by rw [hU], by rw [hU]; exact fb_Pr hP, va_K.moved hW.alike hK, (fb_Dr hD).weaken (fun _ _ _ _ => trivial)⟩⟩ rfl hn hsz hst hW hdg hf) hS (fun q _ h => hAA q h) hAA (fun r u t H1 locs1 ht hvm hp hB hz hk hS1 => ?_)
  obtain ⟨hP1, -, hD1⟩ := hB
  rw [ht] at hP1
  obtain ⟨h1, h2⟩ := fb_join hP hD hAA fb_Bof hk hP1 hD1
  exact kk r u H1 locs1 hp h1 h2 hS1 hz
theorem pw_SiX2 {post : Int32 → fb_S → Prop} (S : CallFix p m c cc nL s args Ts own) (hM : fb_Mi l y ws rm cn D cl tys ad LL st As post) (cw : CallB R s args own index y bytes maxL ret ws rm 0 0 n ∧ (Cond.static y).before args s = true) (hK : va_K D cl tys s) (hP : va_P D cl (wr ++ fb_wl cn ad st LL) H) (hD : va_D A (wr ++ fb_wl cn ad st LL)) (hS : va_S A H0 H locs) (hAA : ∀ q, fb_A ad LL H.size q → A q)
    (hn : As.length = n) (hsz : ls.size = nL) (hst : st0 = As.reverse ++ rest) (hW : 2 * (F0 m pc ls st0).monitorRoom + (rest.map fun v => v.category).sum ≤ 8) (hdg : decode cc pc = .ok (.invokestatic index, 3)) (hf : cells ≤ R.cells ∧ slots ≤ R.slots)
    (kk : ∀ (r : Int32) (st1 : fb_S) (H1 : Heap) (locs1 : List Loc), post r st1 → va_P D cl (wr ++ fb_wl cn ad st1 LL) H1 → va_D A (wr ++ fb_wl cn ad st1 LL) → va_S A H0 H1 locs1 → H.size ≤ H1.size → W p l e R s m args below meth c H1 locs1 cells slots Q (F0 m (pc + 3) ls (.int r :: rest))) : W p l e R s m args below meth c H locs cells slots Q (F0 m pc ls st0) := by
  refine va_calli (va_runS S (hM H.size) cw ⟨fb_blind, fun U hU hW => ⟨rfl, by rw [hU], by rw [hU]; exact fb_Pr hP, va_K.moved hW.alike hK, (fb_Dr hD).weaken (fun _ _ _ _ => trivial)⟩⟩ rfl hn hsz hst hW hdg hf) hS (fun q _ h => hAA q h) hAA (fun r u t H1 locs1 ht hvm hp hB hz hk hS1 => ?_)
  obtain ⟨hP1, -, hD1⟩ := hB
  rw [ht] at hP1
  obtain ⟨h1, h2⟩ := fb_join hP hD hAA fb_Bof hk hP1 hD1
  exact kk r u H1 locs1 hp h1 h2 hS1 hz
/-- a port, or null, into an array of ports that stands ahead of the side's world -/
theorem pw_astO {cA : Nat → ClassId} {fl fr a N : Nat} {f : Nat → Option Nat} {z : Int32} (hexec : p.tables.exec = Jvm.exec) (hb : c.code = cc) (hK : va_K D fb_cl (fb_tys cA) s) (hL : fb_lvC LL fl fr) (hP : va_P D fb_cl ((a, .inl (cA 1, N, .inr (.inr (.inr (.inr f))))) :: fb_wl (fb_cC cA) ad st LL) H) (hD : va_D A ((a, .inl (cA 1, N, .inr (.inr (.inr (.inr f))))) :: fb_wl (fb_cC cA) ad st LL)) (hS : va_S A H0 H locs) (hz : fb_rg 32 z) {i : Int32} (hin : vp_in i N) (hdg : decode cc pc = .ok (.aastore, 1))
    (kk : ∀ (H1 : Heap) (locs1 : List Loc), va_P D fb_cl ((a, .inl (cA 1, N, .inr (.inr (.inr (.inr (va_up f i.toNatClampNeg (fb_ro (ad 5) z))))))) :: fb_wl (fb_cC cA) ad st LL) H1 → va_D A ((a, .inl (cA 1, N, .inr (.inr (.inr (.inr (va_up f i.toNatClampNeg (fb_ro (ad 5) z))))))) :: fb_wl (fb_cC cA) ad st LL) → va_S A H0 H1 locs1 → W p l e R s m args below meth c H1 locs1 cells slots Q (F0 m (pc + 1) ls rest)) : W p l e R s m args below meth c H locs cells slots Q (F0 m pc ls (va_rf (fb_ro (ad 5) z) :: .int i :: .ref a :: rest)) := by
  by_cases h : z < 0
  · rw [fb_ro_n h] at kk ⊢
    exact va_astqN hexec hb hK hP hD hS 0 1 rfl rfl hin hdg kk
  · rw [fb_ro_s h] at kk ⊢
    obtain ⟨q0, -, hq⟩ := fb_get (cn := fb_cC cA) (ad := ad) (st := st) ((hL.2.2.1 _ (fb_rl hz h)).1)
    exact va_astq hexec hb hK hP hD hS 0 1 (q0 + 1) 1 rfl rfl (show ((a, _) :: fb_wl (fb_cC cA) ad st LL)[q0 + 1]? = _ from by rw [List.getElem?_cons_succ]; exact hq) rfl hin hdg kk
end FBV
