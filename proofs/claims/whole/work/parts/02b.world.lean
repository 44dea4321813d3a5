/-! a side's world as ONE list made out of a store; rows over the kit's rows. fb_S, fb_up: see 04. -/
abbrev fb_L : Type := List (Nat × Nat)
abbrev fb_C : Type := (Nat → Nat → Nat) → fb_S → Nat → Nat → va_E
def fb_wl (cn : fb_C) (ad : Nat → Nat → Nat) (st : fb_S) (LL : fb_L) : va_W := LL.map (fun q => (ad q.1 q.2, cn ad st q.1 q.2))
def fb_A (ad : Nat → Nat → Nat) (LL : fb_L) (sz : Nat) : Nat → Prop := fun q => (∃ x : Nat × Nat, x ∈ LL ∧ q = ad x.1 x.2) ∨ sz ≤ q
theorem fb_get {cn : fb_C} {ad : Nat → Nat → Nat} {st : fb_S} {LL : fb_L} {k i : Nat} (h : (k, i) ∈ LL) : ∃ q0 : Nat, LL[q0]? = some (k, i) ∧ (fb_wl cn ad st LL)[q0]? = some (ad k i, cn ad st k i) := by
  obtain ⟨q0, hq⟩ := List.getElem?_of_mem h
  exact ⟨q0, hq, by simp [fb_wl, List.getElem?_map, hq]⟩
theorem fb_set {cn : fb_C} {ad : Nat → Nat → Nat} {st st' : fb_S} {LL : fb_L} {A : Nat → Prop} {q0 k i : Nat} {e : va_E} (hD : va_D A (fb_wl cn ad st LL)) (hq : LL[q0]? = some (k, i)) (he : e = cn ad st' k i)
    (ho : ∀ k' i' : Nat, (k', i') ∈ LL → ¬ (k' = k ∧ i' = i) → cn ad st' k' i' = cn ad st k' i') : (fb_wl cn ad st LL).set q0 (ad k i, e) = fb_wl cn ad st' LL := by
  have hlt : q0 < LL.length := (List.getElem?_eq_some_iff.mp hq).1
  apply List.ext_getElem?
  intro j
  by_cases hj : j = q0
  · subst hj
    rw [List.getElem?_set_self (by simpa [fb_wl] using hlt), he]
    simp [fb_wl, List.getElem?_map, hq]
  · rw [List.getElem?_set_ne (Ne.symm hj)]
    simp only [fb_wl, List.getElem?_map]
    cases hx : LL[j]? with
    | none => rfl
    | some x =>
      obtain ⟨k', i'⟩ := x
      simp only [Option.map_some, Option.some.injEq, Prod.mk.injEq, true_and]
      refine (ho k' i' (List.mem_of_getElem? hx) ?_).symm
      rintro ⟨rfl, rfl⟩
      refine hj (hD.1 j q0 (ad k' i', cn ad st k' i') (ad k' i', cn ad st k' i') ?_ ?_ rfl)
      · simp [fb_wl, List.getElem?_map, hx]
      · simp [fb_wl, List.getElem?_map, hq]
theorem fb_A_le {ad : Nat → Nat → Nat} {LL : fb_L} {a b q : Nat} (h : a ≤ b) (hq : fb_A ad LL b q) : fb_A ad LL a q := by
  rcases hq with hq | hq
  · exact Or.inl hq
  · exact Or.inr (Nat.le_trans h hq)
theorem fb_D_self {cn : fb_C} {ad : Nat → Nat → Nat} {st : fb_S} {LL : fb_L} {A : Nat → Prop} {sz : Nat} (h : va_D A (fb_wl cn ad st LL)) : va_D (fb_A ad LL sz) (fb_wl cn ad st LL) := by
  refine ⟨h.1, fun k q hk => ?_⟩
  simp only [fb_wl, List.getElem?_map] at hk
  cases hx : LL[k]? with
  | none => rw [hx] at hk; cases hk
  | some x => rw [hx] at hk; cases hk; exact Or.inl ⟨x, List.mem_of_getElem? hx, rfl⟩
section FBW
variable {p : Program} {l : Launch} {e : Env} {R : Room} {s : State} {m : MethodId} {args : Array Value} {below : List Frame} {meth : Method} {c : Code} {H : Heap} {locs : List Loc} {cells slots : Nat} {Q : State → Prop}
variable {cc : ByteArray} {pc : Nat} {ls : Array Slot} {rest : List Value} {D : va_G} {cl : List vw_C} {A : Nat → Prop} {tys : List (ClassId × FieldType)} {H0 : Heap} {cn : fb_C} {ad : Nat → Nat → Nat} {st : fb_S} {LL : fb_L} {k i : Nat}
theorem pw_get (hexec : p.tables.exec = Jvm.exec) (hb : c.code = cc) {own ref C : String} {T : u_T} {N ci index : Nat} {Ts : List Cond} (hts : ∀ w ∈ Ts, w.before args s = true) (hin : ∀ w ∈ u_ws C T N, w ∈ Ts) (hown : s.vm.findClass own = some m.cls) (hK : va_K D cl tys s) (hP : va_P D cl (fb_wl cn ad st LL) H) (hm : (k, i) ∈ LL) {fs : List Value} (he : cn ad st k i = .inr (ci, fs)) (hc : cl[ci]? = some (C, T, N)) (j : Nat) (hj : j < N)
    (hlink : (Cond.fieldLink own index ref (T j).2.1 (T j).2.2.1).before args s = true) (hsame : ∀ x, s.fieldFound? (T j).1 (T j).2.1 (T j).2.2.1 = some x → s.fieldFound? ref (T j).2.1 (T j).2.2.1 = some x) {v : Value} (hv : fs[j]? = some v) (hdg : decode cc pc = .ok (.getfield index, 3))
    (kk : W p l e R s m args below meth c H locs cells slots Q (F0 m (pc + 3) ls (v :: rest))) : W p l e R s m args below meth c H locs cells slots Q (F0 m pc ls (.ref (ad k i) :: rest)) := by
  obtain ⟨q0, -, hq⟩ := fb_get (cn := cn) (ad := ad) (st := st) hm
  rw [he] at hq
  exact va_get hexec hb hts hin hown hK hP q0 hq hc j hj hlink hsame hv hdg kk
theorem pw_split {a : Nat → Nat} {z : Int32} (kn : z < 0 → W p l e R s m args below meth c H locs cells slots Q (F0 m pc ls (.null :: rest))) (ks : ¬ z < 0 → W p l e R s m args below meth c H locs cells slots Q (F0 m pc ls (.ref (a (fb_n z)) :: rest))) : W p l e R s m args below meth c H locs cells slots Q (F0 m pc ls (va_rf (fb_ro a z) :: rest)) := by
  by_cases h : z < 0
  · rw [fb_ro_n h]
    exact kn h
  · rw [fb_ro_s h]
    exact ks h
theorem pw_put (hexec : p.tables.exec = Jvm.exec) (hb : c.code = cc) {own ref C : String} {T : u_T} {N ci index : Nat} {Ts : List Cond} (hts : ∀ w ∈ Ts, w.before args s = true) (hin : ∀ w ∈ u_ws C T N, w ∈ Ts) (ty0 : Nat → FieldType) (hty : ∀ k, k < N → parseFieldDescriptor (T k).2.2.1 = some (ty0 k)) (hnm : ∀ a, a < N → ∀ b, b < N → a ≠ b → (T a).2.1 ≠ (T b).2.1) (hown : s.vm.findClass own = some m.cls) (hK : va_K D cl tys s)
    (hP : va_P D cl (fb_wl cn ad st LL) H) (hD : va_D A (fb_wl cn ad st LL)) (hS : va_S A H0 H locs) (hm : (k, i) ∈ LL) {fs : List Value} (he : cn ad st k i = .inr (ci, fs)) (hc : cl[ci]? = some (C, T, N)) (j : Nat) (hj : j < N)
    (hlink : (Cond.fieldLink own index ref (T j).2.1 (T j).2.2.1).before args s = true) (hsame : ∀ x, s.fieldFound? (T j).1 (T j).2.1 (T j).2.2.1 = some x → s.fieldFound? ref (T j).2.1 (T j).2.2.1 = some x) (hfin : (T j).2.2.2 = false) {ty : FieldType} {v : Value} (hd : parseFieldDescriptor (T j).2.2.1 = some ty) (hn : narrow ty v = v) (hfit : fits ty v = true) (hl : j < fs.length)
    (st' : fb_S) (hs : cn ad st' k i = .inr (ci, fs.set j v)) (ho : ∀ k' i' : Nat, (k', i') ∈ LL → ¬ (k' = k ∧ i' = i) → cn ad st' k' i' = cn ad st k' i') (hdg : decode cc pc = .ok (.putfield index, 3))
    (kk : ∀ (H1 : Heap) (locs1 : List Loc), va_P D cl (fb_wl cn ad st' LL) H1 → va_D A (fb_wl cn ad st' LL) → va_S A H0 H1 locs1 → W p l e R s m args below meth c H1 locs1 cells slots Q (F0 m (pc + 3) ls rest)) : W p l e R s m args below meth c H locs cells slots Q (F0 m pc ls (v :: .ref (ad k i) :: rest)) := by
  obtain ⟨q0, hL, hq⟩ := fb_get (cn := cn) (ad := ad) (st := st) hm
  have hset := fb_set hD hL hs.symm ho
  rw [he] at hq
  refine va_put hexec hb hts hin ty0 hty hnm hown hK hP hD hS q0 hq hc j hj hlink hsame hfin hd hn hfit hl hdg (fun H1 locs1 h1 h2 h3 => ?_)
  rw [hset] at h1 h2
  exact kk H1 locs1 h1 h2 h3
theorem pw_iald (hexec : p.tables.exec = Jvm.exec) (hb : c.code = cc) (hK : va_K D cl tys s) (hP : va_P D cl (fb_wl cn ad st LL) H) (hm : (k, i) ∈ LL) (t0 : Nat) {cA : ClassId} {n : Nat} {f : Nat → Int32} (he : cn ad st k i = .inl (cA, n, .inl f)) (ht : tys[t0]? = some (cA, .int)) {z v : Int32} (hin : vp_in z n) (hv : f z.toNatClampNeg = v) (hdg : decode cc pc = .ok (.iaload, 1))
    (kk : W p l e R s m args below meth c H locs cells slots Q (F0 m (pc + 1) ls (.int v :: rest))) : W p l e R s m args below meth c H locs cells slots Q (F0 m pc ls (.int z :: .ref (ad k i) :: rest)) := by
  obtain ⟨q0, -, hq⟩ := fb_get (cn := cn) (ad := ad) (st := st) hm
  rw [he] at hq
  subst hv
  exact va_iald hexec hb hK hP q0 t0 hq ht hin hdg kk
theorem pw_zald (hexec : p.tables.exec = Jvm.exec) (hb : c.code = cc) (hK : va_K D cl tys s) (hP : va_P D cl (fb_wl cn ad st LL) H) (hm : (k, i) ∈ LL) (t0 : Nat) {cA : ClassId} {n : Nat} {f : Nat → Int32} (he : cn ad st k i = .inl (cA, n, .inl f)) (ht : tys[t0]? = some (cA, .boolean)) {z v : Int32} (hin : vp_in z n) (hv : f z.toNatClampNeg = v) (hdg : decode cc pc = .ok (.baload, 1))
    (kk : W p l e R s m args below meth c H locs cells slots Q (F0 m (pc + 1) ls (.int v :: rest))) : W p l e R s m args below meth c H locs cells slots Q (F0 m pc ls (.int z :: .ref (ad k i) :: rest)) := by
  obtain ⟨q0, -, hq⟩ := fb_get (cn := cn) (ad := ad) (st := st) hm
  rw [he] at hq
  subst hv
  exact va_zald hexec hb hK hP q0 t0 hq ht hin hdg kk
theorem pw_aald (hexec : p.tables.exec = Jvm.exec) (hb : c.code = cc) (hK : va_K D cl tys s) (hP : va_P D cl (fb_wl cn ad st LL) H) (hm : (k, i) ∈ LL) (t0 : Nat) {cA : ClassId} {C : String} {n : Nat} {f : Nat → Option Nat} (he : cn ad st k i = .inl (cA, n, .inr (.inr (.inr (.inr f))))) (ht : tys[t0]? = some (cA, .object C)) {z : Int32} {r : Option Nat} (hin : vp_in z n) (hv : f z.toNatClampNeg = r) (hdg : decode cc pc = .ok (.aaload, 1))
    (kk : W p l e R s m args below meth c H locs cells slots Q (F0 m (pc + 1) ls (va_rf r :: rest))) : W p l e R s m args below meth c H locs cells slots Q (F0 m pc ls (.int z :: .ref (ad k i) :: rest)) := by
  obtain ⟨q0, -, hq⟩ := fb_get (cn := cn) (ad := ad) (st := st) hm
  rw [he] at hq
  subst hv
  exact va_aldq hexec hb hK hP q0 t0 hq ht hin hdg kk
theorem pw_alen (hexec : p.tables.exec = Jvm.exec) (hb : c.code = cc) (hK : va_K D cl tys s) (hP : va_P D cl (fb_wl cn ad st LL) H) (hm : (k, i) ∈ LL) (t0 : Nat) {cA : ClassId} {x : vp_A} (he : cn ad st k i = .inl (cA, x)) {ty : FieldType} (ht : tys[t0]? = some (cA, ty)) {v : Int32} (hv : Int32.ofNat x.1 = v) (hdg : decode cc pc = .ok (.arraylength, 1))
    (kk : W p l e R s m args below meth c H locs cells slots Q (F0 m (pc + 1) ls (.int v :: rest))) : W p l e R s m args below meth c H locs cells slots Q (F0 m pc ls (.ref (ad k i) :: rest)) := by
  obtain ⟨q0, -, hq⟩ := fb_get (cn := cn) (ad := ad) (st := st) hm
  rw [he] at hq
  exact va_alen hexec hb hK hP q0 t0 hq ht hv hdg kk
theorem pw_iast (hexec : p.tables.exec = Jvm.exec) (hb : c.code = cc) (hK : va_K D cl tys s) (hP : va_P D cl (fb_wl cn ad st LL) H) (hD : va_D A (fb_wl cn ad st LL)) (hS : va_S A H0 H locs) (hm : (k, i) ∈ LL) (t0 : Nat) {cA : ClassId} {n : Nat} {f : Nat → Int32} (he : cn ad st k i = .inl (cA, n, .inl f)) (ht : tys[t0]? = some (cA, .int)) {z x : Int32} (hin : vp_in z n)
    (st' : fb_S) (hs : cn ad st' k i = .inl (cA, n, .inl (upd f z.toNatClampNeg x))) (ho : ∀ k' i' : Nat, (k', i') ∈ LL → ¬ (k' = k ∧ i' = i) → cn ad st' k' i' = cn ad st k' i') (hdg : decode cc pc = .ok (.iastore, 1))
    (kk : ∀ (H1 : Heap) (locs1 : List Loc), va_P D cl (fb_wl cn ad st' LL) H1 → va_D A (fb_wl cn ad st' LL) → va_S A H0 H1 locs1 → W p l e R s m args below meth c H1 locs1 cells slots Q (F0 m (pc + 1) ls rest)) : W p l e R s m args below meth c H locs cells slots Q (F0 m pc ls (.int x :: .int z :: .ref (ad k i) :: rest)) := by
  obtain ⟨q0, hL, hq⟩ := fb_get (cn := cn) (ad := ad) (st := st) hm
  have hset := fb_set hD hL hs.symm ho
  rw [he] at hq
  refine va_iast hexec hb hK hP hD hS q0 t0 hq ht hin hdg (fun H1 locs1 h1 h2 h3 => ?_)
  rw [hset] at h1 h2
  exact kk H1 locs1 h1 h2 h3
theorem pw_zast (hexec : p.tables.exec = Jvm.exec) (hb : c.code = cc) (hK : va_K D cl tys s) (hP : va_P D cl (fb_wl cn ad st LL) H) (hD : va_D A (fb_wl cn ad st LL)) (hS : va_S A H0 H locs) (hm : (k, i) ∈ LL) (t0 : Nat) {cA : ClassId} {n : Nat} {f : Nat → Int32} (he : cn ad st k i = .inl (cA, n, .inl f)) (ht : tys[t0]? = some (cA, .boolean)) {z x : Int32} (hin : vp_in z n)
    (st' : fb_S) (hs : cn ad st' k i = .inl (cA, n, .inl (upd f z.toNatClampNeg (vp_nar .boolean x)))) (ho : ∀ k' i' : Nat, (k', i') ∈ LL → ¬ (k' = k ∧ i' = i) → cn ad st' k' i' = cn ad st k' i') (hdg : decode cc pc = .ok (.bastore, 1))
    (kk : ∀ (H1 : Heap) (locs1 : List Loc), va_P D cl (fb_wl cn ad st' LL) H1 → va_D A (fb_wl cn ad st' LL) → va_S A H0 H1 locs1 → W p l e R s m args below meth c H1 locs1 cells slots Q (F0 m (pc + 1) ls rest)) : W p l e R s m args below meth c H locs cells slots Q (F0 m pc ls (.int x :: .int z :: .ref (ad k i) :: rest)) := by
  obtain ⟨q0, hL, hq⟩ := fb_get (cn := cn) (ad := ad) (st := st) hm
  have hset := fb_set hD hL hs.symm ho
  rw [he] at hq
  refine va_zast hexec hb hK hP hD hS q0 t0 hq ht hin hdg (fun H1 locs1 h1 h2 h3 => ?_)
  rw [hset] at h1 h2
  exact kk H1 locs1 h1 h2 h3
/-- a loop: head at pc, the invariant over the heap and the locals -/
theorem pw_loop {n : Nat} {Inv : Nat → Heap → List Loc → Array Slot → Prop} (hstep : ∀ i, i < n → ∀ (H : Heap) (locs : List Loc) (ls : Array Slot), Inv i H locs ls → (∀ (H : Heap) (locs : List Loc) (ls : Array Slot), Inv (i + 1) H locs ls → W p l e R s m args below meth c H locs cells slots Q (F0 m pc ls rest)) → W p l e R s m args below meth c H locs cells slots Q (F0 m pc ls rest))
    (hend : ∀ (H : Heap) (locs : List Loc) (ls : Array Slot), Inv n H locs ls → W p l e R s m args below meth c H locs cells slots Q (F0 m pc ls rest)) (h0 : Inv 0 H locs ls) : W p l e R s m args below meth c H locs cells slots Q (F0 m pc ls rest) := by
  have key : ∀ (d i : Nat), i + d = n → ∀ (H : Heap) (locs : List Loc) (ls : Array Slot), Inv i H locs ls → W p l e R s m args below meth c H locs cells slots Q (F0 m pc ls rest) := by
    intro d
    induction d with
    | zero =>
      intro i hi H locs ls h
      have hin : i = n := by omega
      subst hin
      exact hend H locs ls h
    | succ d ih =>
      intro i hi H locs ls h
      exact hstep i (by omega) H locs ls h (fun H locs ls h => ih (i + 1) (by omega) H locs ls h)
  exact key n 0 (by omega) H locs ls h0
/-- several roads lay one value on the stack -/
theorem pw_cut {X : Int32} {rest : List Value} {g : JFrame} (pj : Nat) (J : Heap → List Loc → Prop) (k : ∀ (x : Int32) (H : Heap) (locs : List Loc), x = X → J H locs → W p l e R s m args below meth c H locs cells slots Q (F0 m pj ls (.int x :: rest)))
    (f : (∀ (x : Int32) (H : Heap) (locs : List Loc), x = X → J H locs → W p l e R s m args below meth c H locs cells slots Q (F0 m pj ls (.int x :: rest))) → W p l e R s m args below meth c H locs cells slots Q g) : W p l e R s m args below meth c H locs cells slots Q g := f k
end FBW
/-- a contract's start and end over a side's world -/
def fb_Pre (cn : fb_C) (D : va_G) (cl : List vw_C) (tys : List (ClassId × FieldType)) (ad : Nat → Nat → Nat) (LL : fb_L) (st : fb_S) (sz : Nat) (U : State) : Prop := U.heap.size = sz ∧ va_P D cl (fb_wl cn ad st LL) U.heap ∧ va_K D cl tys U ∧ va_D (fun _ => True) (fb_wl cn ad st LL)
def fb_B (cn : fb_C) (D : va_G) (cl : List vw_C) (tys : List (ClassId × FieldType)) (ad : Nat → Nat → Nat) (LL : fb_L) (sz : Nat) (st : fb_S) (t : State) : Prop := va_P D cl (fb_wl cn ad st LL) t.heap ∧ va_K D cl tys t ∧ va_D (fb_A ad LL sz) (fb_wl cn ad st LL)
theorem fb_blind {cn : fb_C} {D : va_G} {cl : List vw_C} {tys : List (ClassId × FieldType)} {ad : Nat → Nat → Nat} {LL : fb_L} {st : fb_S} {sz : Nat} {av : List Value} : FrameBlind (va_Pc av (fb_Pre cn D cl tys ad LL st sz)) := by
  intro a U g mk q
  obtain ⟨q0, q1, qP, qK, qD⟩ := q
  exact ⟨q0, q1, qP, va_K.moved (u := U) (U := U.calling g mk a) (Vm.Alike.refl U.vm) qK, qD⟩
def fb_Mi (l : Launch) (y : MethodName) (ws : List Cond) (rm : Room) (cn : fb_C) (D : va_G) (cl : List vw_C) (tys : List (ClassId × FieldType)) (ad : Nat → Nat → Nat) (LL : fb_L) (st : fb_S) (av : List Value) (post : Int32 → fb_S → Prop) : Prop :=
  ∀ sz : Nat, Met l y ws rm (va_Pc av (fb_Pre cn D cl tys ad LL st sz)) (va_Qi post (fb_B cn D cl tys ad LL sz) (fb_A ad LL sz)) 0 0 (fb_A ad LL sz)
def fb_Mv (l : Launch) (y : MethodName) (ws : List Cond) (rm : Room) (cn : fb_C) (D : va_G) (cl : List vw_C) (tys : List (ClassId × FieldType)) (ad : Nat → Nat → Nat) (LL : fb_L) (st : fb_S) (av : List Value) (post : fb_S → Prop) : Prop :=
  ∀ sz : Nat, Met l y ws rm (va_Pc av (fb_Pre cn D cl tys ad LL st sz)) (va_Qv post (fb_B cn D cl tys ad LL sz) (fb_A ad LL sz)) 0 0 (fb_A ad LL sz)
def fb_Mq (l : Launch) (y : MethodName) (ws : List Cond) (rm : Room) (cn : fb_C) (D : va_G) (cl : List vw_C) (tys : List (ClassId × FieldType)) (ad : Nat → Nat → Nat) (LL : fb_L) (st : fb_S) (av : List Value) (post : Option Nat → fb_S → Prop) : Prop :=
  ∀ sz : Nat, Met l y ws rm (va_Pc av (fb_Pre cn D cl tys ad LL st sz)) (va_Qq post (fb_B cn D cl tys ad LL sz) (fb_A ad LL sz)) 0 0 (fb_A ad LL sz)
section FBC
variable {p : Program} {l : Launch} {e : Env} {R : Room} {s : State} {m : MethodId} {args : Array Value} {below : List Frame} {meth : Method} {c : Code} {H : Heap} {locs : List Loc} {cells slots : Nat} {Q : State → Prop}
variable {cc bytes : ByteArray} {pc nL maxL n index b : Nat} {ls : Array Slot} {rest st0 As : List Value} {D : va_G} {cl : List vw_C} {tys : List (ClassId × FieldType)} {H0 : Heap} {cn : fb_C} {ad : Nat → Nat → Nat} {st : fb_S} {LL : fb_L}
variable {Ts ws : List Cond} {own C : String} {y : MethodName} {rm : Room} {ret : Option FieldType}
theorem pw_Vi {post : Int32 → fb_S → Prop} (S : CallFix p m c cc nL s args Ts own) (hM : fb_Mi l y ws rm cn D cl tys ad LL st (.ref b :: As) post) (cw : CallW R s args own C index y bytes maxL ret ws rm 0 0 n) (hK : va_K D cl tys s) (hP : va_P D cl (fb_wl cn ad st LL) H) (hD : va_D (fb_A ad LL H0.size) (fb_wl cn ad st LL)) (hS : va_S (fb_A ad LL H0.size) H0 H locs)
    (hrecv : ∃ cellB : Cell, H[b]? = some cellB ∧ cellB.vm.isStatics = false ∧ s.vm.findClass C = some cellB.cls) (hn : As.length = n) (hsz : ls.size = nL) (hst : st0 = As.reverse ++ .ref b :: rest) (hW : 2 * (F0 m pc ls st0).monitorRoom + (rest.map fun v => v.category).sum ≤ 8) (hdg : decode cc pc = .ok (.invokevirtual index, 3)) (hf : cells ≤ R.cells ∧ slots ≤ R.slots)
    (kk : ∀ (r : Int32) (st1 : fb_S) (H1 : Heap) (locs1 : List Loc), post r st1 → va_P D cl (fb_wl cn ad st1 LL) H1 → va_D (fb_A ad LL H0.size) (fb_wl cn ad st1 LL) → va_S (fb_A ad LL H0.size) H0 H1 locs1 → W p l e R s m args below meth c H1 locs1 cells slots Q (F0 m (pc + 3) ls (.int r :: rest))) : W p l e R s m args below meth c H locs cells slots Q (F0 m pc ls st0) := by
  refine va_calli (va_runV S (hM H.size) cw ⟨fb_blind, hrecv, fun U hU hW => ⟨rfl, by rw [hU], by rw [hU]; exact hP, va_K.moved hW.alike hK, hD.weaken (fun _ _ _ _ => trivial)⟩⟩ rfl hn hsz hst hW hdg hf) hS (fun q _ h => fb_A_le hS.1 h) (fun q h => fb_A_le hS.1 h) (fun r u t H1 locs1 ht hvm hp hB hz hk hS1 => ?_)
  obtain ⟨hP1, -, hD1⟩ := hB
  rw [ht] at hP1
  exact kk r u H1 locs1 hp hP1 (hD1.weaken (fun _ _ _ h => fb_A_le hS.1 h)) hS1
theorem pw_Vv {post : fb_S → Prop} (S : CallFix p m c cc nL s args Ts own) (hM : fb_Mv l y ws rm cn D cl tys ad LL st (.ref b :: As) post) (cw : CallW R s args own C index y bytes maxL ret ws rm 0 0 n) (hK : va_K D cl tys s) (hP : va_P D cl (fb_wl cn ad st LL) H) (hD : va_D (fb_A ad LL H0.size) (fb_wl cn ad st LL)) (hS : va_S (fb_A ad LL H0.size) H0 H locs)
    (hrecv : ∃ cellB : Cell, H[b]? = some cellB ∧ cellB.vm.isStatics = false ∧ s.vm.findClass C = some cellB.cls) (hn : As.length = n) (hsz : ls.size = nL) (hst : st0 = As.reverse ++ .ref b :: rest) (hW : 2 * (F0 m pc ls st0).monitorRoom + (rest.map fun v => v.category).sum ≤ 8) (hdg : decode cc pc = .ok (.invokevirtual index, 3)) (hf : cells ≤ R.cells ∧ slots ≤ R.slots)
    (kk : ∀ (st1 : fb_S) (H1 : Heap) (locs1 : List Loc), post st1 → va_P D cl (fb_wl cn ad st1 LL) H1 → va_D (fb_A ad LL H0.size) (fb_wl cn ad st1 LL) → va_S (fb_A ad LL H0.size) H0 H1 locs1 → W p l e R s m args below meth c H1 locs1 cells slots Q (F0 m (pc + 3) ls rest)) : W p l e R s m args below meth c H locs cells slots Q (F0 m pc ls st0) := by
  refine va_callv (va_runV S (hM H.size) cw ⟨fb_blind, hrecv, fun U hU hW => ⟨rfl, by rw [hU], by rw [hU]; exact hP, va_K.moved hW.alike hK, hD.weaken (fun _ _ _ _ => trivial)⟩⟩ rfl hn hsz hst hW hdg hf) hS (fun q _ h => fb_A_le hS.1 h) (fun q h => fb_A_le hS.1 h) (fun u t H1 locs1 ht hvm hp hB hz hk hS1 => ?_)
  obtain ⟨hP1, -, hD1⟩ := hB
  rw [ht] at hP1
  exact kk u H1 locs1 hp hP1 (hD1.weaken (fun _ _ _ h => fb_A_le hS.1 h)) hS1
theorem pw_Vq {post : Option Nat → fb_S → Prop} (S : CallFix p m c cc nL s args Ts own) (hM : fb_Mq l y ws rm cn D cl tys ad LL st (.ref b :: As) post) (cw : CallW R s args own C index y bytes maxL ret ws rm 0 0 n) (hK : va_K D cl tys s) (hP : va_P D cl (fb_wl cn ad st LL) H) (hD : va_D (fb_A ad LL H0.size) (fb_wl cn ad st LL)) (hS : va_S (fb_A ad LL H0.size) H0 H locs)
    (hrecv : ∃ cellB : Cell, H[b]? = some cellB ∧ cellB.vm.isStatics = false ∧ s.vm.findClass C = some cellB.cls) (hn : As.length = n) (hsz : ls.size = nL) (hst : st0 = As.reverse ++ .ref b :: rest) (hW : 2 * (F0 m pc ls st0).monitorRoom + (rest.map fun v => v.category).sum ≤ 8) (hdg : decode cc pc = .ok (.invokevirtual index, 3)) (hf : cells ≤ R.cells ∧ slots ≤ R.slots)
    (kk : ∀ (r : Option Nat) (st1 : fb_S) (H1 : Heap) (locs1 : List Loc), post r st1 → va_P D cl (fb_wl cn ad st1 LL) H1 → va_D (fb_A ad LL H0.size) (fb_wl cn ad st1 LL) → va_S (fb_A ad LL H0.size) H0 H1 locs1 → W p l e R s m args below meth c H1 locs1 cells slots Q (F0 m (pc + 3) ls (va_rf r :: rest))) : W p l e R s m args below meth c H locs cells slots Q (F0 m pc ls st0) := by
  refine va_callq (va_runV S (hM H.size) cw ⟨fb_blind, hrecv, fun U hU hW => ⟨rfl, by rw [hU], by rw [hU]; exact hP, va_K.moved hW.alike hK, hD.weaken (fun _ _ _ _ => trivial)⟩⟩ rfl hn hsz hst hW hdg hf) hS (fun q _ h => fb_A_le hS.1 h) (fun q h => fb_A_le hS.1 h) (fun r u t H1 locs1 ht hvm hp hB hz hk hS1 => ?_)
  obtain ⟨hP1, -, hD1⟩ := hB
  rw [ht] at hP1
  exact kk r u H1 locs1 hp hP1 (hD1.weaken (fun _ _ _ h => fb_A_le hS.1 h)) hS1
theorem pw_Si {post : Int32 → fb_S → Prop} (S : CallFix p m c cc nL s args Ts own) (hM : fb_Mi l y ws rm cn D cl tys ad LL st As post) (cw : CallB R s args own index y bytes maxL ret ws rm 0 0 n ∧ (Cond.static y).before args s = true) (hK : va_K D cl tys s) (hP : va_P D cl (fb_wl cn ad st LL) H) (hD : va_D (fb_A ad LL H0.size) (fb_wl cn ad st LL)) (hS : va_S (fb_A ad LL H0.size) H0 H locs)
    (hn : As.length = n) (hsz : ls.size = nL) (hst : st0 = As.reverse ++ rest) (hW : 2 * (F0 m pc ls st0).monitorRoom + (rest.map fun v => v.category).sum ≤ 8) (hdg : decode cc pc = .ok (.invokestatic index, 3)) (hf : cells ≤ R.cells ∧ slots ≤ R.slots)
    (kk : ∀ (r : Int32) (st1 : fb_S) (H1 : Heap) (locs1 : List Loc), post r st1 → va_P D cl (fb_wl cn ad st1 LL) H1 → va_D (fb_A ad LL H0.size) (fb_wl cn ad st1 LL) → va_S (fb_A ad LL H0.size) H0 H1 locs1 → W p l e R s m args below meth c H1 locs1 cells slots Q (F0 m (pc + 3) ls (.int r :: rest))) : W p l e R s m args below meth c H locs cells slots Q (F0 m pc ls st0) := by
  refine va_calli (va_runS S (hM H.size) cw ⟨fb_blind, fun U hU hW => ⟨rfl, by rw [hU], by rw [hU]; exact hP, va_K.moved hW.alike hK, hD.weaken (fun _ _ _ _ => trivial)⟩⟩ rfl hn hsz hst hW hdg hf) hS (fun q _ h => fb_A_le hS.1 h) (fun q h => fb_A_le hS.1 h) (fun r u t H1 locs1 ht hvm hp hB hz hk hS1 => ?_)
  obtain ⟨hP1, -, hD1⟩ := hB
  rw [ht] at hP1
  exact kk r u H1 locs1 hp hP1 (hD1.weaken (fun _ _ _ h => fb_A_le hS.1 h)) hS1
theorem pw_Sv {post : fb_S → Prop} (S : CallFix p m c cc nL s args Ts own) (hM : fb_Mv l y ws rm cn D cl tys ad LL st As post) (cw : CallB R s args own index y bytes maxL ret ws rm 0 0 n ∧ (Cond.static y).before args s = true) (hK : va_K D cl tys s) (hP : va_P D cl (fb_wl cn ad st LL) H) (hD : va_D (fb_A ad LL H0.size) (fb_wl cn ad st LL)) (hS : va_S (fb_A ad LL H0.size) H0 H locs)
    (hn : As.length = n) (hsz : ls.size = nL) (hst : st0 = As.reverse ++ rest) (hW : 2 * (F0 m pc ls st0).monitorRoom + (rest.map fun v => v.category).sum ≤ 8) (hdg : decode cc pc = .ok (.invokestatic index, 3)) (hf : cells ≤ R.cells ∧ slots ≤ R.slots)
    (kk : ∀ (st1 : fb_S) (H1 : Heap) (locs1 : List Loc), post st1 → va_P D cl (fb_wl cn ad st1 LL) H1 → va_D (fb_A ad LL H0.size) (fb_wl cn ad st1 LL) → va_S (fb_A ad LL H0.size) H0 H1 locs1 → W p l e R s m args below meth c H1 locs1 cells slots Q (F0 m (pc + 3) ls rest)) : W p l e R s m args below meth c H locs cells slots Q (F0 m pc ls st0) := by
  refine va_callv (va_runS S (hM H.size) cw ⟨fb_blind, fun U hU hW => ⟨rfl, by rw [hU], by rw [hU]; exact hP, va_K.moved hW.alike hK, hD.weaken (fun _ _ _ _ => trivial)⟩⟩ rfl hn hsz hst hW hdg hf) hS (fun q _ h => fb_A_le hS.1 h) (fun q h => fb_A_le hS.1 h) (fun u t H1 locs1 ht hvm hp hB hz hk hS1 => ?_)
  obtain ⟨hP1, -, hD1⟩ := hB
  rw [ht] at hP1
  exact kk u H1 locs1 hp hP1 (hD1.weaken (fun _ _ _ h => fb_A_le hS.1 h)) hS1
theorem fb_recv {ci : Nat} {q : vw_C} {fs : List Value} {k i : Nat} (hK : va_K D cl tys s) (hP : va_P D cl (fb_wl cn ad st LL) H) (hm : (k, i) ∈ LL) (he : cn ad st k i = .inr (ci, fs)) (hc : cl[ci]? = some q) : ∃ cell : Cell, H[ad k i]? = some cell ∧ cell.vm.isStatics = false ∧ s.vm.findClass q.1 = some cell.cls := by
  obtain ⟨q0, -, hq⟩ := fb_get (cn := cn) (ad := ad) (st := st) hm
  rw [he] at hq
  exact va_recv hK hP hc hq
end FBC
/-- array classes of one element type are one class -/
theorem fb_uni {D : va_G} {cl : List vw_C} {tys : List (ClassId × FieldType)} {s : State} (hK : va_K D cl tys s) {i j : Nat} {a b : ClassId} {ty : FieldType} (hi : tys[i]? = some (a, ty)) (hj : tys[j]? = some (b, ty)) : a = b := by
  have h1 := (hK.2 i _ hi).2
  have h2 := (hK.2 j _ hj).2
  cases ty with
  | object C =>
    obtain ⟨_, _, _, _, _, e1⟩ := h1
    obtain ⟨_, _, _, _, _, e2⟩ := h2
    exact Option.some.inj (e1.symm.trans e2)
  | _ => exact Option.some.inj (h1.symm.trans h2)
section FBX
variable {p : Program} {l : Launch} {e : Env} {R : Room} {s : State} {m : MethodId} {args : Array Value} {below : List Frame} {meth : Method} {c : Code} {H : Heap} {locs : List Loc} {cells slots : Nat} {Q : State → Prop}
variable {cc bytes : ByteArray} {pc nL maxL n index : Nat} {ls : Array Slot} {rest st0 As : List Value} {D : va_G} {cl : List vw_C} {tys : List (ClassId × FieldType)} {H0 : Heap} {cn : fb_C} {ad : Nat → Nat → Nat} {st : fb_S} {A : Nat → Prop} {ws : va_W}
variable {Ts w0 : List Cond} {own C : String} {y : MethodName} {rm : Room} {ret : Option FieldType}
/-- a pure method, from any world -/
theorem pw_SiX {post : Int32 → fb_S → Prop} (S : CallFix p m c cc nL s args Ts own) (hM : fb_Mi l y w0 rm cn D cl tys ad [] st As post) (cw : CallB R s args own index y bytes maxL ret w0 rm 0 0 n ∧ (Cond.static y).before args s = true) (hK : va_K D cl tys s) (hP : va_P D cl ws H) (hD : va_D A ws) (hS : va_S A H0 H locs) (hA : ∀ q, H0.size ≤ q → A q)
    (hn : As.length = n) (hsz : ls.size = nL) (hst : st0 = As.reverse ++ rest) (hW : 2 * (F0 m pc ls st0).monitorRoom + (rest.map fun v => v.category).sum ≤ 8) (hdg : decode cc pc = .ok (.invokestatic index, 3)) (hf : cells ≤ R.cells ∧ slots ≤ R.slots)
    (kk : ∀ (r : Int32) (st1 : fb_S) (H1 : Heap) (locs1 : List Loc), post r st1 → va_P D cl ws H1 → va_D A ws → va_S A H0 H1 locs1 → W p l e R s m args below meth c H1 locs1 cells slots Q (F0 m (pc + 3) ls (.int r :: rest))) : W p l e R s m args below meth c H locs cells slots Q (F0 m pc ls st0) := by
  have nilP : va_P D cl (fb_wl cn ad st []) H := fun k q hk => by simp [fb_wl] at hk
  have nilD : va_D (fun _ => True) (fb_wl cn ad st []) := ⟨fun i j p q hi => by simp [fb_wl] at hi, fun _ _ _ => trivial⟩
  have hA1 : ∀ q, q < H.size → ¬ fb_A ad [] H.size q := fun q h1 h2 => by
    rcases h2 with ⟨x, hx, -⟩ | h2
    · cases hx
    · omega
  have hA2 : ∀ q, fb_A ad [] H.size q → A q := fun q h => hA q (by
    rcases h with ⟨x, hx, -⟩ | h
    · cases hx
    · exact Nat.le_trans hS.1 h)
  refine va_calli (va_runS S (hM H.size) cw ⟨fb_blind, fun U hU hW => ⟨rfl, by rw [hU], by rw [hU]; exact nilP, va_K.moved hW.alike hK, nilD⟩⟩ rfl hn hsz hst hW hdg hf) hS (fun q h1 h2 => absurd h2 (hA1 q h1)) hA2 (fun r u t H1 locs1 ht hvm hp hB hz hk hS1 => ?_)
  exact kk r u H1 locs1 hp (hP.kept (fun k x hx => hk x.1 ((hP k x hx).lt) (hA1 x.1 ((hP k x hx).lt)))) hD hS1
end FBX
