/-! the making of the ports: labels, store, addresses -/
def cf_st0 (d x r k : Int32) : fb_S := fun F i => match F with
  | 0 => d
  | 1 => x
  | 2 => r
  | 3 => k
  | 7 => if i < 2 then 1 else 0
  | 8 => -1
  | 9 => -1
  | 10 => fb_tF i
  | 11 => fb_tT i
  | 13 => -1
  | 19 => -1
  | 20 => -1
  | 33 => -1
  | 42 => -1
  | 44 => -1
  | _ => 0
def fb_p1 (n : Nat) : fb_L := [(5, n), (8, n), (11, 3 * n), (11, 3 * n + 1), (9, n), (11, 3 * n + 2), (10, n)]
def fb_ps : Nat → fb_L
  | 0 => []
  | n + 1 => fb_ps n ++ fb_p1 n
theorem fb_ps_mem {n k i : Nat} (h : (k, i) ∈ fb_ps n) : ((k = 5 ∨ k = 8 ∨ k = 9 ∨ k = 10) ∧ i < n) ∨ (k = 11 ∧ i < 3 * n) := by
  induction n with
  | zero => cases h
  | succ n ih =>
    rcases List.mem_append.mp h with h | h
    · have := ih h
      omega
    · simp only [fb_p1, List.mem_cons, List.not_mem_nil, or_false, Prod.mk.injEq] at h
      omega
theorem fb_ps_in {n i : Nat} (h : i < n) : ∀ x, x ∈ fb_p1 i → x ∈ fb_ps n := by
  induction n with
  | zero => omega
  | succ n ih =>
    intro x hx
    by_cases e : i = n
    · subst e
      exact List.mem_append_right _ hx
    · exact List.mem_append_left _ (ih (by omega) x hx)
def fb_adP (ad : Nat → Nat → Nat) (c q : Nat) (u : Nat → Nat) : Nat → Nat → Nat := fun k i =>
  if k = 5 ∧ i = c then q else if k = 8 ∧ i = c then u 0 else if k = 11 ∧ i = 3 * c then u 1 else if k = 11 ∧ i = 3 * c + 1 then u 2 else if k = 9 ∧ i = c then u 3 else if k = 11 ∧ i = 3 * c + 2 then u 4 else if k = 10 ∧ i = c then u 5 else ad k i
theorem fb_adP_old {ad : Nat → Nat → Nat} {c q : Nat} {u : Nat → Nat} {k i : Nat} (h : (k ≠ 11 ∧ i < c) ∨ (k = 11 ∧ i < 3 * c) ∨ k < 5 ∨ k = 7) : fb_adP ad c q u k i = ad k i := by
  unfold fb_adP
  repeat rw [if_neg (by omega)]
theorem fb_ps_old {cA : Nat → ClassId} {ad : Nat → Nat → Nat} {d x r k0 : Int32} {c q : Nat} {u : Nat → Nat} : fb_wl (fb_cC cA) (fb_adP ad c q u) (cf_st0 d x r k0) (fb_ps c) = fb_wl (fb_cC cA) ad (cf_st0 d x r k0) (fb_ps c) := by
  unfold fb_wl
  refine List.map_congr_left (fun y hy => ?_)
  obtain ⟨k, i⟩ := y
  have hm := fb_ps_mem hy
  have e1 : fb_adP ad c q u k i = ad k i := fb_adP_old (by omega)
  have e2 : fb_cC cA (fb_adP ad c q u) (cf_st0 d x r k0) k i = fb_cC cA ad (cf_st0 d x r k0) k i := by
    rcases hm with ⟨hk, hi⟩ | ⟨rfl, hi⟩
    · rcases hk with rfl | rfl | rfl | rfl
      · simp only [fb_cC]
        rw [fb_adP_old (k := 8) (by omega), fb_adP_old (k := 9) (by omega), fb_adP_old (k := 10) (by omega), fb_adP_old (k := 11) (by omega)]
        rfl
      · simp only [fb_cC]
        rw [show (fun j => if j < 2 then some (fb_adP ad c q u 11 (3 * i + j)) else none) = (fun j => if j < 2 then some (ad 11 (3 * i + j)) else none) from funext (fun j => by
          by_cases hj : j < 2
          · rw [if_pos hj, if_pos hj, fb_adP_old (by omega)]
          · rw [if_neg hj, if_neg hj])]
      · simp only [fb_cC]
      · simp only [fb_cC]
    · rfl
  simp only [e1, e2]
theorem fb_wl_port {cA : Nat → ClassId} {ad : Nat → Nat → Nat} {d x r k0 : Int32} {c q : Nat} {u : Nat → Nat} {fm tt : Int32} (h1 : fb_tF c = fm) (h2 : fb_tT c = tt) : fb_wl (fb_cC cA) (fb_adP ad c q u) (cf_st0 d x r k0) (fb_ps (c + 1)) = fb_wl (fb_cC cA) ad (cf_st0 d x r k0) (fb_ps c) ++ [(q, .inr (1, [.int fm, .int tt, .ref (u 0), .ref (u 3), .int 0, .null, .ref (u 4), .ref (u 5), .int 0, .int 0, .int 0])), ((u 0), .inl (cA 4, 2, .inr (.inr (.inr (.inr (va_up (va_up (fun _ => none) (0 : Int32).toNatClampNeg (some (u 1))) (1 : Int32).toNatClampNeg (some (u 2)))))))), ((u 1), .inr (4, [.null, .null, .int 0])), ((u 2), .inr (4, [.null, .null, .int 0])), ((u 3), .inl (cA 0, 2, .inl (upd (upd (fun _ => 0) (0 : Int32).toNatClampNeg 0) (1 : Int32).toNatClampNeg 0))), ((u 4), .inr (4, [.null, .null, .int 0])), ((u 5), .inl (cA 0, 2, .inl (upd (upd (fun _ => 0) (0 : Int32).toNatClampNeg 0) (1 : Int32).toNatClampNeg 0)))] := by
  have a5 : fb_adP ad c q u 5 c = q := by unfold fb_adP; rw [if_pos ⟨rfl, rfl⟩]
  have a8 : fb_adP ad c q u 8 c = u 0 := by unfold fb_adP; rw [if_neg (by omega), if_pos ⟨rfl, rfl⟩]
  have a110 : fb_adP ad c q u 11 (3 * c) = u 1 := by unfold fb_adP; rw [if_neg (by omega), if_neg (by omega), if_pos ⟨rfl, rfl⟩]
  have a111 : fb_adP ad c q u 11 (3 * c + 1) = u 2 := by unfold fb_adP; rw [if_neg (by omega), if_neg (by omega), if_neg (by omega), if_pos ⟨rfl, rfl⟩]
  have a9 : fb_adP ad c q u 9 c = u 3 := by unfold fb_adP; rw [if_neg (by omega), if_neg (by omega), if_neg (by omega), if_neg (by omega), if_pos ⟨rfl, rfl⟩]
  have a112 : fb_adP ad c q u 11 (3 * c + 2) = u 4 := by unfold fb_adP; rw [if_neg (by omega), if_neg (by omega), if_neg (by omega), if_neg (by omega), if_neg (by omega), if_pos ⟨rfl, rfl⟩]
  have a10 : fb_adP ad c q u 10 c = u 5 := by unfold fb_adP; rw [if_neg (by omega), if_neg (by omega), if_neg (by omega), if_neg (by omega), if_neg (by omega), if_neg (by omega), if_pos ⟨rfl, rfl⟩]
  have nul : ∀ a : Nat → Nat, va_rf (fb_ro a (-1)) = .null := fun a => by rw [fb_ro_n fb_m1]; rfl
  have z0 : (fun j => if j < 2 then (0 : Int32) else 0) = upd (upd (fun _ => 0) (0 : Int32).toNatClampNeg 0) (1 : Int32).toNatClampNeg 0 := by
    funext j
    unfold upd
    repeat' split
    all_goals rfl
  show fb_wl (fb_cC cA) (fb_adP ad c q u) (cf_st0 d x r k0) (fb_ps c ++ fb_p1 c) = _
  rw [show fb_wl (fb_cC cA) (fb_adP ad c q u) (cf_st0 d x r k0) (fb_ps c ++ fb_p1 c) = fb_wl (fb_cC cA) (fb_adP ad c q u) (cf_st0 d x r k0) (fb_ps c) ++ fb_wl (fb_cC cA) (fb_adP ad c q u) (cf_st0 d x r k0) (fb_p1 c) from List.map_append, fb_ps_old]
  congr 1
  have c5 : fb_cC cA (fb_adP ad c q u) (cf_st0 d x r k0) 5 c = .inr (1, [.int fm, .int tt, .ref (u 0), .ref (u 3), .int 0, .null, .ref (u 4), .ref (u 5), .int 0, .int 0, .int 0]) := by
    simp only [fb_cC]
    rw [a8, a9, a10, a112]
    show (Sum.inr (1, [.int (fb_tF c), .int (fb_tT c), .ref (u 0), .ref (u 3), .int 0, va_rf (fb_ro (fb_adP ad c q u 7) (-1)), .ref (u 4), .ref (u 5), .int 0, .int 0, .int 0]) : va_E) = _
    rw [nul, h1, h2]
  have c8 : fb_cC cA (fb_adP ad c q u) (cf_st0 d x r k0) 8 c = .inl (cA 4, 2, .inr (.inr (.inr (.inr (va_up (va_up (fun _ => none) (0 : Int32).toNatClampNeg (some (u 1))) (1 : Int32).toNatClampNeg (some (u 2))))))) := by
    simp only [fb_cC]
    rw [show (fun j => if j < 2 then some (fb_adP ad c q u 11 (3 * c + j)) else none) = va_up (va_up (fun _ => none) (0 : Int32).toNatClampNeg (some (u 1))) (1 : Int32).toNatClampNeg (some (u 2)) from funext (fun j => by
      simp only [va_up, fb_t0, fb_t1]
      by_cases e1 : j = 1
      · subst e1
        simp [a111]
      · by_cases e0 : j = 0
        · subst e0
          simp [a110]
        · rw [if_neg (by omega), if_neg e1, if_neg e0])]
  have c11 : ∀ i, fb_cC cA (fb_adP ad c q u) (cf_st0 d x r k0) 11 i = .inr (4, [.null, .null, .int 0]) := fun i => by
    show (Sum.inr (4, [va_rf (fb_ro (fb_adP ad c q u 7) (-1)), va_rf (fb_ro (fb_adP ad c q u 7) (-1)), .int 0]) : va_E) = _
    rw [nul]
  have c9 : fb_cC cA (fb_adP ad c q u) (cf_st0 d x r k0) 9 c = .inl (cA 0, 2, .inl (upd (upd (fun _ => 0) (0 : Int32).toNatClampNeg 0) (1 : Int32).toNatClampNeg 0)) := by
    rw [← z0]
    rfl
  have c10 : fb_cC cA (fb_adP ad c q u) (cf_st0 d x r k0) 10 c = .inl (cA 0, 2, .inl (upd (upd (fun _ => 0) (0 : Int32).toNatClampNeg 0) (1 : Int32).toNatClampNeg 0)) := by
    rw [← z0]
    rfl
  simp only [fb_wl, fb_p1, List.map_cons, List.map_nil, a5, a8, a9, a10, a110, a111, a112, c5, c8, c9, c10, c11]
/-- how many ports among the first p pairs -/
def fb_lk (p : Nat) : Bool := cf_linked (nI (p % 14)) (nI (p / 14))
def fb_cnt : Nat → Nat
  | 0 => 0
  | p + 1 => if fb_lk p = true then fb_cnt p + 1 else fb_cnt p
/-- the same, with all counts so far (quick to reckon) -/
def fb_chk : Nat → Nat → Bool
  | _, 0 => true
  | c, d + 1 => let p := 196 - (d + 1); if fb_lk p = true then (decide (c < 32) && decide (fb_tF c = nI (p % 14)) && decide (fb_tT c = nI (p / 14)) && fb_chk (c + 1) d) else fb_chk c d
theorem fb_chk_ok : fb_chk 0 196 = true := by decide +kernel
theorem fb_chk_at : ∀ d p, p + d = 196 → fb_chk (fb_cnt p) d = true → ∀ t, p ≤ t → t < 196 → fb_lk t = true → fb_cnt t < 32 ∧ fb_tF (fb_cnt t) = nI (t % 14) ∧ fb_tT (fb_cnt t) = nI (t / 14) := by
  intro d
  induction d with
  | zero => intro p hp _ t h1 h2; omega
  | succ d ih =>
    intro p hp hc t h1 h2 hl
    have e : 196 - (d + 1) = p := by omega
    simp only [fb_chk, e] at hc
    by_cases hlp : fb_lk p = true
    · rw [if_pos hlp, Bool.and_eq_true, Bool.and_eq_true, Bool.and_eq_true] at hc
      obtain ⟨⟨⟨q1, q2⟩, q3⟩, q4⟩ := hc
      by_cases et : t = p
      · subst et
        exact ⟨of_decide_eq_true q1, of_decide_eq_true q2, of_decide_eq_true q3⟩
      · refine ih (p + 1) (by omega) ?_ t (by omega) h2 hl
        rw [show fb_cnt (p + 1) = fb_cnt p + 1 from if_pos hlp]
        exact q4
    · rw [if_neg hlp] at hc
      by_cases et : t = p
      · subst et
        exact absurd hl hlp
      · refine ih (p + 1) (by omega) ?_ t (by omega) h2 hl
        rw [show fb_cnt (p + 1) = fb_cnt p from if_neg hlp]
        exact hc
theorem fb_lk_at {t : Nat} (ht : t < 196) (hl : fb_lk t = true) : fb_cnt t < 32 ∧ fb_tF (fb_cnt t) = nI (t % 14) ∧ fb_tT (fb_cnt t) = nI (t / 14) := fb_chk_at 196 0 rfl fb_chk_ok t (Nat.zero_le _) ht hl
def fb_cnd : Nat → Nat → Nat
  | c, 0 => c
  | c, d + 1 => fb_cnd (if fb_lk (196 - (d + 1)) = true then c + 1 else c) d
theorem fb_cnd_ok : fb_cnd 0 196 = 32 := by decide +kernel
theorem fb_cnd_at : ∀ d p, p + d = 196 → fb_cnd (fb_cnt p) d = fb_cnt 196 := by
  intro d
  induction d with
  | zero => intro p hp; rw [show p = 196 by omega]; rfl
  | succ d ih =>
    intro p hp
    simp only [fb_cnd, show 196 - (d + 1) = p by omega]
    exact ih (p + 1) (by omega)
theorem fb_cnt196 : fb_cnt 196 = 32 := (fb_cnd_at 196 0 rfl).symm.trans fb_cnd_ok
theorem fb_cnt_le : ∀ d p, p + d = 196 → fb_cnt p ≤ 32 := by
  intro d
  induction d with
  | zero => intro p hp; rw [show p = 196 by omega, fb_cnt196]; omega
  | succ d ih =>
    intro p hp
    have h := ih (p + 1) (by omega)
    have : fb_cnt p ≤ fb_cnt (p + 1) := by
      simp only [fb_cnt]
      split <;> omega
    omega
/-- a loop in which cells are made -/
theorem pw_loopC {p : Program} {l : Launch} {e : Env} {R : Room} {s : State} {m : MethodId} {args : Array Value} {below : List Frame} {meth : Method} {c : Code} {H : Heap} {locs : List Loc} {Q : State → Prop} {pc : Nat} {ls : Array Slot} {rest : List Value} {n : Nat} {Inv : Nat → Heap → List Loc → Array Slot → Prop} {fc fs : Nat → Nat} (hstep : ∀ i, i < n → ∀ (H : Heap) (locs : List Loc) (ls : Array Slot), Inv i H locs ls → (∀ (H : Heap) (locs : List Loc) (ls : Array Slot), Inv (i + 1) H locs ls → W p l e R s m args below meth c H locs (fc (i + 1)) (fs (i + 1)) Q (F0 m pc ls rest)) → W p l e R s m args below meth c H locs (fc i) (fs i) Q (F0 m pc ls rest))
    (hend : ∀ (H : Heap) (locs : List Loc) (ls : Array Slot), Inv n H locs ls → W p l e R s m args below meth c H locs (fc n) (fs n) Q (F0 m pc ls rest)) (h0 : Inv 0 H locs ls) : W p l e R s m args below meth c H locs (fc 0) (fs 0) Q (F0 m pc ls rest) := by
  have key : ∀ (d i : Nat), i + d = n → ∀ (H : Heap) (locs : List Loc) (ls : Array Slot), Inv i H locs ls → W p l e R s m args below meth c H locs (fc i) (fs i) Q (F0 m pc ls rest) := by
    intro d
    induction d with
    | zero =>
      intro i hi H locs ls h
      have hin : i = n := by omega
      subst hin
      exact hend H locs ls h
    | succ d ih =>
      intro i hi H locs ls h
      exact hstep i (by omega) H locs ls h (fun H locs ls h => ih (i + 1) (by omega) H locs ls h)
  exact key n 0 (by omega) H locs ls h0
