/-! the law: what is known at its start; its helper (by program) -/
theorem lw_K {s : State} {b : Nat} (hts : ∀ w ∈ lw_tbl, w.before #[Value.ref b] s = true) : ∃ (D : va_G) (cA : Nat → ClassId), va_K D fb_cl (fb_tys cA) s := by
  have hT : ∀ w ∈ lw_gd, w.before #[Value.ref b] s = true := fun w h => hts w (List.mem_filter.mp h).1
  obtain ⟨c0, i0, h0⟩ := u_known (C := "PausedFabric") (T := zT_X) (N := 11) hT zin_X (hT _ zi_10)
  obtain ⟨c1, i1, h1⟩ := u_known (C := "PausedFabric$Port") (T := zT_P) (N := 11) hT zin_P (hT _ zi_37)
  obtain ⟨c2, i2, h2⟩ := u_known (C := "PausedFabric$Flow") (T := zT_F) (N := 12) hT zin_F (hT _ zi_155)
  obtain ⟨c3, i3, h3⟩ := u_known (C := "PausedFabric$Frame") (T := zT_K) (N := 10) hT zin_K (hT _ zi_232)
  obtain ⟨c4, i4, h4⟩ := u_known (C := "PausedFabric$FrameQueue") (T := zT_Q) (N := 3) hT zin_Q (hT _ zi_44)
  obtain ⟨c5, i5, h5⟩ := u_known (C := "PausedFabricModel") (T := zT_M) (N := 28) hT zin_M (hT _ zi_428)
  obtain ⟨a0, k0, p0, f0, g0, e0⟩ := Cond.arrayClass_spec (hT _ zi_61)
  obtain ⟨a5, k5, p5, f5, g5, e5⟩ := Cond.arrayClass_spec (hT _ zi_521)
  obtain ⟨p1, a1, k1, x1, -, g1, e1, f1⟩ := Cond.arrayOver_spec (hts _ zj_21)
  obtain ⟨p2, a2, k2, x2, -, g2, e2, f2⟩ := Cond.arrayOver_spec (hts _ zj_108)
  obtain ⟨p3, a3, k3, x3, -, g3, e3, f3⟩ := Cond.arrayOver_spec (hts _ zj_110)
  obtain ⟨p4, a4, k4, x4, -, g4, e4, f4⟩ := Cond.arrayOver_spec (hts _ zj_43)
  refine ⟨(fun c => match c with | 0 => c0 | 1 => c1 | 2 => c2 | 3 => c3 | 4 => c4 | _ => c5, fun c => match c with | 0 => i0 | 1 => i1 | 2 => i2 | 3 => i3 | 4 => i4 | _ => i5), (fun c => match c with | 0 => a0 | 1 => a1 | 2 => a2 | 3 => a3 | 4 => a4 | _ => a5), fun c q hq => ?_, fun c q hq => ?_⟩
  · match c, hq with
    | 0, hq => cases hq; exact h0
    | 1, hq => cases hq; exact h1
    | 2, hq => cases hq; exact h2
    | 3, hq => cases hq; exact h3
    | 4, hq => cases hq; exact h4
    | 5, hq => cases hq; exact h5
  · match c, hq with
    | 0, hq => cases hq; exact ⟨fun N z => ⟨(fun k h => by cases h), k0, g0, p0, e0⟩, f0⟩
    | 1, hq => cases hq; exact ⟨fun N z => ⟨(fun k h => by cases h), k1, g1, p1, e1⟩, k1, p1, g1, e1, x1, f1⟩
    | 2, hq => cases hq; exact ⟨fun N z => ⟨(fun k h => by cases h), k2, g2, p2, e2⟩, k2, p2, g2, e2, x2, f2⟩
    | 3, hq => cases hq; exact ⟨fun N z => ⟨(fun k h => by cases h), k3, g3, p3, e3⟩, k3, p3, g3, e3, x3, f3⟩
    | 4, hq => cases hq; exact ⟨fun N z => ⟨(fun k h => by cases h), k4, g4, p4, e4⟩, k4, p4, g4, e4, x4, f4⟩
    | 5, hq => cases hq; exact ⟨fun N z => ⟨(fun k h => by cases h), k5, g5, p5, e5⟩, f5⟩
theorem lw_ao {s : State} {b : Nat} (hts : ∀ w ∈ lw_tbl, w.before #[Value.ref b] s = true) : va_AO "PausedFabric$Port" s ∧ va_AO "PausedFabric$FrameQueue" s ∧ va_AO "PausedFabric$Flow" s ∧ va_AO "PausedFabric$Frame" s ∧ va_Nw (.methodLinkNest "PausedFabric$Port" 9 zy_Q_init "PausedFabric") s := ⟨va_AO.of (hts _ zj_21), va_AO.of (hts _ zj_43), va_AO.of (hts _ zj_108), va_AO.of (hts _ zj_110), va_Nw.of rfl (hts _ zj_45)⟩
def lw_cell (L : Nat) (xs : Nat → Int32) (k : Int32) : Int32 := if Int32.ofNat L ≤ k then 0 else xs k.toNatClampNeg
set_option maxHeartbeats 4000000 in
set_option maxRecDepth 100000 in
theorem c_L_cell (l : Launch) (b L : Nat) (xs : Nat → Int32) (k : Int32) (hk : ¬ k < 0) (hL : L < 2 ^ 31) (sz : Nat) : Met l zy_L_cell (zw_L_cell :: lw_gd) { frames := 0, cells := 0, slots := 0, locals := 0 } (va_Pc [.ref b, .int k] (fun U => U.heap.size = sz ∧ b < sz ∧ va_X b L xs U U.heap)) (va_Qi (fun r (_ : Unit) => r = lw_cell L xs k) (fun _ _ => True) (fun q => sz ≤ q)) 0 0 (fun q => sz ≤ q) := by
  refine Met.ofW (cc := zb_L_cell) (maxL := 2) (ret := (some .int)) (by decide) rfl ?_
  intro p e s m args below meth c s₁ B hml hv
  obtain ⟨rfl, hsz, hbl, hX⟩ := hv
  have hx := B.exec
  have hb := B.bytes
  have hr := B.returns
  have hlocks := B.notSynchronized
  subst hsz
  have hS : va_S (fun q => s.heap.size ≤ q) s.heap s.heap [] := va_S.rf
  have hbA : ¬ s.heap.size ≤ b := by omega
  have hl := lv_entry ([.ref b, .int k]) (n := 2) (Nat.le_of_ble_eq_true rfl)
  rw [lg_entry_eq]
  generalize (lg_sl ([.ref b, .int k]) ++ List.replicate (2 - (lg_sl ([.ref b, .int k])).length) Slot.unset).toArray = ls at hl ⊢
  have hl : lv_has ls 2 [(0, .ref b), (1, .int k)] := hl
  refine lv_iload_n hx hb zd_L_cell_0 rfl (lv_at hl 1 rfl) ?_
  refine lv_aload_n hx hb zd_L_cell_1 rfl (lv_at hl 0 rfl) ?_
  refine va_slen (A := fun q => s.heap.size ≤ q) hx hb hX hbl hbA hS zd_L_cell_2 ?_
  refine lv_icmp_ge (tgt := 12) hx hb zd_L_cell_3 (by decide) (fun h1 => ?_) (fun h1 => ?_)
  · refine lv_iconst (v := 0) hx hb zd_L_cell_12 (by decide) ?_
    exact W.iret (v := 0) hx hb hr (fun t ht hW => ⟨⟨0, (), rfl, (if_pos h1).symm, trivial⟩, hS.F ht⟩) hS.2.2 zd_L_cell_13
  · refine lv_aload_n hx hb zd_L_cell_6 rfl (lv_at hl 0 rfl) ?_
    refine lv_iload_n hx hb zd_L_cell_7 rfl (lv_at hl 1 rfl) ?_
    refine va_sld (A := fun q => s.heap.size ≤ q) hx hb hX hbl hbA hS (fb_inI hk h1 rfl (Nat.le_refl _) hL) zd_L_cell_8 ?_
    refine lv_goto (tgt := 13) hx hb zd_L_cell_9 (by decide) ?_
    exact W.iret (v := xs k.toNatClampNeg) hx hb hr (fun t ht hW => ⟨⟨xs k.toNatClampNeg, (), rfl, (if_neg h1).symm, trivial⟩, hS.F ht⟩) hS.2.2 zd_L_cell_13
def fb_adM (b : Nat) (u : Nat → Nat) : Nat → Nat → Nat := fun k _ => if k = 0 then b else if k < 15 then u (k - 7) else u (k - 8)
theorem fb_wl_minit {cA : Nat → ClassId} {b : Nat} {u : Nat → Nat} {d x r k : Int32} : fb_wl (fb_cM cA) (fb_adM b u) (mf_st0 d x r k) fb_LM = [(b, .inr (5, [.int d, .int x, .int r, .int k, .int 0, .int 0, .int 0, .ref (u 0), .ref (u 1), .ref (u 2), .ref (u 3), .ref (u 4), .ref (u 5), .ref (u 6), .ref (u 7), .int 0, .ref (u 8), .ref (u 9), .ref (u 10), .ref (u 11), .ref (u 12), .ref (u 13), .ref (u 14), .ref (u 15), .ref (u 16), .ref (u 17), .ref (u 18), .ref (u 19)])), ((u 0), .inl (cA 0, 12, .inl (fun _ => 0))), ((u 1), .inl (cA 0, 12, .inl (fun _ => 0))), ((u 2), .inl (cA 0, 12, .inl (fun _ => 0))), ((u 3), .inl (cA 0, 12, .inl (fun _ => 0))), ((u 4), .inl (cA 0, 12, .inl (fun _ => 0))), ((u 5), .inl (cA 0, 12, .inl (fun _ => 0))), ((u 6), .inl (cA 0, 12, .inl (fun _ => 0))), ((u 7), .inl (cA 0, 12, .inl (fun _ => 0))), ((u 8), .inl (cA 0, 100, .inl (fun _ => 0))), ((u 9), .inl (cA 0, 100, .inl (fun _ => 0))), ((u 10), .inl (cA 0, 100, .inl (fun _ => 0))), ((u 11), .inl (cA 0, 100, .inl (fun _ => 0))), ((u 12), .inl (cA 0, 100, .inl (fun _ => 0))), ((u 13), .inl (cA 0, 100, .inl (fun _ => 0))), ((u 14), .inl (cA 5, 100, .inl (fun _ => 0))), ((u 15), .inl (cA 0, 196, .inl (fun _ => 0))), ((u 16), .inl (cA 0, 392, .inl (fun _ => 0))), ((u 17), .inl (cA 0, 2, .inl (upd (upd (fun _ => 0) (0 : Int32).toNatClampNeg 1) (1 : Int32).toNatClampNeg 1))), ((u 18), .inl (cA 5, 196, .inl (fun _ => 0))), ((u 19), .inl (cA 5, 1764, .inl (fun _ => 0)))] := by
  have hq : mf_st0 d x r k 25 = upd (upd (fun _ => 0) (0 : Int32).toNatClampNeg 1) (1 : Int32).toNatClampNeg 1 := by
    funext i
    show (if i < 2 then (1 : Int32) else 0) = _
    simp only [upd, fb_t0, fb_t1]
    by_cases e1 : i = 1
    · subst e1
      simp
    · by_cases e0 : i = 0
      · subst e0
        simp
      · rw [if_neg (by omega), if_neg e1, if_neg e0]
  unfold fb_wl fb_LM
  simp only [List.map_cons, List.map_nil, fb_cM, hq]
  rfl
theorem fb_okM0 {d x r k : Int32} (hd : 1 ≤ d ∧ d ≤ 8) (hx : 4 ≤ x ∧ x ≤ 40) (hr : 0 ≤ r ∧ r ≤ 40) (hk : 1 ≤ k ∧ k ≤ 40) : fb_okM 0 0 0 (mf_st0 d x r k) := by
  intro F i
  unfold fb_rM mf_st0
  split
  all_goals first
    | exact trivial
    | exact hd
    | exact hx
    | exact hr
    | exact hk
    | exact fun _ => rfl
    | exact Or.inl rfl
    | exact (by decide : (0 : Int32) ≤ 0 ∧ (0 : Int32) ≤ 7)
    | exact fun h => (show 1 ≤ (if i < 2 then (1 : Int32) else 0) ∧ (if i < 2 then (1 : Int32) else 0) ≤ 8 from by rw [if_pos h]; decide)
    | (intro h; omega)
    | exact ⟨vp_in_nI (n := 0) (by decide) (by decide), fun h => by omega⟩
theorem lw_and31 (x : Int32) : ∃ t : Nat, t < 32 ∧ x &&& 31 = nI t := by
  refine ⟨(x &&& 31).toBitVec.toNat, ?_, Int32.toBitVec_inj.mp (by show _ = BitVec.ofNat 32 _; simp)⟩
  rw [Int32.toBitVec_and, BitVec.toNat_and]
  exact Nat.lt_of_le_of_lt Nat.and_le_right (by decide)
theorem lw_inc (j : Nat) : nI (4 + 4 * j) + Int32.ofInt 4 = nI (4 + 4 * (j + 1)) := by
  rw [show Int32.ofInt 4 = nI 4 from rfl, nI_add]
  congr 1
theorem lw_in {j L t : Nat} (h : 4 + 4 * j + 4 ≤ L) (ht : t < 4) (hL : L < 2 ^ 31) : vp_in (nI (4 + 4 * j) + nI t) L := by
  rw [nI_add]
  exact vp_in_nI (by omega) hL
theorem lw_go {j L : Nat} (hj : j < (L - 4) / 4) (hL : L ≤ 2052) : ¬ Int32.ofNat L - 4 < nI (4 + 4 * j) := by
  rw [show Int32.ofNat L - 4 = nI (L - 4) from fb_sub (a := L) (b := 4) (by omega)]
  exact nI_nlt (by omega) (by omega)
theorem lw_stop {L : Nat} (hL : L ≤ 2052) : Int32.ofNat L - 4 < nI (4 + 4 * ((L - 4) / 4)) := by
  by_cases h : 4 ≤ L
  · rw [show Int32.ofNat L - 4 = nI (L - 4) from fb_sub (a := L) (b := 4) h]
    exact nI_lt (by omega) (by omega)
  · rcases (show L = 0 ∨ L = 1 ∨ L = 2 ∨ L = 3 by omega) with rfl | rfl | rfl | rfl <;> decide
theorem mf_T_le (T : Nat) (n : Int32) : mf_T T n ≤ T + 20 := by
  unfold mf_T
  split
  · omega
  · rename_i h1
    split
    · rename_i h2
      obtain ⟨t, ht, e⟩ := fb_to20 h1 h2
      rw [e, fb_nI (by omega)]
      omega
    · omega

