/-! stores: a side's numbers as one function (field, index) -/
abbrev fb_S : Type := Nat → Nat → Int32
def fb_up (s : fb_S) (F i : Nat) (v : Int32) : fb_S := fun G j => if G = F ∧ j = i then v else s G j
/-- f (n-1) (.. (f 1 (f 0 s))) -/
def fb_it {α : Type} (f : Nat → α → α) : Nat → α → α
  | 0, s => s
  | n + 1, s => f n (fb_it f n s)
abbrev fb_n (z : Int32) : Nat := z.toNatClampNeg
def fb_b (c : Bool) : Int32 := if c = true then 1 else 0
theorem fb_b_t : fb_b true = 1 := rfl
theorem fb_b_f : fb_b false = 0 := rfl
theorem fb_b0 {c : Bool} (h : fb_b c = 0) : ¬ c = true := by
  intro hc
  rw [hc] at h
  exact absurd h (by decide)
theorem fb_b1 {c : Bool} (h : ¬ fb_b c = 0) : c = true := by
  cases c with
  | true => rfl
  | false => exact absurd rfl h
theorem fb_b01 (c : Bool) : fb_b c = 0 ∨ fb_b c = 1 := by
  cases c
  · exact Or.inl rfl
  · exact Or.inr rfl
theorem fb_up_same (s : fb_S) (F i : Nat) (v : Int32) : fb_up s F i v F i = v := by simp [fb_up]
theorem fb_up_F (s : fb_S) {F G : Nat} (i j : Nat) (v : Int32) (h : G ≠ F) : fb_up s F i v G j = s G j := by simp [fb_up, h]
theorem fb_up_i (s : fb_S) (F G : Nat) {i j : Nat} (v : Int32) (h : j ≠ i) : fb_up s F i v G j = s G j := by simp [fb_up, h]
theorem fb_up_row (s : fb_S) (F i : Nat) (v : Int32) : fb_up s F i v F = upd (s F) i v := by
  funext j
  simp [fb_up, upd]
/-- a reference in a store: negative is null -/
def fb_ro (a : Nat → Nat) (z : Int32) : Option Nat := if z < 0 then none else some (a (fb_n z))
theorem fb_ro_n {a : Nat → Nat} {z : Int32} (h : z < 0) : fb_ro a z = none := if_pos h
theorem fb_ro_s {a : Nat → Nat} {z : Int32} (h : ¬ z < 0) : fb_ro a z = some (a (fb_n z)) := if_neg h
theorem fb_ro_k {a : Nat → Nat} {k : Nat} (h : k < 2 ^ 31) : fb_ro a (nI k) = some (a k) := by
  rw [fb_ro_s (nI_pos h)]
  exact congrArg (fun q => some (a q)) (nI_clamp h)
theorem fb_m1 : (-1 : Int32) < 0 := by decide
theorem fb_nI {k : Nat} (h : k < 2 ^ 31) : fb_n (nI k) = k := nI_clamp h
/-- where a reference field may point -/
def fb_rg (n : Nat) (v : Int32) : Prop := v = -1 ∨ vp_in v n
theorem fb_rl {n : Nat} {v : Int32} (h : fb_rg n v) (hv : ¬ v < 0) : fb_n v < n := by
  rcases h with rfl | h
  · exact absurd fb_m1 hv
  · exact Nat.lt_of_not_le (fun q => h (Or.inr q))
theorem fb_rk {n k : Nat} (h : k < n) (hn : n < 2 ^ 31) : fb_rg n (nI k) := Or.inr (vp_in_nI h hn)
theorem fb_vl {n : Nat} {v : Int32} (h : vp_in v n) : fb_n v < n := Nat.lt_of_not_le (fun q => h (Or.inr q))
theorem fb_vp {n : Nat} {v : Int32} (h : vp_in v n) : ¬ v < 0 := fun q => h (Or.inl q)
theorem fb_v0 : vp_in 0 2 := by unfold vp_in; decide
theorem fb_v1 : vp_in 1 2 := by unfold vp_in; decide
theorem fb_v01 {v : Int32} (h : v = 0 ∨ v = 1) : vp_in v 2 := by
  rcases h with rfl | rfl
  · exact fb_v0
  · exact fb_v1
theorem fb_o01 {v : Int32} (h : v = 0 ∨ v = 1) : 1 - v = 0 ∨ 1 - v = 1 := by
  rcases h with rfl | rfl
  · exact Or.inr (by decide)
  · exact Or.inl (by decide)
theorem fb_nz {v : Int32} (h : v = 0 ∨ v = 1) : narrow .boolean (.int v) = .int v := by
  rcases h with rfl | rfl <;> rfl
theorem fb_fz {v : Int32} (h : v = 0 ∨ v = 1) : fits .boolean (.int v) = true := by
  rcases h with rfl | rfl <;> rfl
theorem fb_vz {v : Int32} (h : v = 0 ∨ v = 1) : vp_nar .boolean v = v := by
  rcases h with rfl | rfl <;> rfl
/-- a counter against its bound -/
theorem fb_lge {i n : Nat} {z : Int32} (hz : z = nI n) (h : i < n) (hn : n < 2 ^ 31) : ¬ z ≤ nI i := by
  rw [hz]
  exact nI_ge h hn
theorem fb_lle {n : Nat} {z : Int32} (hz : z = nI n) (hn : n < 2 ^ 31) : z ≤ nI n := by
  rw [hz]
  exact nI_le (Nat.le_refl n) hn
/-- an int between 0 and a count -/
theorem fb_inI {f z : Int32} {n N : Nat} (h0 : ¬ f < 0) (h1 : ¬ z ≤ f) (hz : z = nI n) (hn : n ≤ N) (hN : N < 2 ^ 31) : vp_in f N := by
  obtain ⟨j, hj, rfl⟩ := nI_of h0
  rw [hz] at h1
  have : ¬ n ≤ j := fun q => h1 (nI_le q hj)
  exact vp_in_nI (by omega) hN
theorem fb_inI' {f z : Int32} {n : Nat} (h0 : ¬ f < 0) (h1 : ¬ z ≤ f) (hz : z = nI n) (hn : n < 2 ^ 31) : fb_n f < n := fb_vl (fb_inI h0 h1 hz (Nat.le_refl n) hn)
theorem fb_rfc (r : Option Nat) : va_rf r = .null ∨ ∃ a, va_rf r = .ref a := by
  cases r with
  | none => exact Or.inl rfl
  | some a => exact Or.inr ⟨a, rfl⟩
theorem fb_it_0 {α : Type} (f : Nat → α → α) (s : α) : fb_it f 0 s = s := rfl
theorem fb_it_s {α : Type} (f : Nat → α → α) (n : Nat) (s : α) : fb_it f (n + 1) s = f n (fb_it f n s) := rfl
