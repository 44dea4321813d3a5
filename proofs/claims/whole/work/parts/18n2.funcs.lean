/-! flow and inject of the class, exactly -/
def cf_injU (fr : Nat) (z n : Int32) (s : fb_S) : fb_S :=
  let s1 := cf_newK fr (s 5 0) z n s
  let s2 := fb_up s1 9 fr (nI fr)
  let s3 := fb_up s2 5 0 (s2 5 0 + 1)
  cf_enq fr s3
def cf_inj (fr : Nat) (f n : Int32) (s : fb_S) : fb_S := if cf_flowAt s f < 0 then s else if n < 1 then s else if 4 < n then s else if s 5 0 < 100 then cf_injU fr (cf_flowAt s f) n s else s
def cf_injA (s : fb_S) (f n : Int32) : Int32 := if cf_flowAt s f < 0 then -1 else if n < 1 then -1 else if 4 < n then -1 else if s 5 0 < 100 then s 5 0 else -1
def cf_frC (s : fb_S) (fr : Nat) (f n : Int32) : Nat := if cf_flowAt s f < 0 then fr else if n < 1 then fr else if 4 < n then fr else if s 5 0 < 100 then fr + 1 else fr
def cf_flowU (fl : Nat) (u v q : Int32) (s : fb_S) : fb_S :=
  let s1 := cf_newF fl q (nI (cf_rtN u v)) (cf_rt s (s 4 0) u v 0) (cf_rt s (s 4 0) u v 1) (cf_rt s (s 4 0) u v 2) (cf_rt s (s 4 0) u v 3) s
  let s2 := fb_up s1 8 fl (nI fl)
  fb_up s2 4 0 (s2 4 0 + 1)
def cf_flow (fl : Nat) (u v q : Int32) (s : fb_S) : fb_S := if cf_host u = true then (if cf_host v = true then (if u = v then s else if cf_prio q = true then (if s 4 0 < 12 then cf_flowU fl u v q s else s) else s) else s) else s
def cf_flowA (s : fb_S) (u v q : Int32) : Int32 := if cf_host u = true then (if cf_host v = true then (if u = v then -1 else if cf_prio q = true then (if s 4 0 < 12 then s 4 0 else -1) else -1) else -1) else -1
def cf_flC (s : fb_S) (fl : Nat) (u v q : Int32) : Nat := if cf_host u = true then (if cf_host v = true then (if u = v then fl else if cf_prio q = true then (if s 4 0 < 12 then fl + 1 else fl) else fl) else fl) else fl
theorem rg_rt {s : fb_S} (num u v : Int32) (j : Nat) : fb_rg 32 (cf_rt s num u v j) := by
  unfold cf_rt
  repeat' split
  all_goals first | exact Or.inl rfl | exact rg_pb _ _ 32 0 rfl
theorem cf_rt4 {s : fb_S} (num u v : Int32) (j : Nat) (h : 4 ≤ j) : cf_rt s num u v j = -1 := by
  unfold cf_rt
  split
  · rw [if_neg (by omega), if_neg (by omega)]
  · rw [if_neg (by omega), if_neg (by omega), if_neg (by omega), if_neg (by omega)]
theorem cf_rtN24 (u v : Int32) : cf_rtN u v = 2 ∨ cf_rtN u v = 4 := by
  unfold cf_rtN
  split
  · exact Or.inl rfl
  · exact Or.inr rfl
theorem fb_prio01 {q : Int32} (h : cf_prio q = true) : q = 0 ∨ q = 1 := by
  obtain ⟨j, hj, rfl⟩ := vp_in_of (fb_prio h) (by decide)
  rcases (by omega : j = 0 ∨ j = 1) with rfl | rfl
  · exact Or.inl rfl
  · exact Or.inr rfl
