/-! still to be proved -/
theorem co_flow {fl fr T : Nat} {s m : fb_S} (h : CO fl fr T s m) (u v q : Int32) : cf_flowA s u v q = mf_flowA m u v q ∧ cf_flC s fl u v q = mf_flC m fl u v q ∧ CP (cf_flC s fl u v q) fr T (cf_flow fl u v q s) (mf_flow fl u v q m) := by
  sorry
theorem co_inject {fl fr T : Nat} {s m : fb_S} (h : CO fl fr T s m) (f n : Int32) : cf_injA s f n = mf_injA m f n ∧ cf_frC s fr f n = mf_frC m fr f n ∧ CP fl (cf_frC s fr f n) T (cf_inj fr f n s) (mf_inj fr f n m) := by
  sorry
theorem co_tick {fl fr T : Nat} {s m : fb_S} (h : CO fl fr T s m) (n : Int32) : cf_tickA fl n s = mf_tickA fl fr n m ∧ CP fl fr (mf_T T n) (cf_tickS fl n s) (mf_tickS fl fr n m) := by
  sorry
