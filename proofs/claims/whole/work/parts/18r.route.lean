/-! the route's array -/
theorem fb_t0 : (0 : Int32).toNatClampNeg = 0 := rfl
theorem fb_t1 : (1 : Int32).toNatClampNeg = 1 := rfl
theorem fb_t2 : (2 : Int32).toNatClampNeg = 2 := rfl
theorem fb_t3 : (3 : Int32).toNatClampNeg = 3 := rfl
theorem fb_rtF2 {a : Nat → Nat} {st : fb_S} {num u v : Int32} (h : cf_leaf u = cf_leaf v) : va_up (va_up (fun _ => none) (0 : Int32).toNatClampNeg (fb_ro a (cf_pb st u (cf_leaf u) 32 0))) (1 : Int32).toNatClampNeg (fb_ro a (cf_pb st (cf_leaf u) v 32 0)) = (fun j => fb_ro a (cf_rt st num u v j)) := by
  funext j
  simp only [va_up, fb_t0, fb_t1, cf_rt, if_pos h]
  by_cases h1 : j = 1
  · subst h1
    simp
  · by_cases h0 : j = 0
    · subst h0
      simp
    · simp only [if_neg h1, if_neg h0, fb_ro_n fb_m1]
theorem fb_rtF4 {a : Nat → Nat} {st : fb_S} {num u v : Int32} (h : ¬ cf_leaf u = cf_leaf v) : va_up (va_up (va_up (va_up (fun _ => none) (0 : Int32).toNatClampNeg (fb_ro a (cf_pb st u (cf_leaf u) 32 0))) (1 : Int32).toNatClampNeg (fb_ro a (cf_pb st (cf_leaf u) (12 + (cf_bits num - cf_bits num / 2 * 2)) 32 0))) (2 : Int32).toNatClampNeg (fb_ro a (cf_pb st (12 + (cf_bits num - cf_bits num / 2 * 2)) (cf_leaf v) 32 0))) (3 : Int32).toNatClampNeg (fb_ro a (cf_pb st (cf_leaf v) v 32 0)) = (fun j => fb_ro a (cf_rt st num u v j)) := by
  funext j
  simp only [va_up, fb_t0, fb_t1, fb_t2, fb_t3, cf_rt, if_neg h]
  by_cases h3 : j = 3
  · subst h3
    simp
  · by_cases h2 : j = 2
    · subst h2
      simp
    · by_cases h1 : j = 1
      · subst h1
        simp
      · by_cases h0 : j = 0
        · subst h0
          simp
        · simp only [if_neg h3, if_neg h2, if_neg h1, if_neg h0, fb_ro_n fb_m1]
