/-! worlds side by side -/
theorem fb_Pl {D : va_G} {cl : List vw_C} {a b : va_W} {H : Heap} (h : va_P D cl (a ++ b) H) : va_P D cl a H := fun k q hk => h k q (by rw [List.getElem?_append_left (List.getElem?_eq_some_iff.mp hk).1]; exact hk)
theorem fb_Pr {D : va_G} {cl : List vw_C} {a b : va_W} {H : Heap} (h : va_P D cl (a ++ b) H) : va_P D cl b H := fun k q hk => h (a.length + k) q (by rw [List.getElem?_append_right (by omega), Nat.add_sub_cancel_left]; exact hk)
theorem fb_Dl {A : Nat → Prop} {a b : va_W} (h : va_D A (a ++ b)) : va_D A a := by
  have up : ∀ (k : Nat) (q : Nat × va_E), a[k]? = some q → (a ++ b)[k]? = some q := fun k q hk => by
    rw [List.getElem?_append_left (List.getElem?_eq_some_iff.mp hk).1]; exact hk
  exact ⟨fun i j p q hi hj e => h.1 i j p q (up i p hi) (up j q hj) e, fun k q hk => h.2 k q (up k q hk)⟩
theorem fb_Dr {A : Nat → Prop} {a b : va_W} (h : va_D A (a ++ b)) : va_D A b := by
  have up : ∀ (k : Nat) (q : Nat × va_E), b[k]? = some q → (a ++ b)[a.length + k]? = some q := fun k q hk => by
    rw [List.getElem?_append_right (by omega), Nat.add_sub_cancel_left]; exact hk
  exact ⟨fun i j p q hi hj e => by have := h.1 _ _ p q (up i p hi) (up j q hj) e; omega, fun k q hk => h.2 _ q (up k q hk)⟩
/-- no address of the one is an address of the other -/
theorem fb_Dn {A : Nat → Prop} {a b : va_W} (h : va_D A (a ++ b)) {i j : Nat} {p q : Nat × va_E} (hi : a[i]? = some p) (hj : b[j]? = some q) : p.1 ≠ q.1 := by
  intro e
  have hl := (List.getElem?_eq_some_iff.mp hi).1
  have h1 : (a ++ b)[i]? = some p := by rw [List.getElem?_append_left hl]; exact hi
  have h2 : (a ++ b)[a.length + j]? = some q := by rw [List.getElem?_append_right (by omega), Nat.add_sub_cancel_left]; exact hj
  have := h.1 _ _ p q h1 h2 e
  omega
theorem fb_Dapp {A : Nat → Prop} {a b : va_W} (ha : va_D A a) (hb : va_D A b) (hn : ∀ (i j : Nat) (p q : Nat × va_E), a[i]? = some p → b[j]? = some q → p.1 ≠ q.1) : va_D A (a ++ b) := by
  have cs : ∀ (k : Nat) (q : Nat × va_E), (a ++ b)[k]? = some q → (k < a.length ∧ a[k]? = some q) ∨ (a.length ≤ k ∧ b[k - a.length]? = some q) := fun k q hk => by
    by_cases hl : k < a.length
    · rw [List.getElem?_append_left hl] at hk; exact Or.inl ⟨hl, hk⟩
    · rw [List.getElem?_append_right (by omega)] at hk; exact Or.inr ⟨by omega, hk⟩
  refine ⟨fun i j p q hi hj e => ?_, fun k q hk => ?_⟩
  · rcases cs i p hi with ⟨i1, i2⟩ | ⟨i1, i2⟩ <;> rcases cs j q hj with ⟨j1, j2⟩ | ⟨j1, j2⟩
    · exact ha.1 i j p q i2 j2 e
    · exact absurd e (hn _ _ p q i2 j2)
    · exact absurd e.symm (hn _ _ q p j2 i2)
    · have := hb.1 _ _ p q i2 j2 e
      omega
  · rcases cs k q hk with ⟨_, k2⟩ | ⟨_, k2⟩
    · exact ha.2 _ q k2
    · exact hb.2 _ q k2
theorem fb_Papp {D : va_G} {cl : List vw_C} {a b : va_W} {H : Heap} (ha : va_P D cl a H) (hb : va_P D cl b H) : va_P D cl (a ++ b) H := fun k q hk => by
  by_cases hl : k < a.length
  · rw [List.getElem?_append_left hl] at hk; exact ha k q hk
  · rw [List.getElem?_append_right (by omega)] at hk; exact hb _ q hk
/-- behind a call that worked on wc: the rest is as it was -/
theorem fb_join {A B : Nat → Prop} {D : va_G} {cl : List vw_C} {wr wc w1 : va_W} {H H1 : Heap} (hP : va_P D cl (wr ++ wc) H) (hD : va_D A (wr ++ wc)) (hF : ∀ q, B q → A q) (hB : ∀ q, B q → (∃ (k : Nat) (x : va_E), wc[k]? = some (q, x)) ∨ H.size ≤ q)
    (hk : ∀ q : Nat, q < H.size → ¬ B q → H1[q]? = H[q]?) (hP1 : va_P D cl w1 H1) (hD1 : va_D B w1) : va_P D cl (wr ++ w1) H1 ∧ va_D A (wr ++ w1) := by
  have hPr := fb_Pl hP
  have hnB : ∀ (k : Nat) (x : Nat × va_E), wr[k]? = some x → ¬ B x.1 := fun k x hx hb => by
    rcases hB x.1 hb with ⟨k', e', h'⟩ | h'
    · exact fb_Dn hD hx h' rfl
    · have := (hPr k x hx).lt
      omega
  have hPr1 : va_P D cl wr H1 := hPr.kept (fun k x hx => hk x.1 ((hPr k x hx).lt) (hnB k x hx))
  refine ⟨fb_Papp hPr1 hP1, fb_Dapp (fb_Dl hD) (hD1.weaken (fun _ _ _ h => hF _ h)) (fun i j p q hi hj e => ?_)⟩
  exact hnB i p hi (e ▸ hD1.2 j q hj)
theorem fb_Bof {ad : Nat → Nat → Nat} {LL : fb_L} {cn : fb_C} {st : fb_S} {sz : Nat} : ∀ q, fb_A ad LL sz q → (∃ (k : Nat) (x : va_E), (fb_wl cn ad st LL)[k]? = some (q, x)) ∨ sz ≤ q := by
  rintro q (⟨x, hx, rfl⟩ | h)
  · obtain ⟨q0, -, h0⟩ := fb_get (cn := cn) (ad := ad) (st := st) (LL := LL) (k := x.1) (i := x.2) hx
    exact Or.inl ⟨q0, _, h0⟩
  · exact Or.inr h
