/-! Pure: how the walks of the pieces fill two rows: the piece at an end, and whether its walk comes in (u) or goes out (v) there. -/
def PL (n : Nat) (m : Nat → Nat) (pa ci : Nat → Int32) (u v : Int32) : Prop := ∀ x, x < 4 * n → (∀ y, y < 4 * n → pmn n m y → pcl m y x → pa x = nI (ct (pmn n m) y)) ∧ (inn n m x → ci x = u) ∧ (¬ inn n m x → ci x = v)
def PJ (n : Nat) (m : Nat → Nat) (pa ci : Nat → Int32) (u v : Int32) (j : Nat) : Prop := ∀ x, x < 4 * n → ((¬ ∃ y, y < j ∧ pcl m y x) → pa x = m1) ∧ (∀ y, y < j → pmn n m y → pcl m y x → pa x = nI (ct (pmn n m) y)) ∧ (∀ y, y < j → pmn n m y → ob (tu m) y x → ci x = v) ∧ (∀ y, y < j → pmn n m y → ob (tu m) y (m x) → ci x = u)
def PI (n : Nat) (m : Nat → Nat) (pa0 ci0 pa ci : Nat → Int32) (u v : Int32) (j r i : Nat) : Prop := ∀ x, x < 4 * n → ((∃ i', i' < i ∧ it (tu m) i' j = x) → pa x = nI r ∧ ci x = v) ∧ ((∃ i', i' < i ∧ m (it (tu m) i' j) = x) → pa x = nI r ∧ ci x = u) ∧ ((¬ ∃ i', i' < i ∧ (it (tu m) i' j = x ∨ m (it (tu m) i' j) = x)) → pa x = pa0 x ∧ ci x = ci0 x)
section PW
variable {n : Nat} {A m : Nat → Nat} {pa0 ci0 pa ci : Nat → Int32} {u v : Int32} {j r i p : Nat}
theorem PI_0 : PI n m pa0 ci0 pa0 ci0 u v j r 0 := fun x _ => ⟨fun ⟨i', a, _⟩ => absurd a (Nat.not_lt_zero i'), fun ⟨i', a, _⟩ => absurd a (Nat.not_lt_zero i'), fun _ => ⟨rfl, rfl⟩⟩
theorem PI_s (P : Pr n A m) (hj : j < 4 * n) (x0 : PI n m pa0 ci0 pa ci u v j r i) : PI n m pa0 ci0 (u1 (u1 pa (it (tu m) i j) (nI r)) (m (it (tu m) i j)) (nI r)) (u1 (u1 ci (it (tu m) i j) v) (m (it (tu m) i j)) u) u v j r (i + 1) := by
  have hf := it_lt (tuP P) hj i
  have hne := P.ne hf
  intro x hx
  have no : ∀ i1 i2, it (tu m) i1 j ≠ m (it (tu m) i2 j) := fun i1 i2 w => by
    have hb := it_lt (tuP P) hj i2
    exact ob_not P hj (x := it (tu m) i2 j) ⟨i2, rfl⟩ ⟨i1, w⟩
  unfold u1
  refine ⟨?_, ?_, ?_⟩
  · rintro ⟨i', a, w⟩
    have n1 : x ≠ m (it (tu m) i j) := fun z => no i' i (w.trans z)
    rw [if_neg n1, if_neg n1]
    by_cases e : x = it (tu m) i j
    · rw [if_pos e, if_pos e]
      exact ⟨rfl, rfl⟩
    · rw [if_neg e, if_neg e]
      have : i' ≠ i := fun z => e (by rw [← w, z])
      exact (x0 x hx).1 ⟨i', by omega, w⟩
  · rintro ⟨i', a, w⟩
    by_cases e : x = m (it (tu m) i j)
    · rw [if_pos e, if_pos e]
      exact ⟨rfl, rfl⟩
    · have n1 : x ≠ it (tu m) i j := fun z => no i i' (z.symm.trans w.symm)
      rw [if_neg e, if_neg e, if_neg n1, if_neg n1]
      have : i' ≠ i := fun z => e (by rw [← w, z])
      exact (x0 x hx).2.1 ⟨i', by omega, w⟩
  · intro z
    have n1 : x ≠ m (it (tu m) i j) := fun w => z ⟨i, by omega, Or.inr w.symm⟩
    have n2 : x ≠ it (tu m) i j := fun w => z ⟨i, by omega, Or.inl w.symm⟩
    rw [if_neg n1, if_neg n1, if_neg n2, if_neg n2]
    exact (x0 x hx).2.2 (fun ⟨i', a, w⟩ => z ⟨i', by omega, w⟩)
theorem PI_f (P : Pr n A m) (hj : j < 4 * n) (hm : pmn n m j) (hp : isP (tu m) j p) (hi : i < p) (y0 : PJ n m pa0 ci0 u v j) (x0 : PI n m pa0 ci0 pa ci u v j r i) : pa (it (tu m) i j) = m1 := by
  have hf := it_lt (tuP P) hj i
  rw [((x0 _ hf).2.2 ?_).1]
  · refine (y0 _ hf).1 ?_
    rintro ⟨y, hy, o⟩
    have o2 := pcl_trans P (by omega) hf hj o (Or.inl (ob_symm (tuP P) hj ⟨i, rfl⟩))
    exact (pmn_iff P hj).mp hm ⟨y, hy, o2⟩
  · rintro ⟨i', a, w | w⟩
    · exact isP_ne (tuP P) hj hp a hi w
    · exact ob_not P hj (x := it (tu m) i' j) ⟨i', rfl⟩ ⟨i, w.symm⟩
theorem PI_e (hj : j < 4 * n) (hp : isP (tu m) j p) (x0 : PI n m pa0 ci0 pa ci u v j r p) : pa j = nI r := ((x0 j hj).1 ⟨0, hp.1, rfl⟩).1
theorem PJ_s (P : Pr n A m) (hj : j < 4 * n) (hm : pmn n m j) (hp : isP (tu m) j p) (y0 : PJ n m pa0 ci0 u v j) (x0 : PI n m pa0 ci0 pa ci u v j (ct (pmn n m) j) p) : PJ n m pa ci u v (j + 1) := by
  intro x hx
  have h1 : ob (tu m) j x ↔ ∃ i', i' < p ∧ it (tu m) i' j = x := ob_p hp
  have h2 : ob (tu m) j (m x) ↔ ∃ i', i' < p ∧ m (it (tu m) i' j) = x := by
    rw [ob_p hp]
    constructor
    · rintro ⟨i', a, w⟩; exact ⟨i', a, by rw [w, P.mm hx]⟩
    · rintro ⟨i', a, w⟩; exact ⟨i', a, by rw [← w, P.mm (it_lt (tuP P) hj i')]⟩
  have hno : ∀ y, y < j → pcl m y x → ¬ pcl m j x := fun y hy o w => (pmn_iff P hj).mp hm ⟨y, hy, pcl_trans P (by omega) hx hj o (pcl_symm P hj hx w)⟩
  have hold : ∀ y, y < j → pcl m y x → pa x = pa0 x ∧ ci x = ci0 x := fun y hy o => by
    have w := hno y hy o
    refine (x0 x hx).2.2 ?_
    rintro ⟨i', a, z | z⟩
    · exact w (Or.inl (h1.mpr ⟨i', a, z⟩))
    · exact w (Or.inr (h2.mpr ⟨i', a, z⟩))
  refine ⟨fun w => ?_, fun y hy py o => ?_, fun y hy py o => ?_, fun y hy py o => ?_⟩
  · rw [((x0 x hx).2.2 ?_).1]
    · exact (y0 x hx).1 (fun ⟨y, hy, o⟩ => w ⟨y, by omega, o⟩)
    · rintro ⟨i', a, z | z⟩
      · exact w ⟨j, by omega, Or.inl (h1.mpr ⟨i', a, z⟩)⟩
      · exact w ⟨j, by omega, Or.inr (h2.mpr ⟨i', a, z⟩)⟩
  · by_cases e : y = j
    · subst e
      rcases o with o | o
      · exact ((x0 x hx).1 (h1.mp o)).1
      · exact ((x0 x hx).2.1 (h2.mp o)).1
    · rw [(hold y (by omega) o).1]
      exact (y0 x hx).2.1 y (by omega) py o
  · by_cases e : y = j
    · subst e
      exact ((x0 x hx).1 (h1.mp o)).2
    · rw [(hold y (by omega) (Or.inl o)).2]
      exact (y0 x hx).2.2.1 y (by omega) py o
  · by_cases e : y = j
    · subst e
      exact ((x0 x hx).2.1 (h2.mp o)).2
    · rw [(hold y (by omega) (Or.inr o)).2]
      exact (y0 x hx).2.2.2 y (by omega) py o
theorem PJ_k (P : Pr n A m) (hj : j < 4 * n) (hm : ¬ pmn n m j) (y0 : PJ n m pa ci u v j) : PJ n m pa ci u v (j + 1) := by
  intro x hx
  refine ⟨fun w => (y0 x hx).1 (fun ⟨y, hy, o⟩ => w ⟨y, by omega, o⟩), fun y hy py o => ?_, fun y hy py o => ?_, fun y hy py o => ?_⟩
  · exact (y0 x hx).2.1 y (by have : y ≠ j := fun e => hm (e ▸ py); omega) py o
  · exact (y0 x hx).2.2.1 y (by have : y ≠ j := fun e => hm (e ▸ py); omega) py o
  · exact (y0 x hx).2.2.2 y (by have : y ≠ j := fun e => hm (e ▸ py); omega) py o
/-- an end that is no first one has its number already -/
theorem PJ_n (P : Pr n A m) (hj : j < 4 * n) (hm : ¬ pmn n m j) (y0 : PJ n m pa ci u v j) : ∃ r, r ≤ j ∧ pa j = nI r := by
  obtain ⟨y, hy, py, o⟩ := pmn_ex P hj
  have : y ≠ j := fun e => hm (e ▸ py)
  refine ⟨ct (pmn n m) y, ?_, (y0 j hj).2.1 y (by omega) py o⟩
  have := ct_le (pmn n m) y
  omega
theorem PJ_y (P : Pr n A m) (hj : j < 4 * n) (hm : pmn n m j) (y0 : PJ n m pa ci u v j) : pa j = m1 := (y0 j hj).1 ((pmn_iff P hj).mp hm)
theorem PJ_e (P : Pr n A m) (y0 : PJ n m pa ci u v (4 * n)) : PL n m pa ci u v := by
  intro x hx
  refine ⟨fun y hy py o => (y0 x hx).2.1 y hy py o, fun ⟨y, hy, py, o⟩ => (y0 x hx).2.2.2 y hy py o, fun w => ?_⟩
  obtain ⟨y, hy, py, o⟩ := (inn_not P hx).mp w
  exact (y0 x hx).2.2.1 y hy py o
end PW
