/-! Pure: pieces (walks straight on), which ends come in, signs. -/
def tu (m : Nat → Nat) (e : Nat) : Nat := cn (m e) 2
/-- y is of the piece of x -/
def pcl (m : Nat → Nat) (x y : Nat) : Prop := ob (tu m) x y ∨ ob (tu m) x (m y)
def pmn (n : Nat) (m : Nat → Nat) (e : Nat) : Prop := ∀ f, f < 4 * n → pcl m e f → e ≤ f
/-- the walk of its piece comes in by e -/
def inn (n : Nat) (m : Nat → Nat) (e : Nat) : Prop := ∃ y, y < 4 * n ∧ pmn n m y ∧ ob (tu m) y (m e)
noncomputable def nQ (n : Nat) (m : Nat → Nat) : Nat := ct (pmn n m) (4 * n)
noncomputable def sgn (n : Nat) (m : Nat → Nat) (c : Nat) : Int32 := @ite Int32 (inn n m (4 * c) ↔ inn n m (4 * c + 3)) (Classical.propDecidable _) (nI 1) m1
noncomputable def wr (n : Nat) (m : Nat → Nat) : Nat → Int32
  | 0 => nI 0
  | c + 1 => wr n m c + sgn n m c
section PIECE
variable {n : Nat} {A m : Nat → Nat}
theorem tuP (P : Pr n A m) : pmt (tu m) (4 * n) := P.pmt 2
theorem tu_lt (P : Pr n A m) {e : Nat} (he : e < 4 * n) : tu m e < 4 * n := (tuP P).1 e he
theorem tu_m (P : Pr n A m) {e : Nat} (he : e < 4 * n) : tu m (m (tu m e)) = m e := by
  have h : m (m (tu m e)) = tu m e := P.mm (tu_lt P he)
  show cn (m (m (tu m e))) 2 = m e
  rw [h]
  exact cn_22 _
theorem tu_mm (P : Pr n A m) {e : Nat} (he : e < 4 * n) : tu m (m e) = cn e 2 := by
  show cn (m (m e)) 2 = _
  rw [P.mm he]
theorem it_m (P : Pr n A m) {e : Nat} (he : e < 4 * n) (k : Nat) : it (tu m) k (m (it (tu m) k e)) = m e := by
  induction k with
  | zero => rfl
  | succ k ih =>
    rw [it_s (tu m) k e]
    show it (tu m) k (tu m (m (tu m (it (tu m) k e)))) = m e
    rw [tu_m P (it_lt (tuP P) he k)]
    exact ih
theorem ob_mm (P : Pr n A m) {x y : Nat} (hx : x < 4 * n) (o : ob (tu m) x y) : ob (tu m) (m y) (m x) := by
  obtain ⟨k, hk⟩ := o
  exact ⟨k, by rw [← hk]; exact it_m P hx k⟩
theorem ob_m (P : Pr n A m) {x y : Nat} (hx : x < 4 * n) (hy : y < 4 * n) (o : ob (tu m) x (m y)) : ob (tu m) y (m x) := by
  have := ob_mm P hx o
  rw [P.mm hy] at this
  exact this
theorem ob_no (P : Pr n A m) {x : Nat} (hx : x < 4 * n) : ¬ ob (tu m) x (m x) := by
  rintro ⟨t, ht⟩
  rcases Nat.mod_two_eq_zero_or_one t with p | p
  · obtain ⟨u, hu⟩ : ∃ u, t = u + u := ⟨t / 2, by omega⟩
    rw [hu, it_add] at ht
    have h1 := it_m P (it_lt (tuP P) hx u) u
    rw [ht, P.mm hx] at h1
    exact P.ne (it_lt (tuP P) hx u) h1.symm
  · obtain ⟨u, hu⟩ : ∃ u, t = u + 1 + u := ⟨t / 2, by omega⟩
    rw [hu, it_add] at ht
    have h1 := it_m P (it_lt (tuP P) hx (u + 1)) u
    rw [ht, P.mm hx, it_s] at h1
    have hz := it_lt (tuP P) hx u
    have h2 : m (it (tu m) u x) = tu m (it (tu m) u x) := by
      have h3 := P.mm (tu_lt P hz)
      rw [← h1] at h3
      exact h3
    exact cn_ne (e := m (it (tu m) u x)) (k := 2) (by decide) h2.symm
theorem ob_not (P : Pr n A m) {y x : Nat} (hy : y < 4 * n) (o : ob (tu m) y x) : ¬ ob (tu m) y (m x) := fun w => ob_no P (ob_lt (tuP P) hy o) (ob_trans (ob_symm (tuP P) hy o) w)
theorem pcl_refl (x : Nat) : pcl m x x := Or.inl (ob_refl x)
theorem pcl_symm (P : Pr n A m) {x y : Nat} (hx : x < 4 * n) (hy : y < 4 * n) (o : pcl m x y) : pcl m y x := by
  rcases o with o | o
  · exact Or.inl (ob_symm (tuP P) hx o)
  · exact Or.inr (ob_m P hx hy o)
theorem pcl_trans (P : Pr n A m) {x y z : Nat} (hx : x < 4 * n) (hy : y < 4 * n) (hz : z < 4 * n) (o : pcl m x y) (w : pcl m y z) : pcl m x z := by
  rcases o with o | o
  · rcases w with w | w
    · exact Or.inl (ob_trans o w)
    · exact Or.inr (ob_trans o w)
  · rcases w with w | w
    · exact Or.inr (ob_trans o (ob_symm (tuP P) (P.lt hz) (ob_mm P hy w)))
    · have h1 := ob_m P hy hz w
      have h2 := ob_symm (tuP P) hz h1
      exact Or.inl (ob_trans o h2)
theorem pcl_m (P : Pr n A m) {x y : Nat} (hy : y < 4 * n) : pcl m x (m y) ↔ pcl m x y := by
  unfold pcl
  rw [P.mm hy]
  exact ⟨fun o => o.symm, fun o => o.symm⟩
theorem pmn_ex (P : Pr n A m) {e : Nat} (he : e < 4 * n) : ∃ y, y ≤ e ∧ pmn n m y ∧ pcl m y e := by
  obtain ⟨y, hy, hl⟩ := pk_least (fun y => y < 4 * n ∧ pcl m e y) ⟨e, he, pcl_refl e⟩
  have hye : y ≤ e := by
    by_cases q : y ≤ e
    · exact q
    · exact absurd ⟨he, pcl_refl e⟩ (hl e (by omega))
  refine ⟨y, hye, fun f hf o => ?_, pcl_symm P he hy.1 hy.2⟩
  by_cases q : y ≤ f
  · exact q
  · exact absurd ⟨hf, pcl_trans P he hy.1 hf hy.2 o⟩ (hl f (by omega))
theorem pmn_iff (P : Pr n A m) {e : Nat} (he : e < 4 * n) : pmn n m e ↔ ¬ ∃ y, y < e ∧ pcl m y e := by
  constructor
  · rintro h ⟨y, hy, o⟩
    have := h y (by omega) (pcl_symm P (by omega) he o)
    omega
  · intro h f hf o
    by_cases q : e ≤ f
    · exact q
    · exact absurd ⟨f, by omega, pcl_symm P he hf o⟩ h
theorem pmn_u (P : Pr n A m) {a b : Nat} (ha : a < 4 * n) (hb : b < 4 * n) (x : pmn n m a) (y : pmn n m b) (o : pcl m a b) : a = b := Nat.le_antisymm (x b hb o) (y a ha (pcl_symm P ha hb o))
/-- an end that the walk doesn't come in by is one that it goes out by -/
theorem inn_not (P : Pr n A m) {e : Nat} (he : e < 4 * n) : ¬ inn n m e ↔ ∃ y, y < 4 * n ∧ pmn n m y ∧ ob (tu m) y e := by
  obtain ⟨y, hy, hp, o⟩ := pmn_ex P he
  have hyn : y < 4 * n := by omega
  constructor
  · intro w
    rcases o with o | o
    · exact ⟨y, hyn, hp, o⟩
    · exact absurd ⟨y, hyn, hp, o⟩ w
  · rintro ⟨z, hz, pz, oz⟩ ⟨x, hx, px, ox⟩
    have e1 : z = x := pmn_u P hz hx pz px (pcl_trans P hz he hx (Or.inl oz) (pcl_symm P hx he (Or.inr ox)))
    subst e1
    exact ob_not P hz oz ox
theorem inn_m (P : Pr n A m) {e : Nat} (he : e < 4 * n) : inn n m (m e) ↔ ¬ inn n m e := by
  rw [inn_not P he]
  unfold inn
  rw [P.mm he]
theorem inn_2 (P : Pr n A m) {e : Nat} (he : e < 4 * n) : inn n m (cn e 2) ↔ ¬ inn n m e := by
  have hc := cn_lt 2 he
  constructor
  · intro h w
    obtain ⟨y, hy, hp, o⟩ := w
    have o2 : ob (tu m) y (cn e 2) := ob_trans o (by have := ob_step (g := tu m) (m e); rw [tu_mm P he] at this; exact this)
    exact (inn_not P hc).mpr ⟨y, hy, hp, o2⟩ h
  · intro h
    obtain ⟨y, hy, hp, o⟩ := (inn_not P he).mp h
    refine ⟨y, hy, hp, ?_⟩
    have o2 : ob (tu m) (m (cn e 2)) e := by
      have := ob_step (g := tu m) (m (cn e 2))
      rw [tu_mm P hc, cn_22] at this
      exact this
    exact ob_trans o (ob_symm (tuP P) (P.lt hc) o2)
theorem sgn_y {c : Nat} (h : inn n m (4 * c) ↔ inn n m (4 * c + 3)) : sgn n m c = nI 1 := if_pos h
theorem sgn_n {c : Nat} (h : ¬ (inn n m (4 * c) ↔ inn n m (4 * c + 3))) : sgn n m c = m1 := if_neg h
theorem nQ_le (n : Nat) (m : Nat → Nat) : nQ n m ≤ 4 * n := ct_le _ _
end PIECE
