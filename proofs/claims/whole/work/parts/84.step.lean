/-! Steps keep the pairing of arcs. -/
def PD (n : Nat) (D : Nat → Prop) (A m : Nat → Nat) : Prop := ∀ e, e < 4 * n → D e → A e < 100 ∧ m e < 4 * n ∧ D (m e) ∧ m e ≠ e ∧ A (m e) = A e ∧ ∀ f, f < 4 * n → D f → A f = A e → f = e ∨ f = m e
section PDS
variable {n : Nat} {D : Nat → Prop} {A m : Nat → Nat}
theorem PD_mm (P : PD n D A m) {e : Nat} (he : e < 4 * n) (d : D e) : m (m e) = e := by
  obtain ⟨-, h1, h2, h3, h4, h5⟩ := P e he d
  obtain ⟨-, g1, g2, g3, g4, g5⟩ := P (m e) h1 h2
  rcases h5 (m (m e)) g1 g2 (g4.trans h4) with q | q
  · exact q
  · exact absurd q g3
theorem PD_of (R : Pr n A m) : PD n (fun _ => True) A m := fun e he _ => ⟨R.A100 he, R.lt he, trivial, R.ne he, R.ar he, fun f hf _ q => (R.eq he hf).mp q⟩
theorem PD_to (P : PD n D A m) (h : ∀ e, e < 4 * n → D e) : Pr n A m := fun e he => by
  obtain ⟨h0, h1, h2, h3, h4, h5⟩ := P e he (h e he)
  exact ⟨h0, h1, h3, h4, fun f hf q => h5 f hf (h f hf) q⟩
theorem PD_drop (P : PD n D A m) {i : Nat} (hi : i < 4 * n) (di : D i) : PD n (fun e => D e ∧ e ≠ i ∧ e ≠ m i) A m := by
  rintro e he ⟨d, n1, n2⟩
  obtain ⟨h0, h1, h2, h3, h4, h5⟩ := P e he d
  refine ⟨h0, h1, ⟨h2, fun q => n2 ?_, fun q => n1 ?_⟩, h3, h4, fun f hf df q => h5 f hf df.1 q⟩
  · rw [← q, PD_mm P he d]
  · rw [← PD_mm P he d, q, PD_mm P hi di]
theorem PD_join (P : PD n D A m) {i j : Nat} (hi : i < 4 * n) (di : D i) (hj : j < 4 * n) (dj : D j) (hij : i ≠ j) : ∃ m', PD n (fun e => D e ∧ e ≠ i ∧ e ≠ j) (jn (A i) (A j) A) m' := by
  obtain ⟨i0, i1, i2, i3, i4, i5⟩ := P i hi di
  obtain ⟨j0, j1, j2, j3, j4, j5⟩ := P j hj dj
  by_cases w : A i = A j
  · have ej : j = m i := by
      rcases i5 j hj dj w.symm with q | q
      · exact absurd q.symm hij
      · exact q
    refine ⟨m, ?_⟩
    rw [← w, jn_same, ej]
    exact PD_drop P hi di
  · have nij : m i ≠ j := fun q => w (by rw [← i4, q])
    have nji : m j ≠ i := fun q => w (by rw [← j4, q])
    have nmm : m i ≠ m j := fun q => w (by rw [← i4, q, j4])
    refine ⟨fun e => if e = m i then m j else if e = m j then m i else m e, ?_⟩
    rintro e he ⟨d, n1, n2⟩
    obtain ⟨h0, h1, h2, h3, h4, h5⟩ := P e he d
    have inv : ∀ f, f < 4 * n → D f → f ≠ i → f ≠ j → ((A f = A i ↔ f = m i) ∧ (A f = A j ↔ f = m j)) := fun f hf df f1 f2 => ⟨⟨fun q => by
      rcases i5 f hf df q with z | z
      · exact absurd z f1
      · exact z, fun q => by rw [q, i4]⟩, ⟨fun q => by
      rcases j5 f hf df q with z | z
      · exact absurd z f2
      · exact z, fun q => by rw [q, j4]⟩⟩
    have J : ∀ f, jn (A i) (A j) A f = if A f = A j then A i else A f := fun f => rfl
    by_cases e1 : e = m i
    · show _ ∧ (if e = m i then m j else if e = m j then m i else m e) < 4 * n ∧ _
      have v : (if e = m i then m j else if e = m j then m i else m e) = m j := if_pos e1
      have ve : jn (A i) (A j) A e = A i := by rw [J, e1, i4, if_neg w]
      have vj : jn (A i) (A j) A (m j) = A i := by rw [J, j4, if_pos rfl]
      rw [ve]
      refine ⟨i0, ?_⟩
      show (fun e => if e = m i then m j else if e = m j then m i else m e) e < 4 * n ∧ (D ((fun e => if e = m i then m j else if e = m j then m i else m e) e) ∧ (fun e => if e = m i then m j else if e = m j then m i else m e) e ≠ i ∧ (fun e => if e = m i then m j else if e = m j then m i else m e) e ≠ j) ∧ (fun e => if e = m i then m j else if e = m j then m i else m e) e ≠ e ∧ jn (A i) (A j) A ((fun e => if e = m i then m j else if e = m j then m i else m e) e) = A i ∧ _
      have vv : (fun e => if e = m i then m j else if e = m j then m i else m e) e = m j := v
      rw [vv]
      refine ⟨j1, ⟨j2, nji, j3⟩, fun q => nmm (by rw [← e1, q]), vj, fun f hf df q => ?_⟩
      rw [J] at q
      by_cases z : A f = A j
      · exact Or.inr ((inv f hf df.1 df.2.1 df.2.2).2.mp z)
      · rw [if_neg z] at q
        left
        rw [e1]
        exact (inv f hf df.1 df.2.1 df.2.2).1.mp q
    · by_cases e2 : e = m j
      · have vv : (fun e => if e = m i then m j else if e = m j then m i else m e) e = m i := by
          show (if e = m i then m j else if e = m j then m i else m e) = m i
          rw [if_neg e1, if_pos e2]
        have ve : jn (A i) (A j) A e = A i := by rw [J, e2, j4, if_pos rfl]
        have vi : jn (A i) (A j) A (m i) = A i := by rw [J, i4, if_neg w]
        rw [ve, vv]
        refine ⟨i0, i1, ⟨i2, i3, nij⟩, fun q => e1 q.symm, vi, fun f hf df q => ?_⟩
        rw [J] at q
        by_cases z : A f = A j
        · left
          rw [e2]
          exact (inv f hf df.1 df.2.1 df.2.2).2.mp z
        · rw [if_neg z] at q
          exact Or.inr ((inv f hf df.1 df.2.1 df.2.2).1.mp q)
      · have vv : (fun e => if e = m i then m j else if e = m j then m i else m e) e = m e := by
          show (if e = m i then m j else if e = m j then m i else m e) = m e
          rw [if_neg e1, if_neg e2]
        have ne1 : A e ≠ A i := fun q => e1 ((inv e he d n1 n2).1.mp q)
        have ne2 : A e ≠ A j := fun q => e2 ((inv e he d n1 n2).2.mp q)
        have ve : jn (A i) (A j) A e = A e := by rw [J, if_neg ne2]
        have vm : jn (A i) (A j) A (m e) = A e := by rw [J, h4, if_neg ne2]
        rw [ve, vv]
        refine ⟨h0, h1, ⟨h2, fun q => e1 ?_, fun q => e2 ?_⟩, h3, vm, fun f hf df q => ?_⟩
        · rw [← q, PD_mm P he d]
        · rw [← q, PD_mm P he d]
        · rw [J] at q
          by_cases z : A f = A j
          · rw [if_pos z] at q
            exact absurd q.symm ne1
          · rw [if_neg z] at q
            exact h5 f hf df.1 q
theorem PD_rmv (P : PD n D A m) {c : Nat} (hc : c < n) (hD : ∀ e, e < 4 * n → D e → e / 4 ≠ c) : ∃ m', PD (n - 1) (fun x => D (if x < 4 * c then x else x + 4)) (rmv c A) m' := by
  have R : ∀ x, rmv c A x = A (if x < 4 * c then x else x + 4) := fun x => by
    unfold rmv
    split <;> rfl
  have lt : ∀ x, x < 4 * (n - 1) → (if x < 4 * c then x else x + 4) < 4 * n := fun x hx => by split <;> omega
  have ij : ∀ x y, (if x < 4 * c then x else x + 4) = (if y < 4 * c then y else y + 4) → x = y := fun x y q => by
    split at q <;> split at q <;> omega
  have bk : ∀ e, e < 4 * n → e / 4 ≠ c → (if e < 4 * c then e else e - 4) < 4 * (n - 1) ∧ (if (if e < 4 * c then e else e - 4) < 4 * c then (if e < 4 * c then e else e - 4) else (if e < 4 * c then e else e - 4) + 4) = e := fun e he hec => by
    by_cases w : e < 4 * c
    · rw [if_pos w, if_pos w]
      exact ⟨by omega, rfl⟩
    · rw [if_neg w, if_neg (by omega)]
      exact ⟨by omega, by omega⟩
  refine ⟨fun x => if m (if x < 4 * c then x else x + 4) < 4 * c then m (if x < 4 * c then x else x + 4) else m (if x < 4 * c then x else x + 4) - 4, ?_⟩
  intro x hx dx
  obtain ⟨h0, h1, h2, h3, h4, h5⟩ := P _ (lt x hx) dx
  have b := bk _ h1 (hD _ h1 h2)
  show rmv c A x < 100 ∧ (if m (if x < 4 * c then x else x + 4) < 4 * c then m (if x < 4 * c then x else x + 4) else m (if x < 4 * c then x else x + 4) - 4) < 4 * (n - 1) ∧ D (if (if m (if x < 4 * c then x else x + 4) < 4 * c then m (if x < 4 * c then x else x + 4) else m (if x < 4 * c then x else x + 4) - 4) < 4 * c then (if m (if x < 4 * c then x else x + 4) < 4 * c then m (if x < 4 * c then x else x + 4) else m (if x < 4 * c then x else x + 4) - 4) else (if m (if x < 4 * c then x else x + 4) < 4 * c then m (if x < 4 * c then x else x + 4) else m (if x < 4 * c then x else x + 4) - 4) + 4) ∧ (if m (if x < 4 * c then x else x + 4) < 4 * c then m (if x < 4 * c then x else x + 4) else m (if x < 4 * c then x else x + 4) - 4) ≠ x ∧ rmv c A (if m (if x < 4 * c then x else x + 4) < 4 * c then m (if x < 4 * c then x else x + 4) else m (if x < 4 * c then x else x + 4) - 4) = rmv c A x ∧ ∀ f, f < 4 * (n - 1) → D (if f < 4 * c then f else f + 4) → rmv c A f = rmv c A x → f = x ∨ f = (if m (if x < 4 * c then x else x + 4) < 4 * c then m (if x < 4 * c then x else x + 4) else m (if x < 4 * c then x else x + 4) - 4)
  rw [R, R, b.2]
  refine ⟨h0, b.1, h2, fun q => h3 ?_, h4, fun f hf df q => ?_⟩
  · rw [← b.2, q]
  · rw [R] at q
    rcases h5 _ (lt f hf) df q with z | z
    · exact Or.inl (ij _ _ z)
    · right
      apply ij
      rw [b.2]
      exact z
theorem cn_all {f e : Nat} (q : f / 4 = e / 4) : f = e ∨ f = cn e 1 ∨ f = cn e 2 ∨ f = cn e 3 := by
  have a1 := cn_div e 1
  have a2 := cn_div e 2
  have a3 := cn_div e 3
  have c1 := cn_mod e 1
  have c2 := cn_mod e 2
  have c3 := cn_mod e 3
  have : e % 4 = 0 ∨ e % 4 = 1 ∨ e % 4 = 2 ∨ e % 4 = 3 := by omega
  have : f % 4 = 0 ∨ f % 4 = 1 ∨ f % 4 = 2 ∨ f % 4 = 3 := by omega
  omega
theorem cn_nd {x y : Nat} (h : x / 4 ≠ y / 4) : x ≠ y := fun q => h (by rw [q])
theorem cn_n2 (e : Nat) {i j : Nat} (h : i % 4 ≠ j % 4) : cn e i ≠ cn e j := by
  have c1 := cn_mod e i
  have c2 := cn_mod e j
  omega
theorem cn_n0 (e : Nat) {i : Nat} (h : i % 4 ≠ 0) : cn e i ≠ e := by
  have c1 := cn_mod e i
  omega
theorem cn_n0' (e : Nat) {i : Nat} (h : i % 4 ≠ 0) : e ≠ cn e i := (cn_n0 e h).symm
theorem rm2 {p q x n : Nat} (N : p ≠ q) (hp : p < n) (hq : q < n) (hx : x < 4 * (n - 1 - 1)) : (if (if x < 4 * min p q then x else x + 4) < 4 * max p q then (if x < 4 * min p q then x else x + 4) else (if x < 4 * min p q then x else x + 4) + 4) < 4 * n ∧ (if (if x < 4 * min p q then x else x + 4) < 4 * max p q then (if x < 4 * min p q then x else x + 4) else (if x < 4 * min p q then x else x + 4) + 4) / 4 ≠ p ∧ (if (if x < 4 * min p q then x else x + 4) < 4 * max p q then (if x < 4 * min p q then x else x + 4) else (if x < 4 * min p q then x else x + 4) + 4) / 4 ≠ q := by
  rcases Nat.lt_or_gt_of_ne N with w | w
  · rw [Nat.min_eq_left (by omega), Nat.max_eq_right (by omega)]
    by_cases v : x < 4 * p
    · rw [if_pos v, if_pos (by omega)]
      omega
    · rw [if_neg v]
      by_cases u : x + 4 < 4 * q
      · rw [if_pos u]
        omega
      · rw [if_neg u]
        omega
  · rw [Nat.min_eq_right (by omega), Nat.max_eq_left (by omega)]
    by_cases v : x < 4 * q
    · rw [if_pos v, if_pos (by omega)]
      omega
    · rw [if_neg v]
      by_cases u : x + 4 < 4 * p
      · rw [if_pos u]
        omega
      · rw [if_neg u]
        omega
theorem mvU_Pd {l n' l' : Nat} {A' : Nat → Nat} {a : Int32} (R : Pr n A m) (M : mvU n l A m a 0 n' l' A') : ∃ m', Pr n' A' m' := by
  rcases M with ⟨-, e⟩ | ⟨e, he, -, me, -, e1, e2, e3⟩
  · omega
  · have k2 := cn_lt 2 he
    have k3 := cn_lt 3 he
    have d0 := PD_drop (PD_of R) he trivial
    have c1 := cn_div e 1
    have c2 := cn_div e 2
    have c3 := cn_div e 3
    have x1 := cn_mod e 1
    have x2 := cn_mod e 2
    have x3 := cn_mod e 3
    obtain ⟨m1_, P1⟩ := PD_join d0 k2 ⟨trivial, by omega, by rw [me]; omega⟩ k3 ⟨trivial, by omega, by rw [me]; omega⟩ (by omega)
    obtain ⟨m2_, P2⟩ := PD_rmv (c := e / 4) P1 (by omega) (fun f hf d q => by
      obtain ⟨⟨-, q1, q2⟩, q3, q4⟩ := d
      rw [me] at q2
      omega)
    subst e1
    subst e3
    refine ⟨m2_, PD_to P2 (fun x hx => ?_)⟩
    have hlt : (if x < 4 * (e / 4) then x else x + 4) / 4 ≠ e / 4 := by split <;> omega
    refine ⟨⟨trivial, fun q => hlt (by rw [q]), fun q => hlt (by rw [q, me, c1])⟩, fun q => hlt (by rw [q, c2]), fun q => hlt (by rw [q, c3])⟩
theorem mvP_Pd {l n' l' : Nat} {A' : Nat → Nat} {a : Int32} (R : Pr n A m) (M : mvP n l A m a 0 n' l' A') : ∃ m', Pr n' A' m' := by
  rcases M with ⟨-, e⟩ | ⟨e, he, -, le, A1, l1, eA, el, -, e1, e2, e3⟩
  · omega
  · obtain ⟨L1, L2, L3⟩ := le
    have ho := R.lt he
    obtain ⟨o, eo⟩ : ∃ o, o = m e := ⟨_, rfl⟩
    rw [← eo] at L1 L2 L3 ho eA el e2 e3
    have hf := cn_lt 3 ho
    have mf : m (cn o 3) = cn e 1 := by
      have hmf := R.lt hf
      have z := L1
      have : cn (cn (m (cn o 3)) 3) 1 = cn e 1 := by rw [z]
      rw [cn_cn] at this
      rw [← this]
      exact (cn_4 (m (cn o 3)) 0 ▸ (cn_0 (m (cn o 3))).symm)
    have dv : ∀ x k, cn x k / 4 = x / 4 := cn_div
    have md : ∀ x k, cn x k % 4 = (x + k) % 4 := cn_mod
    have k1 := cn_lt 1 he
    have k2 := cn_lt 2 he
    have k3 := cn_lt 3 he
    have j1 := cn_lt 1 ho
    have j2 := cn_lt 2 ho
    have a1 := dv e 1
    have a2 := dv e 2
    have a3 := dv e 3
    have b1 := dv o 1
    have b2 := dv o 2
    have b3 := dv o 3
    have N : e / 4 ≠ o / 4 := fun q => L2 q.symm
    have d0 := PD_drop (PD_of R) he trivial
    rw [← eo] at d0
    have d1 := PD_drop d0 hf ⟨trivial, cn_nd (by rw [b3]; exact N.symm), cn_n0 o (by decide)⟩
    rw [mf] at d1
    obtain ⟨m1_, P1⟩ := PD_join d1 k2 ⟨⟨trivial, cn_n0 e (by decide), cn_nd (by rw [a2]; exact N)⟩, cn_nd (by rw [a2, b3]; exact N), cn_n2 e (by decide)⟩ j2 ⟨⟨trivial, cn_nd (by rw [b2]; exact N.symm), cn_n0 o (by decide)⟩, cn_n2 o (by decide), cn_nd (by rw [a1, b2]; exact N.symm)⟩ (cn_nd (by rw [a2, b2]; exact N))
    rw [← eA] at P1
    obtain ⟨m2_, P2⟩ := PD_join P1 k3 ⟨⟨⟨trivial, cn_n0 e (by decide), cn_nd (by rw [a3]; exact N)⟩, cn_nd (by rw [a3, b3]; exact N), cn_n2 e (by decide)⟩, cn_n2 e (by decide), cn_nd (by rw [a3, b2]; exact N)⟩ j1 ⟨⟨⟨trivial, cn_nd (by rw [b1]; exact N.symm), cn_n0 o (by decide)⟩, cn_n2 o (by decide), cn_nd (by rw [a1, b1]; exact N.symm)⟩, cn_nd (by rw [a2, b1]; exact N.symm), cn_n2 o (by decide)⟩ (cn_nd (by rw [a3, b1]; exact N))
    clear mf hf k1 k2 k3 j1 j2 d0 d1 P1
    have away : ∀ f, f < 4 * n → (((((True ∧ f ≠ e ∧ f ≠ o) ∧ f ≠ cn o 3 ∧ f ≠ cn e 1) ∧ f ≠ cn e 2 ∧ f ≠ cn o 2) ∧ f ≠ cn e 3 ∧ f ≠ cn o 1) ↔ f / 4 ≠ e / 4 ∧ f / 4 ≠ o / 4) := by
      intro f _
      have q1 : f / 4 = e / 4 → f = e ∨ f = cn e 1 ∨ f = cn e 2 ∨ f = cn e 3 := cn_all
      have q2 : f / 4 = o / 4 → f = o ∨ f = cn o 1 ∨ f = cn o 2 ∨ f = cn o 3 := cn_all
      constructor
      · rintro ⟨⟨⟨⟨-, z1, z2⟩, z3, z4⟩, z5, z6⟩, z7, z8⟩
        exact ⟨fun q => by rcases q1 q with y | y | y | y; exact z1 y; exact z4 y; exact z5 y; exact z7 y, fun q => by rcases q2 q with y | y | y | y; exact z2 y; exact z8 y; exact z6 y; exact z3 y⟩
      · rintro ⟨z1, z2⟩
        refine ⟨⟨⟨⟨trivial, fun q => z1 (by rw [q]), fun q => z2 (by rw [q])⟩, fun q => z2 (by rw [q, b3]), fun q => z1 (by rw [q, a1])⟩, fun q => z1 (by rw [q, a2]), fun q => z2 (by rw [q, b2])⟩, fun q => z1 (by rw [q, a3]), fun q => z2 (by rw [q, b1])⟩
    have hp : e / 4 < n := by omega
    have hq : o / 4 < n := by omega
    obtain ⟨p, ep⟩ : ∃ p, p = e / 4 := ⟨_, rfl⟩
    obtain ⟨q, eq⟩ : ∃ q, q = o / 4 := ⟨_, rfl⟩
    rw [← ep] at N hp e3 away
    rw [← eq] at N hq e3 away
    have hpm : max p q < n := Nat.max_lt.mpr ⟨hp, hq⟩
    have mm : max p q = p ∨ max p q = q := by
      rcases Nat.le_total p q with w | w
      · exact Or.inr (Nat.max_eq_right w)
      · exact Or.inl (Nat.max_eq_left w)
    have mn : (min p q = p ∨ min p q = q) ∧ min p q < max p q := by
      rcases Nat.lt_or_gt_of_ne N with w | w
      · rw [Nat.min_eq_left (by omega), Nat.max_eq_right (by omega)]
        exact ⟨Or.inl rfl, w⟩
      · rw [Nat.min_eq_right (by omega), Nat.max_eq_left (by omega)]
        exact ⟨Or.inr rfl, w⟩
    obtain ⟨M1, eM⟩ : ∃ M1, M1 = max p q := ⟨_, rfl⟩
    obtain ⟨N1, eN⟩ : ∃ N1, N1 = min p q := ⟨_, rfl⟩
    have R2 := @rm2 p q
    rw [← eM, ← eN] at R2 e3 mn
    rw [← eM] at hpm mm
    obtain ⟨m3_, P3⟩ := PD_rmv (c := M1) P2 hpm (fun f hf d z => by
      have := (away f hf).mp d
      rcases mm with y | y
      · exact this.1 (z.trans y)
      · exact this.2 (z.trans y))
    obtain ⟨m4_, P4⟩ := PD_rmv (c := N1) P3 (by omega) (fun f hf d z => by
      have lt : (if f < 4 * M1 then f else f + 4) < 4 * n := by split <;> omega
      have := (away _ lt).mp d
      rw [if_pos (by omega)] at this
      rcases mn.1 with y | y
      · exact this.1 (z.trans y)
      · exact this.2 (z.trans y))
    subst e1
    subst e3
    refine ⟨m4_, PD_to P4 (fun x hx => ?_)⟩
    have r := R2 (x := x) (n := n) N hp hq hx
    exact (away _ r.1).mpr r.2
/-! A slide: the arcs go round by a permutation. -/
theorem Pr_perm {s t : Nat → Nat} (R : Pr n A m) (hs : ∀ e, e < 4 * n → s e < 4 * n) (ht : ∀ e, e < 4 * n → t e < 4 * n) (st : ∀ e, e < 4 * n → s (t e) = e) (ts : ∀ e, e < 4 * n → t (s e) = e) {A' : Nat → Nat} (hA : ∀ e, e < 4 * n → A' e = A (s e)) : Pr n A' (fun e => t (m (s e))) := fun e he => by
  have k := hs e he
  have k2 := R.lt k
  have k3 := ht _ k2
  refine ⟨?_, k3, fun q => ?_, ?_, fun f hf q => ?_⟩
  · rw [hA e he]
    exact R.A100 k
  · exact R.ne k (by rw [← st _ k2]; exact congrArg s q)
  · show A' (t (m (s e))) = A' e
    rw [hA _ k3, hA e he, st _ k2]
    exact R.ar k
  · rw [hA f hf, hA e he] at q
    rcases (R.eq k (hs f hf)).mp q with z | z
    · left
      rw [← ts f hf, z, ts e he]
    · right
      show f = t (m (s e))
      rw [← z, ts f hf]
end PDS
