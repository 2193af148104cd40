/-! Pure: rows of numbers taken modulo m; how many of them are left when one clears columns doesn't hang on the order. -/
def zs (f : Nat → Int) : Nat → Int
  | 0 => 0
  | n + 1 => zs f n + f n
section SM
variable {m : Int} {f g : Nat → Int} {n : Nat}
theorem zs_congr (h : ∀ i, i < n → f i = g i) : zs f n = zs g n := by
  induction n with
  | zero => rfl
  | succ n ih =>
    show zs f n + f n = zs g n + g n
    rw [ih (fun i hi => h i (by omega)), h n (by omega)]
theorem zs_add (f g : Nat → Int) (n : Nat) : zs (fun i => f i + g i) n = zs f n + zs g n := by
  induction n with
  | zero => rfl
  | succ n ih =>
    show zs (fun i => f i + g i) n + (f n + g n) = zs f n + f n + (zs g n + g n)
    rw [ih]
    omega
theorem zs_mul (k : Int) (f : Nat → Int) (n : Nat) : zs (fun i => k * f i) n = k * zs f n := by
  induction n with
  | zero => exact (Int.mul_zero k).symm
  | succ n ih =>
    show zs (fun i => k * f i) n + k * f n = k * (zs f n + f n)
    rw [ih, Int.mul_add]
theorem zs_sub (f g : Nat → Int) (n : Nat) : zs (fun i => f i - g i) n = zs f n - zs g n := by
  induction n with
  | zero => rfl
  | succ n ih =>
    show zs (fun i => f i - g i) n + (f n - g n) = zs f n + f n - (zs g n + g n)
    rw [ih]
    omega
theorem zs_dvd (h : ∀ i, i < n → m ∣ f i) : m ∣ zs f n := by
  induction n with
  | zero => exact Int.dvd_zero m
  | succ n ih => exact Int.dvd_add (ih (fun i hi => h i (by omega))) (h n (by omega))
theorem zs_dvd2 (h : ∀ i, i < n → m ∣ f i - g i) : m ∣ zs f n ↔ m ∣ zs g n := by
  have d : m ∣ zs f n - zs g n := by
    rw [← zs_sub]
    exact zs_dvd h
  constructor
  · intro q
    have := Int.dvd_sub q d
    rw [show zs f n - (zs f n - zs g n) = zs g n by omega] at this
    exact this
  · intro q
    have := Int.dvd_add d q
    rw [show zs f n - zs g n + zs g n = zs f n by omega] at this
    exact this
theorem zs_one {j : Nat} (hj : j < n) (h : ∀ i, i < n → i ≠ j → m ∣ f i) (q : m ∣ zs f n) : m ∣ f j := by
  induction n with
  | zero => omega
  | succ n ih =>
    have q' : m ∣ zs f n + f n := q
    by_cases w : j = n
    · subst w
      have d : m ∣ zs f j := zs_dvd (fun i hi => h i (by omega) (by omega))
      have := Int.dvd_sub q' d
      rw [show zs f j + f j - zs f j = f j by omega] at this
      exact this
    · have d := h n (by omega) (fun z => w z.symm)
      refine ih (by omega) (fun i hi n1 => h i (by omega) n1) ?_
      have := Int.dvd_sub q' d
      rw [show zs f n + f n - f n = zs f n by omega] at this
      exact this
/-- a row with one number changed -/
theorem zs_put {a x : Nat → Int} {p : Nat} {v : Int} (hp : p < n) : zs (fun c => a c * u1 x p v c) n = zs (fun c => a c * x c) n + a p * (v - x p) := by
  induction n with
  | zero => omega
  | succ n ih =>
    show zs (fun c => a c * u1 x p v c) n + a n * u1 x p v n = zs (fun c => a c * x c) n + a n * x n + a p * (v - x p)
    by_cases w : p = n
    · subst w
      rw [u1_s, zs_congr (g := fun c => a c * x c) (fun i hi => by rw [u1_n _ _ (by omega)]), Int.mul_sub]
      omega
    · rw [ih (by omega), u1_n _ _ (fun z => w z.symm)]
      omega
end SM
/-- d j at place p j, else 0 -/
def spv (p : Nat → Nat) (d : Nat → Int) : Nat → Nat → Int
  | 0 => fun _ => 0
  | j + 1 => u1 (spv p d j) (p j) (d j)
section LIN
variable {m : Nat} {s : Nat}
theorem spv_0 {p : Nat → Nat} {d : Nat → Int} {r c : Nat} (h : ∀ j, j < r → p j ≠ c) : spv p d r c = 0 := by
  induction r with
  | zero => rfl
  | succ r ih =>
    show u1 (spv p d r) (p r) (d r) c = 0
    rw [u1_n _ _ (Ne.symm (h r (by omega)))]
    exact ih (fun j hj => h j (by omega))
theorem spv_zs {p : Nat → Nat} {d a : Nat → Int} {r : Nat} (hp : ∀ j, j < r → p j < s) (hd : ∀ i j, i < j → j < r → p i ≠ p j) : zs (fun c => a c * spv p d r c) s = zs (fun j => a (p j) * d j) r := by
  induction r with
  | zero =>
    have : ∀ s, zs (fun c => a c * spv p d 0 c) s = 0 := by
      intro s
      induction s with
      | zero => rfl
      | succ s ih =>
        show zs (fun c => a c * spv p d 0 c) s + a s * 0 = 0
        rw [ih]
        omega
    exact this s
  | succ r ih =>
    show zs (fun c => a c * u1 (spv p d r) (p r) (d r) c) s = zs (fun j => a (p j) * d j) r + a (p r) * d r
    rw [zs_put (hp r (by omega)), ih (fun j hj => hp j (by omega)) (fun i j hij hj => hd i j hij (by omega)), spv_0 (fun j hj => hd j r hj (by omega)), Int.sub_zero]
def ker (m : Nat) (R : Nat → Nat → Int) (n s : Nat) (x : Nat → Int) : Prop := ∀ i, i < n → (m : Int) ∣ zs (fun c => R i c * x c) s
/-- rows A can be cleared to r rows -/
def EL (m : Nat) (A : Nat → Nat → Int) (n s r : Nat) : Prop := ∃ (U : Nat → Nat → Int) (pc : Nat → Nat), (∀ x, ker m A n s x ↔ ker m U r s x) ∧ ∀ t, t < r → pc t < s ∧ ¬ (m : Int) ∣ U t (pc t) ∧ ∀ i, t < i → i < r → (m : Int) ∣ U i (pc t)
def prm (m : Nat) : Prop := 2 ≤ m ∧ ∀ a b : Int, (m : Int) ∣ a * b → (m : Int) ∣ a ∨ (m : Int) ∣ b
/-! codes -/
def cd (m : Nat) : Nat → (Nat → Nat) → Nat
  | 0, _ => 0
  | r + 1, v => v 0 + m * cd m r (fun t => v (t + 1))
theorem cd_lt {r : Nat} : ∀ {v : Nat → Nat}, (∀ t, t < r → v t < m) → cd m r v < m ^ r := by
  induction r with
  | zero => intro v _; exact Nat.one_pos
  | succ r ih =>
    intro v h
    have h0 := h 0 (by omega)
    have h1 := ih (v := fun t => v (t + 1)) (fun t ht => h (t + 1) (by omega))
    show v 0 + m * cd m r (fun t => v (t + 1)) < m ^ (r + 1)
    rw [Nat.pow_succ, Nat.mul_comm (m ^ r) m]
    have : m * cd m r (fun t => v (t + 1)) + m ≤ m * m ^ r := by
      rw [← Nat.mul_succ]
      exact Nat.mul_le_mul_left m h1
    omega
theorem cd_inj {r : Nat} : ∀ {v w : Nat → Nat}, (∀ t, t < r → v t < m) → (∀ t, t < r → w t < m) → cd m r v = cd m r w → ∀ t, t < r → v t = w t := by
  induction r with
  | zero => intro v w _ _ _ t ht; omega
  | succ r ih =>
    intro v w hv hw e t ht
    have v0 := hv 0 (by omega)
    have w0 := hw 0 (by omega)
    have e' : v 0 + m * cd m r (fun t => v (t + 1)) = w 0 + m * cd m r (fun t => w (t + 1)) := e
    have e0 : v 0 = w 0 := by
      have := congrArg (· % m) e'
      have this' : (v 0 + m * cd m r (fun t => v (t + 1))) % m = (w 0 + m * cd m r (fun t => w (t + 1))) % m := this
      rw [Nat.add_mul_mod_self_left, Nat.add_mul_mod_self_left, Nat.mod_eq_of_lt v0, Nat.mod_eq_of_lt w0] at this'
      exact this'
    have e1 : cd m r (fun t => v (t + 1)) = cd m r (fun t => w (t + 1)) := by
      have : m * cd m r (fun t => v (t + 1)) = m * cd m r (fun t => w (t + 1)) := by omega
      exact Nat.eq_of_mul_eq_mul_left (by omega) this
    cases t with
    | zero => exact e0
    | succ t => exact ih (v := fun t => v (t + 1)) (w := fun t => w (t + 1)) (fun t ht => hv (t + 1) (by omega)) (fun t ht => hw (t + 1) (by omega)) e1 t (by omega)
def dg (m : Nat) : Nat → Nat → Nat
  | k, 0 => k % m
  | k, j + 1 => dg m (k / m) j
theorem dg_lt (hm : 0 < m) : ∀ (j k : Nat), dg m k j < m := by
  intro j
  induction j with
  | zero => exact fun k => Nat.mod_lt _ hm
  | succ j ih => exact fun k => ih (k / m)
theorem dg_inj (hm : 0 < m) : ∀ (r k k' : Nat), k < m ^ r → k' < m ^ r → (∀ j, j < r → dg m k j = dg m k' j) → k = k' := by
  intro r
  induction r with
  | zero => intro k k' h h' _; have a : k < 1 := h; have b : k' < 1 := h'; omega
  | succ r ih =>
    intro k k' h h' e
    have e0 : k % m = k' % m := e 0 (by omega)
    rw [Nat.pow_succ] at h h'
    have e1 := ih (k / m) (k' / m) (Nat.div_lt_of_lt_mul (by rw [Nat.mul_comm]; exact h)) (Nat.div_lt_of_lt_mul (by rw [Nat.mul_comm]; exact h')) (fun j hj => e (j + 1) (by omega))
    have a := Nat.div_add_mod k m
    have b := Nat.div_add_mod k' m
    rw [e0, e1] at a
    omega
theorem vphp {r K : Nat} (w : Nat → Nat → Nat) (hw : ∀ k, k < K → ∀ t, t < r → w k t < m) (hK : m ^ r < K) : ∃ k k', k < k' ∧ k' < K ∧ ∀ t, t < r → w k t = w k' t := by
  refine Classical.byContradiction (fun no => ?_)
  have := php' (N := m ^ r) (k := K) (f := fun k => cd m r (w k)) (fun i hi => cd_lt (hw i hi)) (fun i j hij hj e => no ⟨i, j, hij, hj, cd_inj (hw i (by omega)) (hw j hj) e⟩)
  omega
/-- at most as many rows are left on the one side as on the other -/
theorem rank_le (hm : prm m) {A1 A2 : Nat → Nat → Int} {n s1 s2 r1 r2 : Nat} (E1 : EL m A1 n s1 r1) (E2 : EL m A2 n s2 r2) (g : Nat → Nat) (hg : ∀ c, c < s2 → (∃ i, i < n ∧ ¬ (m : Int) ∣ A2 i c) → g c < s1 ∧ ∀ i, i < n → (m : Int) ∣ A1 i (g c) - A2 i c) (gi : ∀ c c', c < s2 → c' < s2 → (∃ i, i < n ∧ ¬ (m : Int) ∣ A2 i c) → (∃ i, i < n ∧ ¬ (m : Int) ∣ A2 i c') → g c = g c' → c = c') : r2 ≤ r1 := by
  obtain ⟨U1, p1, k1, e1⟩ := E1
  obtain ⟨U2, pc, k2, e2⟩ := E2
  refine Classical.byContradiction (fun no => ?_)
  have hlt : r1 < r2 := by omega
  have dis : ∀ i j, i < j → j < r2 → pc i ≠ pc j := fun i j hij hj e => (e2 j hj).2.1 (by rw [← e]; exact (e2 i (by omega)).2.2 j hij hj)
  -- pivots stand in columns that aren't all 0
  have live : ∀ j, j < r2 → ∃ i, i < n ∧ ¬ (m : Int) ∣ A2 i (pc j) := fun j hj => by
    refine Classical.byContradiction (fun z => ?_)
    have zz : ∀ i, i < n → (m : Int) ∣ A2 i (pc j) := fun i hi => Classical.byContradiction (fun q => z ⟨i, hi, q⟩)
    have one : ∀ a : Nat → Int, zs (fun c => a c * spv (fun _ => pc j) (fun _ => 1) 1 c) s2 = a (pc j) := fun a => by
      rw [spv_zs (fun _ _ => (e2 j hj).1) (fun i j hij hj => by omega)]
      show 0 + a (pc j) * 1 = a (pc j)
      omega
    have kk : ker m A2 n s2 (spv (fun _ => pc j) (fun _ => 1) 1) := fun i hi => by rw [one]; exact zz i hi
    have := (k2 _).mp kk j hj
    rw [one] at this
    exact (e2 j hj).2.1 this
  have gl : ∀ j, j < r2 → g (pc j) < s1 ∧ ∀ i, i < n → (m : Int) ∣ A1 i (g (pc j)) - A2 i (pc j) := fun j hj => hg _ (e2 j hj).1 (live j hj)
  have gd : ∀ i j, i < j → j < r2 → g (pc i) ≠ g (pc j) := fun i j hij hj e => dis i j hij hj (gi _ _ (e2 i (by omega)).1 (e2 j hj).1 (live i (by omega)) (live j hj) e)
  have m0 : (0 : Int) < (m : Int) := by have := hm.1; omega
  obtain ⟨k, k', kk, hk, ew⟩ := vphp (m := m) (r := r1) (K := m ^ r2) (fun k t => (zs (fun j => U1 t (g (pc j)) * (dg m k j : Int)) r2 % (m : Int)).toNat) (fun k _ t _ => by
    have a := Int.emod_nonneg (zs (fun j => U1 t (g (pc j)) * (dg m k j : Int)) r2) (Int.ne_of_gt m0)
    have b := Int.emod_lt_of_pos (zs (fun j => U1 t (g (pc j)) * (dg m k j : Int)) r2) m0
    show (zs (fun j => U1 t (g (pc j)) * (dg m k j : Int)) r2 % (m : Int)).toNat < m
    omega) (Nat.pow_lt_pow_right (by have := hm.1; omega) hlt)
  -- the difference of two vectors
  have q1 : ker m U1 r1 s1 (spv (fun j => g (pc j)) (fun j => (dg m k j : Int) - (dg m k' j : Int)) r2) := fun t ht => by
    rw [spv_zs (fun j hj => (gl j hj).1) gd]
    have e : zs (fun j => U1 t (g (pc j)) * ((dg m k j : Int) - (dg m k' j : Int))) r2 = zs (fun j => U1 t (g (pc j)) * (dg m k j : Int)) r2 - zs (fun j => U1 t (g (pc j)) * (dg m k' j : Int)) r2 := by
      rw [← zs_sub]
      exact zs_congr (fun j _ => Int.mul_sub _ _ _)
    rw [e]
    have w := ew t ht
    have w' : (zs (fun j => U1 t (g (pc j)) * (dg m k j : Int)) r2 % (m : Int)).toNat = (zs (fun j => U1 t (g (pc j)) * (dg m k' j : Int)) r2 % (m : Int)).toNat := w
    have a := Int.emod_nonneg (zs (fun j => U1 t (g (pc j)) * (dg m k j : Int)) r2) (Int.ne_of_gt m0)
    have b := Int.emod_nonneg (zs (fun j => U1 t (g (pc j)) * (dg m k' j : Int)) r2) (Int.ne_of_gt m0)
    exact Int.dvd_of_emod_eq_zero (Int.emod_eq_emod_iff_emod_sub_eq_zero.mp (by omega))
  have q2 := (k1 _).mpr q1
  have q3 : ker m A2 n s2 (spv pc (fun j => (dg m k j : Int) - (dg m k' j : Int)) r2) := fun i hi => by
    rw [spv_zs (fun j hj => (e2 j hj).1) dis]
    have := q2 i hi
    rw [spv_zs (fun j hj => (gl j hj).1) gd] at this
    refine (zs_dvd2 (fun j hj => ?_)).mp this
    rw [← Int.sub_mul]
    exact Int.dvd_mul_of_dvd_left ((gl j hj).2 i hi)
  have q4 := (k2 _).mp q3
  have all : ∀ q j, j < r2 → r2 ≤ j + q → (m : Int) ∣ (dg m k j : Int) - (dg m k' j : Int) := by
    intro q
    induction q with
    | zero => intro j h1 h2; omega
    | succ q ih =>
      intro j hj hq
      have e := q4 j hj
      rw [spv_zs (fun j hj => (e2 j hj).1) dis] at e
      have := zs_one hj (fun i hi n1 => by
        by_cases w : i < j
        · exact Int.dvd_mul_of_dvd_left ((e2 i hi).2.2 j w hj)
        · exact Int.dvd_mul_of_dvd_right (ih i hi (by omega))) e
      rcases hm.2 _ _ this with z | z
      · exact absurd z (e2 j hj).2.1
      · exact z
  have same := dg_inj (m := m) (by omega) r2 k k' (by omega) hk (fun j hj => by
    obtain ⟨z, ez⟩ := all r2 j hj (by omega)
    have a := dg_lt (m := m) (by omega) j k
    have b := dg_lt (m := m) (by omega) j k'
    have z0 : z = 0 := by
      have h1 : (m : Int) * z < m * 1 := by omega
      have h2 : (m : Int) * (-1) < m * z := by omega
      have h3 := Int.lt_of_mul_lt_mul_left h1 (by omega)
      have h4 := Int.lt_of_mul_lt_mul_left h2 (by omega)
      omega
    rw [z0, Int.mul_zero] at ez
    omega)
  omega
end LIN
