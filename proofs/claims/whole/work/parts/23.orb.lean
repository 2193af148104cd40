/-! Pure: counts, iterating a map on the places below N, orbits. -/
noncomputable def ct (p : Nat → Prop) : Nat → Nat
  | 0 => 0
  | n + 1 => ct p n + @ite Nat (p n) (Classical.propDecidable _) 1 0
theorem ct_y {p : Nat → Prop} {n : Nat} (h : p n) : ct p (n + 1) = ct p n + 1 := by show ct p n + @ite Nat (p n) (Classical.propDecidable _) 1 0 = _; rw [if_pos h]
theorem ct_n {p : Nat → Prop} {n : Nat} (h : ¬ p n) : ct p (n + 1) = ct p n := by show ct p n + @ite Nat (p n) (Classical.propDecidable _) 1 0 = _; rw [if_neg h]; rfl
theorem ct_le (p : Nat → Prop) (n : Nat) : ct p n ≤ n := by
  induction n with
  | zero => exact Nat.le_refl 0
  | succ n ih =>
    by_cases h : p n
    · rw [ct_y h]; omega
    · rw [ct_n h]; omega
theorem ct_mono (p : Nat → Prop) {a b : Nat} (h : a ≤ b) : ct p a ≤ ct p b := by
  induction b with
  | zero => rw [show a = 0 by omega]; exact Nat.le_refl _
  | succ b ih =>
    by_cases e : a = b + 1
    · rw [e]; exact Nat.le_refl _
    · have := ih (by omega)
      by_cases q : p b
      · rw [ct_y q]; omega
      · rw [ct_n q]; omega
theorem ct_lt {p : Nat → Prop} {a b : Nat} (h : a < b) (pa : p a) : ct p a < ct p b := by
  have := ct_mono p (show a + 1 ≤ b from h)
  rw [ct_y pa] at this
  omega
theorem ct_inj {p : Nat → Prop} {a b : Nat} (pa : p a) (pb : p b) (h : ct p a = ct p b) : a = b := by
  rcases Nat.lt_trichotomy a b with q | q | q
  · have := ct_lt q pa; omega
  · exact q
  · have := ct_lt q pb; omega
theorem ct_congr {p q : Nat → Prop} {n : Nat} (h : ∀ i, i < n → (p i ↔ q i)) : ct p n = ct q n := by
  induction n with
  | zero => rfl
  | succ n ih =>
    have e := ih (fun i hi => h i (by omega))
    by_cases a : p n
    · rw [ct_y a, ct_y ((h n (by omega)).mp a), e]
    · rw [ct_n a, ct_n (fun b => a ((h n (by omega)).mpr b)), e]
theorem ct_all {p : Nat → Prop} {n : Nat} (h : ∀ i, i < n → p i) : ct p n = n := by
  induction n with
  | zero => rfl
  | succ n ih => rw [ct_y (h n (by omega)), ih (fun i hi => h i (by omega))]
theorem ct_none {p : Nat → Prop} {n : Nat} (h : ∀ i, i < n → ¬ p i) : ct p n = 0 := by
  induction n with
  | zero => rfl
  | succ n ih => rw [ct_n (h n (by omega)), ih (fun i hi => h i (by omega))]
/-- pigeons -/
theorem php : ∀ (N : Nat) (f : Nat → Nat), (∀ i, i ≤ N → f i < N) → ∃ i j, i < j ∧ j ≤ N ∧ f i = f j := by
  intro N
  induction N with
  | zero => intro f h; have := h 0 (by omega); omega
  | succ N ih =>
    intro f h
    by_cases hv : ∃ i, i ≤ N ∧ f i = f (N + 1)
    · obtain ⟨i, hi, e⟩ := hv
      exact ⟨i, N + 1, by omega, by omega, e⟩
    · have hv' : ∀ i, i ≤ N → f i ≠ f (N + 1) := fun i hi e => hv ⟨i, hi, e⟩
      by_cases hN : f (N + 1) = N
      · obtain ⟨i, j, a, b, c⟩ := ih f (fun i hi => by have := h i (by omega); have := hv' i hi; omega)
        exact ⟨i, j, a, by omega, c⟩
      · obtain ⟨i, j, a, b, c⟩ := ih (fun i => if f i = N then f (N + 1) else f i) (fun i hi => by
          have h1 := h i (by omega)
          have h2 := h (N + 1) (by omega)
          show (if f i = N then f (N + 1) else f i) < N
          split <;> omega)
        refine ⟨i, j, a, by omega, ?_⟩
        have c' : (if f i = N then f (N + 1) else f i) = (if f j = N then f (N + 1) else f j) := c
        have n1 := hv' i (by omega)
        have n2 := hv' j (by omega)
        split at c' <;> split at c' <;> omega
theorem php' {N k : Nat} {f : Nat → Nat} (hf : ∀ i, i < k → f i < N) (hd : ∀ i j, i < j → j < k → f i ≠ f j) : k ≤ N := by
  by_cases q : k ≤ N
  · exact q
  · obtain ⟨i, j, a, b, c⟩ := php N f (fun i hi => hf i (by omega))
    exact absurd c (hd i j a (by omega))
def it (g : Nat → Nat) : Nat → Nat → Nat
  | 0, e => e
  | k + 1, e => it g k (g e)
theorem it_s (g : Nat → Nat) (k e : Nat) : it g (k + 1) e = g (it g k e) := by
  induction k generalizing e with
  | zero => rfl
  | succ k ih => exact ih (g e)
theorem it_add (g : Nat → Nat) (j k e : Nat) : it g (j + k) e = it g k (it g j e) := by
  induction j generalizing e with
  | zero => rw [Nat.zero_add]; rfl
  | succ j ih => rw [show j + 1 + k = j + k + 1 by omega]; exact ih (g e)
/-- a map that moves the places below N about -/
def pmt (g : Nat → Nat) (N : Nat) : Prop := (∀ e, e < N → g e < N) ∧ ∀ a b, a < N → b < N → g a = g b → a = b
section ORB
variable {g : Nat → Nat} {N : Nat}
theorem it_lt (P : pmt g N) {e : Nat} (he : e < N) (k : Nat) : it g k e < N := by
  induction k with
  | zero => exact he
  | succ k ih => rw [it_s]; exact P.1 _ ih
theorem it_inj (P : pmt g N) {a b : Nat} (ha : a < N) (hb : b < N) (k : Nat) (h : it g k a = it g k b) : a = b := by
  induction k with
  | zero => exact h
  | succ k ih => rw [it_s, it_s] at h; exact ih (P.2 _ _ (it_lt P ha k) (it_lt P hb k) h)
/-- p is how long the walk from e is -/
def isP (g : Nat → Nat) (e p : Nat) : Prop := 0 < p ∧ it g p e = e ∧ ∀ j, 0 < j → j < p → it g j e ≠ e
theorem isP_ex (P : pmt g N) {e : Nat} (he : e < N) : ∃ p, isP g e p ∧ p ≤ N := by
  obtain ⟨i, j, a, b, c⟩ := php N (fun i => it g i e) (fun i _ => it_lt P he i)
  have c' : it g i e = it g (j - i + i) e := by rw [show j - i + i = j by omega]; exact c
  rw [it_add] at c'
  have hp := it_inj P he (it_lt P he _) i c'
  obtain ⟨p, hp1, hp2⟩ := pk_least (fun p => 0 < p ∧ it g p e = e) ⟨j - i, by omega, hp.symm⟩
  refine ⟨p, ⟨hp1.1, hp1.2, fun k k0 kp q => hp2 k kp ⟨k0, q⟩⟩, ?_⟩
  by_cases q : p ≤ N
  · exact q
  · exact absurd ⟨by omega, hp.symm⟩ (hp2 (j - i) (by omega))
theorem isP_u {e p q : Nat} (x : isP g e p) (y : isP g e q) : p = q := by
  rcases Nat.lt_trichotomy p q with h | h | h
  · exact absurd x.2.1 (y.2.2 p x.1 h)
  · exact h
  · exact absurd y.2.1 (x.2.2 q y.1 h)
theorem isP_ne (P : pmt g N) {e p : Nat} (he : e < N) (x : isP g e p) {i j : Nat} (hij : i < j) (hj : j < p) : it g i e ≠ it g j e := by
  intro h
  have c' : it g i e = it g (j - i + i) e := by rw [show j - i + i = j by omega]; exact h
  rw [it_add] at c'
  exact x.2.2 (j - i) (by omega) (by omega) (it_inj P he (it_lt P he _) i c').symm
def ob (g : Nat → Nat) (a b : Nat) : Prop := ∃ k, it g k a = b
theorem ob_refl (a : Nat) : ob g a a := ⟨0, rfl⟩
theorem ob_step (a : Nat) : ob g a (g a) := ⟨1, rfl⟩
theorem ob_trans {a b c : Nat} (x : ob g a b) (y : ob g b c) : ob g a c := by
  obtain ⟨i, hi⟩ := x
  obtain ⟨j, hj⟩ := y
  exact ⟨i + j, by rw [it_add, hi, hj]⟩
theorem it_mul {e p : Nat} (h : it g p e = e) (q : Nat) : it g (p * q) e = e := by
  induction q with
  | zero => rfl
  | succ q ih => rw [Nat.mul_succ, it_add, ih, h]
theorem ob_symm (P : pmt g N) {a b : Nat} (ha : a < N) (x : ob g a b) : ob g b a := by
  obtain ⟨k, hk⟩ := x
  obtain ⟨p, hp, -⟩ := isP_ex P ha
  refine ⟨p * k - k, ?_⟩
  have hle : k ≤ p * k := Nat.le_mul_of_pos_left k hp.1
  rw [← hk, ← it_add, show k + (p * k - k) = p * k by omega]
  exact it_mul hp.2.1 k
theorem ob_lt (P : pmt g N) {a b : Nat} (ha : a < N) (x : ob g a b) : b < N := by
  obtain ⟨k, hk⟩ := x
  rw [← hk]
  exact it_lt P ha k
theorem ob_p {e p x : Nat} (hp : isP g e p) : ob g e x ↔ ∃ j, j < p ∧ it g j e = x := by
  constructor
  · rintro ⟨k, hk⟩
    have key : ∀ t k, k < t → ∃ j, j < p ∧ it g j e = it g k e := by
      intro t
      induction t with
      | zero => intro k h; omega
      | succ t ih =>
        intro k h
        by_cases q : k < p
        · exact ⟨k, q, rfl⟩
        · obtain ⟨j, a, b⟩ := ih (k - p) (by have := hp.1; omega)
          refine ⟨j, a, b.trans ?_⟩
          have : it g (p + (k - p)) e = it g (k - p) (it g p e) := it_add g p (k - p) e
          rw [hp.2.1, show p + (k - p) = k by omega] at this
          exact this.symm
    obtain ⟨j, a, b⟩ := key (k + 1) k (by omega)
    exact ⟨j, a, b.trans hk⟩
  · rintro ⟨j, -, e⟩
    exact ⟨j, e⟩
/-- the least place of a walk -/
def mn (g : Nat → Nat) (e : Nat) : Prop := ∀ f, ob g e f → e ≤ f
theorem mn_ex (P : pmt g N) {e : Nat} (he : e < N) : ∃ y, mn g y ∧ ob g y e ∧ y ≤ e := by
  obtain ⟨y, hy, hl⟩ := pk_least (fun y => ob g e y) ⟨e, ob_refl e⟩
  refine ⟨y, fun f hf => ?_, ob_symm P he hy, ?_⟩
  · by_cases q : y ≤ f
    · exact q
    · exact absurd (ob_trans hy hf) (hl f (by omega))
  · by_cases q : y ≤ e
    · exact q
    · exact absurd (ob_refl e) (hl e (by omega))
theorem mn_u (P : pmt g N) {a b : Nat} (ha : a < N) (hb : b < N) (x : mn g a) (y : mn g b) (o : ob g a b) : a = b := Nat.le_antisymm (x b o) (y a (ob_symm P ha o))
/-- e is the first of its walk, just if no earlier place leads to it -/
theorem mn_iff (P : pmt g N) {e : Nat} (he : e < N) : mn g e ↔ ¬ ∃ y, y < e ∧ ob g y e := by
  constructor
  · rintro h ⟨y, hy, o⟩
    have := h y (ob_symm P (by omega) o)
    omega
  · intro h f hf
    by_cases q : e ≤ f
    · exact q
    · exact absurd ⟨f, by omega, ob_symm P he hf⟩ h
end ORB
