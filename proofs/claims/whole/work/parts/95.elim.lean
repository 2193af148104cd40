/-! Pure: clearing columns one after another. -/
def EI (m : Nat) (A M : Nat → Nat → Int) (n s r : Nat) (C : Nat → Prop) : Prop := (∀ x, ker m A n s x ↔ ker m M n s x) ∧ (∃ pc : Nat → Nat, ∀ t, t < r → pc t < s ∧ ¬ (m : Int) ∣ M t (pc t) ∧ ∀ i, t < i → i < n → (m : Int) ∣ M i (pc t)) ∧ r ≤ n ∧ ∀ i, r ≤ i → i < n → ∀ c, C c → (m : Int) ∣ M i c
section ELIM
variable {m : Nat} {A M M' : Nat → Nat → Int} {n s r : Nat} {C : Nat → Prop}
theorem dv_eq {a b : Int} (h : (m : Int) ∣ a - b) : (m : Int) ∣ a ↔ (m : Int) ∣ b := by
  constructor
  · intro q
    have := Int.dvd_sub q h
    rw [show a - (a - b) = b by omega] at this
    exact this
  · intro q
    have := Int.dvd_add h q
    rw [show a - b + b = a by omega] at this
    exact this
theorem dv_refl (a : Int) : (m : Int) ∣ a - a := by rw [Int.sub_self]; exact Int.dvd_zero _
theorem EI_0 (A : Nat → Nat → Int) (n s : Nat) : EI m A A n s 0 (fun _ => False) := ⟨fun _ => Iff.rfl, ⟨fun _ => 0, fun t ht => absurd ht (Nat.not_lt_zero t)⟩, Nat.zero_le _, fun _ _ _ _ q => q.elim⟩
theorem EI_end (E : EI m A M n s r C) (h : (∀ c, c < s → C c) ∨ r = n) : EL m A n s r := by
  obtain ⟨e1, ⟨pc, e2⟩, e3, e4⟩ := E
  refine ⟨M, pc, fun x => (e1 x).trans ⟨fun q i hi => q i (by omega), fun q i hi => ?_⟩, fun t ht => ⟨(e2 t ht).1, (e2 t ht).2.1, fun i a b => (e2 t ht).2.2 i a (by omega)⟩⟩
  by_cases w : i < r
  · exact q i w
  · rcases h with h | h
    · exact zs_dvd (fun c hc => Int.dvd_mul_of_dvd_left (e4 i (by omega) hi c (h c hc)))
    · omega
theorem EI_skip (E : EI m A M n s r C) {c : Nat} (h : ∀ i, r ≤ i → i < n → (m : Int) ∣ M i c) : EI m A M n s r (fun x => C x ∨ x = c) := by
  obtain ⟨e1, e2, e3, e4⟩ := E
  refine ⟨e1, e2, e3, fun i a b x q => ?_⟩
  rcases q with q | q
  · exact e4 i a b x q
  · rw [q]; exact h i a b
theorem EI_piv (hm : prm m) (E : EI m A M n s r C) {c q : Nat} (hc : c < s) (h1 : r ≤ q) (h2 : q < n) (h3 : ¬ (m : Int) ∣ M q c) (hC : ∀ x, C x → x < s)
    (t1 : ∀ t, t < r → ∀ x, x < s → (m : Int) ∣ M' t x - M t x) (t2 : ∀ x, x < s → (m : Int) ∣ M' r x - M q x)
    (t3 : ∀ i, r < i → i < n → ∃ a k : Int, ¬ (m : Int) ∣ a ∧ ∀ x, x < s → (m : Int) ∣ M' i x - (a * (if i = q then M r x else M i x) + k * M q x)) (t4 : ∀ i, r < i → i < n → (m : Int) ∣ M' i c) : EI m A M' n s (r + 1) (fun x => C x ∨ x = c) := by
  obtain ⟨e1, ⟨pc, e2⟩, e3, e4⟩ := E
  -- a column in which the rows from r on are 0
  have col : ∀ x, x < s → (∀ i, r ≤ i → i < n → (m : Int) ∣ M i x) → ∀ i, r ≤ i → i < n → (m : Int) ∣ M' i x := fun x hx z i a b => by
    by_cases w : i = r
    · rw [w]
      exact (dv_eq (t2 x hx)).mpr (z q h1 h2)
    · obtain ⟨a', k, -, y⟩ := t3 i (by omega) b
      refine (dv_eq (y x hx)).mpr (Int.dvd_add (Int.dvd_mul_of_dvd_right ?_) (Int.dvd_mul_of_dvd_right (z q h1 h2)))
      split
      · exact z r (Nat.le_refl _) (by omega)
      · exact z i a b
  refine ⟨fun x => (e1 x).trans ⟨fun z i hi => ?_, fun z => ?_⟩, ⟨fun t => if t < r then pc t else c, fun t ht => ?_⟩, by omega, fun i a b x qx => ?_⟩
  · -- the rows of M are 0 at x, so those of M' are
    by_cases w : i < r
    · refine (zs_dvd2 (fun y hy => ?_)).mpr (z i hi)
      rw [← Int.sub_mul]
      exact Int.dvd_mul_of_dvd_left (t1 i w y hy)
    · by_cases w2 : i = r
      · rw [w2]
        refine (zs_dvd2 (g := fun y => M q y * x y) (fun y hy => ?_)).mpr (z q h2)
        rw [← Int.sub_mul]
        exact Int.dvd_mul_of_dvd_left (t2 y hy)
      · obtain ⟨a', k, -, y⟩ := t3 i (by omega) hi
        refine (zs_dvd2 (g := fun y => a' * ((if i = q then M r y else M i y) * x y) + k * (M q y * x y)) (fun u hu => ?_)).mpr ?_
        · have := Int.dvd_mul_of_dvd_left (c := x u) (y u hu)
          rw [Int.sub_mul, Int.add_mul, Int.mul_assoc, Int.mul_assoc] at this
          exact this
        · rw [zs_add, zs_mul, zs_mul]
          refine Int.dvd_add (Int.dvd_mul_of_dvd_right ?_) (Int.dvd_mul_of_dvd_right (z q h2))
          by_cases w3 : i = q
          · have e : zs (fun y => (if i = q then M r y else M i y) * x y) s = zs (fun y => M r y * x y) s := zs_congr (fun y _ => by rw [if_pos w3])
            rw [e]
            exact z r (by omega)
          · have e : zs (fun y => (if i = q then M r y else M i y) * x y) s = zs (fun y => M i y * x y) s := zs_congr (fun y _ => by rw [if_neg w3])
            rw [e]
            exact z i hi
  · -- and back
    have zq : (m : Int) ∣ zs (fun y => M q y * x y) s := by
      refine (zs_dvd2 (f := fun y => M' r y * x y) (fun y hy => ?_)).mp (z r (by omega))
      rw [← Int.sub_mul]
      exact Int.dvd_mul_of_dvd_left (t2 y hy)
    have zi : ∀ i, r < i → i < n → (m : Int) ∣ zs (fun y => (if i = q then M r y else M i y) * x y) s := fun i a b => by
      obtain ⟨a', k, na, y⟩ := t3 i a b
      have w := (zs_dvd2 (f := fun y => M' i y * x y) (g := fun y => a' * ((if i = q then M r y else M i y) * x y) + k * (M q y * x y)) (fun u hu => by
        have := Int.dvd_mul_of_dvd_left (c := x u) (y u hu)
        rw [Int.sub_mul, Int.add_mul, Int.mul_assoc, Int.mul_assoc] at this
        exact this)).mp (z i b)
      rw [zs_add, zs_mul, zs_mul] at w
      have kq : (m : Int) ∣ k * zs (fun y => M q y * x y) s := Int.dvd_mul_of_dvd_right zq
      have w2 := Int.dvd_sub w kq
      rw [show ∀ u v : Int, u + v - v = u from fun u v => by omega] at w2
      rcases hm.2 _ _ w2 with z1 | z1
      · exact absurd z1 na
      · exact z1
    intro i hi
    by_cases w : i < r
    · refine (zs_dvd2 (f := fun y => M' i y * x y) (fun y hy => ?_)).mp (z i hi)
      rw [← Int.sub_mul]
      exact Int.dvd_mul_of_dvd_left (t1 i w y hy)
    · by_cases w2 : i = q
      · rw [w2]; exact zq
      · by_cases w3 : i = r
        · have := zi q (by omega) h2
          have e : zs (fun y => (if q = q then M r y else M q y) * x y) s = zs (fun y => M i y * x y) s := zs_congr (fun y _ => by rw [if_pos rfl, w3])
          rw [e] at this
          exact this
        · have := zi i (by omega) hi
          have e : zs (fun y => (if i = q then M r y else M i y) * x y) s = zs (fun y => M i y * x y) s := zs_congr (fun y _ => by rw [if_neg w2])
          rw [e] at this
          exact this
  · show (if t < r then pc t else c) < s ∧ ¬ (m : Int) ∣ M' t (if t < r then pc t else c) ∧ ∀ i, t < i → i < n → (m : Int) ∣ M' i (if t < r then pc t else c)
    by_cases w : t < r
    · rw [if_pos w]
      obtain ⟨p1, p2, p3⟩ := e2 t w
      refine ⟨p1, fun z => p2 ((dv_eq (t1 t w _ p1)).mp z), fun i a b => ?_⟩
      by_cases w2 : i < r
      · exact (dv_eq (t1 i w2 _ p1)).mpr (p3 i a b)
      · exact col _ p1 (fun i' a' b' => p3 i' (by omega) b') i (by omega) b
    · rw [if_neg w]
      have et : t = r := by omega
      subst et
      exact ⟨hc, fun z => h3 ((dv_eq (t2 c hc)).mp z), fun i a b => t4 i a b⟩
  · rcases qx with qx | qx
    · exact col x (hC x qx) (fun i' a' b' => e4 i' a' b' x qx) i (by omega) b
    · rw [qx]; exact t4 i (by omega) b
end ELIM
/-! the numbers of colours -/
theorem prm_of {m : Nat} (h2 : 2 ≤ m) (h : ∀ a, a < m → ∀ b, b < m → a * b % m = 0 → a = 0 ∨ b = 0) : prm m := by
  refine ⟨h2, fun a b q => ?_⟩
  have m0 : (0 : Int) < (m : Int) := by omega
  have a0 := Int.emod_nonneg a (Int.ne_of_gt m0)
  have a1 := Int.emod_lt_of_pos a m0
  have b0 := Int.emod_nonneg b (Int.ne_of_gt m0)
  have b1 := Int.emod_lt_of_pos b m0
  have e := Int.emod_eq_zero_of_dvd q
  rw [Int.mul_emod] at e
  obtain ⟨u, hu⟩ := Int.eq_ofNat_of_zero_le a0
  obtain ⟨v, hv⟩ := Int.eq_ofNat_of_zero_le b0
  rw [hu, hv] at e
  have e' : u * v % m = 0 := by
    have e3 : ((u * v % m : Nat) : Int) = 0 := by
      rw [Int.natCast_emod, Int.natCast_mul]
      exact e
    omega
  rcases h u (by omega) v (by omega) e' with z | z
  · left
    exact Int.dvd_of_emod_eq_zero (by rw [hu, z]; rfl)
  · right
    exact Int.dvd_of_emod_eq_zero (by rw [hv, z]; rfl)
theorem prm_3 : prm 3 := prm_of (by decide) (by decide)
theorem prm_5 : prm 5 := prm_of (by decide) (by decide)
theorem prm_7 : prm 7 := prm_of (by decide) (by decide)
theorem prm_11 : prm 11 := prm_of (by decide) (by decide)
