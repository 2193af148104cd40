/-! Pure: counting smoothings by their circles; the walk along a circle. -/
theorem bt_lo {w k : Nat} (h : w < 2 ^ k) : bt w k = 0 := by
  unfold bt
  rw [Nat.div_eq_of_lt h]
theorem bt_add {w k : Nat} (h : w < 2 ^ k) : bt (w + 2 ^ k) k = 1 := by
  unfold bt
  rw [Nat.add_div_right _ (Nat.two_pow_pos k), Nat.div_eq_of_lt h]
theorem bt_keep {w k i : Nat} (h : i < k) : bt (w + 2 ^ k) i = bt w i := by
  unfold bt
  obtain ⟨t, e⟩ : ∃ t, k = i + (t + 1) := ⟨k - i - 1, by omega⟩
  rw [e, Nat.pow_add, Nat.add_mul_div_left _ _ (Nat.two_pow_pos i), Nat.pow_succ]
  omega
theorem ct_eo {q : Nat → Prop} (N : Nat) : ct q (2 * N) = ct (fun u => q (2 * u)) N + ct (fun u => q (2 * u + 1)) N := by
  induction N with
  | zero => rfl
  | succ N ih =>
    have e : 2 * (N + 1) = 2 * N + 1 + 1 := by omega
    rw [e]
    by_cases h1 : q (2 * N) <;> by_cases h2 : q (2 * N + 1)
    · rw [ct_y h2, ct_y h1, ct_y (p := fun u => q (2 * u)) h1, ct_y (p := fun u => q (2 * u + 1)) h2, ih]; omega
    · rw [ct_n h2, ct_y h1, ct_y (p := fun u => q (2 * u)) h1, ct_n (p := fun u => q (2 * u + 1)) h2, ih]; omega
    · rw [ct_y h2, ct_n h1, ct_n (p := fun u => q (2 * u)) h1, ct_y (p := fun u => q (2 * u + 1)) h2, ih]; omega
    · rw [ct_n h2, ct_n h1, ct_n (p := fun u => q (2 * u)) h1, ct_n (p := fun u => q (2 * u + 1)) h2, ih]
/-- the ways on from w0, split by the bit k -/
theorem ct_split {p : Nat → Prop} (w0 k j : Nat) : ct (fun u => p (w0 + 2 ^ k * u)) (2 ^ (j + 1)) = ct (fun u => p (w0 + 2 ^ (k + 1) * u)) (2 ^ j) + ct (fun u => p (w0 + 2 ^ k + 2 ^ (k + 1) * u)) (2 ^ j) := by
  rw [Nat.pow_succ 2 j, Nat.mul_comm _ 2, ct_eo]
  have e1 : ∀ u, 2 ^ k * (2 * u) = 2 ^ (k + 1) * u := fun u => by rw [← Nat.mul_assoc, ← Nat.pow_succ]
  have e2 : ∀ u, w0 + 2 ^ k * (2 * u + 1) = w0 + 2 ^ k + 2 ^ (k + 1) * u := fun u => by rw [Nat.mul_add, e1, Nat.mul_one]; omega
  have c1 : ct (fun u => p (w0 + 2 ^ k * (2 * u))) (2 ^ j) = ct (fun u => p (w0 + 2 ^ (k + 1) * u)) (2 ^ j) := ct_congr (fun u _ => by rw [e1])
  have c2 : ct (fun u => p (w0 + 2 ^ k * (2 * u + 1))) (2 ^ j) = ct (fun u => p (w0 + 2 ^ k + 2 ^ (k + 1) * u)) (2 ^ j) := ct_congr (fun u _ => by rw [e2])
  rw [c1, c2]
noncomputable def zr (n w : Nat) : Nat := ct (fun i => bt w i = 0) n
noncomputable def on (n w : Nat) : Nat := ct (fun i => bt w i = 1) n
theorem zr_on (n w : Nat) : zr n w + on n w = n := by
  induction n with
  | zero => rfl
  | succ n ih =>
    unfold zr on at ih ⊢
    have b := bt_2 w n
    by_cases h : bt w n = 0
    · rw [ct_y (p := fun i => bt w i = 0) h, ct_n (p := fun i => bt w i = 1) (by omega)]; omega
    · rw [ct_n (p := fun i => bt w i = 0) h, ct_y (p := fun i => bt w i = 1) (by omega)]; omega
section CYC
variable {n : Nat} {A m : Nat → Nat} {w k : Nat}
theorem ct_r0 (P : Pr n A m) : ct (lm (r0 m (4 * n))) (4 * n) = 2 * n := by
  have e1 : ct (lm (r0 m (4 * n))) (4 * n) = ct (fun e => e < m e) (4 * n) := ct_congr (fun e he => ⟨fun q => by
    have := q (m e) (Or.inr ⟨he, rfl⟩)
    have := P.ne he
    omega, fun q f hf => by
    rcases hf with x | ⟨x1, x2⟩ <;> omega⟩)
  have sum : ∀ N, ct (fun e => e < m e) N + ct (fun e => ¬ e < m e) N = N := fun N => by
    induction N with
    | zero => rfl
    | succ N ih =>
      by_cases h : N < m N
      · rw [ct_y (p := fun e => e < m e) h, ct_n (p := fun e => ¬ e < m e) (fun q => q h)]; omega
      · rw [ct_n (p := fun e => e < m e) h, ct_y (p := fun e => ¬ e < m e) h]; omega
  have l1 : ct (fun e => e < m e) (4 * n) ≤ ct (fun e => ¬ e < m e) (4 * n) := ct_inj_le m (fun i hi q => ⟨P.lt hi, by rw [P.mm hi]; omega⟩) (fun i j hi hj _ _ e => P.inj hi hj e)
  have l2 : ct (fun e => ¬ e < m e) (4 * n) ≤ ct (fun e => e < m e) (4 * n) := ct_inj_le m (fun i hi q => ⟨P.lt hi, by rw [P.mm hi]; have := P.ne hi; omega⟩) (fun i j hi hj _ _ e => P.inj hi hj e)
  have := sum (4 * n)
  omega
theorem ct_jo {E : Nat → Nat → Prop} {N u v : Nat} (Q : EQ E N) (hu : u < N) (hv : v < N) : ct (lm (jo E u v)) N ≤ ct (lm E) N := by
  by_cases h : E u v
  · rw [jo_same Q hu hv h]; exact Nat.le_refl _
  · have := jo_two Q hu hv h; omega
theorem cy_le (P : Pr n A m) : cy n m w ≤ 2 * n := by
  have key : ∀ k, k ≤ n → ct (lm (RR n m w k)) (4 * n) ≤ 2 * n := fun k => by
    induction k with
    | zero => intro _; exact Nat.le_of_eq (ct_r0 P)
    | succ k ih =>
      intro hk
      have Q := RR_EQ P w k (by omega)
      refine Nat.le_trans ?_ (ih (by omega))
      rw [RR_s]
      by_cases h : bt w k = 0
      · rw [t2_0 h]
        exact Nat.le_trans (ct_jo (jo_EQ Q (by omega) (by omega)) (by omega) (by omega)) (ct_jo Q (by omega) (by omega))
      · rw [t2_1 h]
        exact Nat.le_trans (ct_jo (jo_EQ Q (by omega) (by omega)) (by omega) (by omega)) (ct_jo Q (by omega) (by omega))
  exact key n (Nat.le_refl _)
theorem cy_pos (P : Pr n A m) (h : 0 < n) : 0 < cy n m w := by
  have Q := RR_EQ P w n (Nat.le_refl _)
  obtain ⟨y, h1, h2, h3⟩ := lm_ex Q (e := 0) (by omega)
  exact ct_pos (show y < 4 * n by omega) h1
/-! walking along a circle -/
def wg (m : Nat → Nat) (w e : Nat) : Nat := sj w (m e)
theorem wgP (P : Pr n A m) : pmt (wg m w) (4 * n) := ⟨fun e he => sj_lt (P.lt he), fun a b ha hb h => by
  have h' : sj w (m a) = sj w (m b) := h
  have : m a = m b := by rw [← sj_sj w (m a), h', sj_sj]
  exact P.inj ha hb this⟩
theorem wg_m (P : Pr n A m) {e : Nat} (he : e < 4 * n) : wg m w (m (wg m w e)) = m e := by
  have h : m (m (wg m w e)) = wg m w e := P.mm ((wgP P).1 e he)
  show sj w (m (m (wg m w e))) = m e
  rw [h]
  exact sj_sj _ _
theorem wg_it (P : Pr n A m) {e : Nat} (he : e < 4 * n) (k : Nat) : it (wg m w) k (m (it (wg m w) k e)) = m e := by
  induction k with
  | zero => rfl
  | succ k ih =>
    rw [it_s (wg m w) k e]
    show it (wg m w) k (wg m w (m (wg m w (it (wg m w) k e)))) = m e
    rw [wg_m P (it_lt (wgP P) he k)]
    exact ih
theorem wg_no (P : Pr n A m) {x : Nat} (hx : x < 4 * n) : ¬ ob (wg m w) x (m x) := by
  rintro ⟨t, ht⟩
  rcases Nat.mod_two_eq_zero_or_one t with p | p
  · obtain ⟨u, hu⟩ : ∃ u, t = u + u := ⟨t / 2, by omega⟩
    rw [hu, it_add] at ht
    have h1 := wg_it (w := w) P (it_lt (wgP (w := w) P) hx u) u
    rw [ht, P.mm hx] at h1
    exact P.ne (it_lt (wgP P) hx u) h1.symm
  · obtain ⟨u, hu⟩ : ∃ u, t = u + 1 + u := ⟨t / 2, by omega⟩
    rw [hu, it_add] at ht
    have h1 := wg_it (w := w) P (it_lt (wgP (w := w) P) hx (u + 1)) u
    rw [ht, P.mm hx, it_s] at h1
    have hz := it_lt (wgP (w := w) P) hx u
    have h2 : m (it (wg m w) u x) = wg m w (it (wg m w) u x) := by
      have h3 := P.mm ((wgP (w := w) P).1 _ hz)
      rw [← h1] at h3
      exact h3
    exact sj_ne w (m (it (wg m w) u x)) h2.symm
theorem wg_not (P : Pr n A m) {y x : Nat} (hy : y < 4 * n) (o : ob (wg m w) y x) : ¬ ob (wg m w) y (m x) := fun q => wg_no P (ob_lt (wgP P) hy o) (ob_trans (ob_symm (wgP P) hy o) q)
theorem RR_it (P : Pr n A m) {e : Nat} (he : e < 4 * n) (k : Nat) : RR n m w n e (it (wg m w) k e) := by
  have Q := RR_EQ P w n (Nat.le_refl _)
  induction k with
  | zero => exact Q.1 e
  | succ k ih =>
    rw [it_s]
    have hx := it_lt (wgP (w := w) P) he k
    refine Q.2.2.1 _ _ _ ih (Q.2.2.1 _ _ _ (RR_m hx) (RR_j P (P.lt hx) ?_ (Nat.le_refl _)))
    have := P.lt hx
    omega
/-- the circle through e is what the walk from e marks -/
theorem RR_iff (P : Pr n A m) {e p x : Nat} (he : e < 4 * n) (hp : isP (wg m w) e p) : RR n m w n e x ↔ ∃ i, i < p ∧ (it (wg m w) i e = x ∨ m (it (wg m w) i e) = x) := by
  have Q := RR_EQ P w n (Nat.le_refl _)
  constructor
  · intro o
    refine RR_sub (S := fun x => ∃ i, i < p ∧ (it (wg m w) i e = x ∨ m (it (wg m w) i e) = x)) (k := n) (m := m) (w := w) ?_ ?_ (Nat.le_refl _) o ⟨0, hp.1, Or.inl rfl⟩
    · rintro y hy ⟨i, hi, q | q⟩
      · exact ⟨i, hi, Or.inr (by rw [q])⟩
      · exact ⟨i, hi, Or.inl (by rw [← q, P.mm (it_lt (wgP P) he i)])⟩
    · rintro y hy ⟨i, hi, q | q⟩
      · by_cases z : i = 0
        · subst z
          have q' : e = y := q
          refine ⟨p - 1, by have := hp.1; omega, Or.inr ?_⟩
          have e1 : it (wg m w) p e = wg m w (it (wg m w) (p - 1) e) := by rw [← it_s (wg m w), show p - 1 + 1 = p by have := hp.1; omega]
          rw [hp.2.1, q'] at e1
          have e2 : y = sj w (m (it (wg m w) (p - 1) y)) := e1
          rw [q']
          exact (show sj w y = m (it (wg m w) (p - 1) y) by rw (occs := .pos [1]) [e2]; exact sj_sj _ _).symm
        · refine ⟨i - 1, by omega, Or.inr ?_⟩
          have e1 : it (wg m w) i e = wg m w (it (wg m w) (i - 1) e) := by rw [← it_s (wg m w), show i - 1 + 1 = i by omega]
          rw [q] at e1
          have e2 : y = sj w (m (it (wg m w) (i - 1) e)) := e1
          rw [e2, sj_sj]
      · by_cases z : i + 1 < p
        · exact ⟨i + 1, z, Or.inl (by rw [it_s, ← q]; rfl)⟩
        · refine ⟨0, hp.1, Or.inl ?_⟩
          have e1 : it (wg m w) p e = wg m w (it (wg m w) i e) := by rw [← it_s (wg m w), show i + 1 = p by omega]
          rw [hp.2.1] at e1
          rw [← q]
          exact e1
  · rintro ⟨i, hi, q | q⟩
    · rw [← q]; exact RR_it P he i
    · rw [← q]; exact Q.2.2.1 _ _ _ (RR_it P he i) (RR_m (it_lt (wgP P) he i))
end CYC
