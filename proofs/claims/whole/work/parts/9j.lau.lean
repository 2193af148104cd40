/-! Pure: Laurent polynomials as functions of the power; the bracket out of a tally, by powers and by Horner; it is not 0. -/
theorem zs_0 (f : Nat → Int) : zs f 0 = 0 := rfl
theorem zs_s (f : Nat → Int) (n : Nat) : zs f (n + 1) = zs f n + f n := rfl
theorem zs_none {f : Nat → Int} {n : Nat} (h : ∀ i, i < n → f i = 0) : zs f n = 0 := by
  induction n with
  | zero => rfl
  | succ n ih => rw [zs_s, ih (fun i hi => h i (by omega)), h n (by omega)]; rfl
theorem zs_head (f : Nat → Int) (n : Nat) : zs f (n + 1) = f 0 + zs (fun i => f (i + 1)) n := by
  induction n with
  | zero => rw [zs_s, zs_0, zs_0]; omega
  | succ n ih => rw [zs_s, ih, zs_s]; omega
theorem zs_rev (f : Nat → Int) (n : Nat) : zs (fun i => f (n - i)) (n + 1) = zs f (n + 1) := by
  induction n with
  | zero => rfl
  | succ n ih =>
    rw [zs_head, zs_s f (n + 1), ← ih]
    have : zs (fun i => f (n + 1 - (i + 1))) (n + 1) = zs (fun i => f (n - i)) (n + 1) := zs_congr (fun i _ => by rw [Nat.add_sub_add_right])
    rw [this]
    show f (n + 1 - 0) + _ = _ + f (n + 1)
    rw [Nat.sub_zero]
    omega
theorem zs_app (f : Nat → Int) (a b : Nat) : zs f (a + b) = zs f a + zs (fun i => f (a + i)) b := by
  induction b with
  | zero => rw [Nat.add_zero, zs_0]; omega
  | succ b ih => rw [← Nat.add_assoc, zs_s, ih, zs_s]; omega
theorem zs_comm (f : Nat → Nat → Int) (a b : Nat) : zs (fun i => zs (fun j => f i j) b) a = zs (fun j => zs (fun i => f i j) a) b := by
  induction a with
  | zero => rw [zs_0, zs_none (fun j _ => zs_0 _)]
  | succ a ih =>
    rw [zs_s, ih]
    exact (zs_add (fun j => zs (fun i => f i j) a) (fun j => f a j) b).symm
theorem zs_ind {n c0 : Nat} (v : Nat → Int) (h : c0 < n) : zs (fun c => if c = c0 then v c else 0) n = v c0 := by
  induction n with
  | zero => omega
  | succ n ih =>
    rw [zs_s]
    by_cases q : n = c0
    · rw [if_pos q, zs_none (fun i hi => if_neg (by omega)), q]; omega
    · rw [if_neg q, ih (by omega)]; omega
def dl (P : Int → Int) (k : Int) : Int := - P (k - 2) - P (k + 2)
def Dp : Nat → Int → Int
  | 0 => fun k => if k = 0 then 1 else 0
  | c + 1 => dl (Dp c)
theorem Dp_s (c : Nat) (k : Int) : Dp (c + 1) k = - Dp c (k - 2) - Dp c (k + 2) := rfl
theorem Dp_supp : ∀ (c : Nat) (k : Int), k < -(2 * c : Int) ∨ (2 * c : Int) < k → Dp c k = 0 := by
  intro c
  induction c with
  | zero => intro k hk; exact if_neg (by omega)
  | succ c ih =>
    intro k hk
    rw [Dp_s, ih _ (by omega), ih _ (by omega)]
    rfl
/-- circles c + 1 on, r of them: the sum that Horner has when it comes to circle c -/
def hor (T : Nat → Nat → Nat) (n c r : Nat) (k : Int) : Int := zs (fun i => zs (fun s => (T (c + 1 + i) s : Int) * Dp i (k - ((n : Int) - 2 * s))) (n + 1)) r
def brk (T : Nat → Nat → Nat) (n M : Nat) (k : Int) : Int := hor T n 0 M k
section HOR
variable {T : Nat → Nat → Nat} {n : Nat}
theorem hor_0 (c : Nat) (k : Int) : hor T n c 0 k = 0 := rfl
theorem hor_s (c r : Nat) (k : Int) : hor T n c (r + 1) k = dl (hor T n (c + 1) r) k + zs (fun s => (T (c + 1) s : Int) * Dp 0 (k - ((n : Int) - 2 * s))) (n + 1) := by
  have e1 : hor T n c (r + 1) k = zs (fun s => (T (c + 1) s : Int) * Dp 0 (k - ((n : Int) - 2 * s))) (n + 1) + zs (fun i => zs (fun s => (T (c + 1 + (i + 1)) s : Int) * Dp (i + 1) (k - ((n : Int) - 2 * s))) (n + 1)) r := zs_head _ r
  have e2 : zs (fun i => zs (fun s => (T (c + 1 + (i + 1)) s : Int) * Dp (i + 1) (k - ((n : Int) - 2 * s))) (n + 1)) r = dl (hor T n (c + 1) r) k := by
    unfold dl hor
    rw [show ∀ a b : Int, -a - b = (-1) * a - b from fun a b => by omega, ← zs_mul (-1), ← zs_sub]
    refine zs_congr (fun i _ => ?_)
    rw [← zs_mul (-1), ← zs_sub]
    refine zs_congr (fun s _ => ?_)
    rw [show c + 1 + (i + 1) = c + 1 + 1 + i by omega, Dp_s, show k - ((n : Int) - 2 * s) - 2 = k - 2 - ((n : Int) - 2 * s) by omega, show k - ((n : Int) - 2 * s) + 2 = k + 2 - ((n : Int) - 2 * s) by omega, Int.mul_sub, Int.mul_neg]
    omega
  rw [e1, e2]
  omega
theorem hor_supp (c r : Nat) (k : Int) (h : (n : Int) + 2 * r - 2 < k ∨ k < -((n : Int) + 2 * r - 2)) : hor T n c r k = 0 := by
  refine zs_none (fun i hi => zs_none (fun s hs => ?_))
  rw [Dp_supp i _ (by omega), Int.mul_zero]
/-- more circles than there are give nothing more -/
theorem brk_more {M M' : Nat} (h : M ≤ M') (hT : ∀ c s, M < c → s ≤ n → T c s = 0) (k : Int) : brk T n M' k = brk T n M k := by
  obtain ⟨t, e⟩ : ∃ t, M' = M + t := ⟨M' - M, by omega⟩
  subst e
  unfold brk hor
  rw [zs_app]
  rw [zs_none (n := t) (fun i _ => zs_none (fun s hs => by rw [hT _ _ (by omega) (by omega)]; exact Int.zero_mul _))]
  omega
end HOR
/-! it is not 0 -/
def gm (k : Int) : Int := if k % 6 = 0 then 1 else if k % 6 = 1 then 0 else if k % 6 = 2 then -1 else if k % 6 = 3 then -1 else if k % 6 = 4 then 0 else 1
theorem gm_v {k : Int} {r : Int} (h : k % 6 = r) : gm k = if r = 0 then 1 else if r = 1 then 0 else if r = 2 then -1 else if r = 3 then -1 else if r = 4 then 0 else 1 := by unfold gm; rw [h]
theorem gm_6 {P : Int → Prop} (k : Int) (h0 : k % 6 = 0 → P k) (h1 : k % 6 = 1 → P k) (h2 : k % 6 = 2 → P k) (h3 : k % 6 = 3 → P k) (h4 : k % 6 = 4 → P k) (h5 : k % 6 = 5 → P k) : P k := by
  have : k % 6 = 0 ∨ k % 6 = 1 ∨ k % 6 = 2 ∨ k % 6 = 3 ∨ k % 6 = 4 ∨ k % 6 = 5 := by omega
  rcases this with q | q | q | q | q | q
  · exact h0 q
  · exact h1 q
  · exact h2 q
  · exact h3 q
  · exact h4 q
  · exact h5 q
theorem gm_1 (k : Int) : gm (k + 1) + gm (k - 1) = gm k := by
  refine gm_6 (P := fun k => gm (k + 1) + gm (k - 1) = gm k) k (fun q => ?_) (fun q => ?_) (fun q => ?_) (fun q => ?_) (fun q => ?_) (fun q => ?_)
  · rw [gm_v q, gm_v (k := k + 1) (r := 1) (by omega), gm_v (k := k - 1) (r := 5) (by omega)]; rfl
  · rw [gm_v q, gm_v (k := k + 1) (r := 2) (by omega), gm_v (k := k - 1) (r := 0) (by omega)]; rfl
  · rw [gm_v q, gm_v (k := k + 1) (r := 3) (by omega), gm_v (k := k - 1) (r := 1) (by omega)]; rfl
  · rw [gm_v q, gm_v (k := k + 1) (r := 4) (by omega), gm_v (k := k - 1) (r := 2) (by omega)]; rfl
  · rw [gm_v q, gm_v (k := k + 1) (r := 5) (by omega), gm_v (k := k - 1) (r := 3) (by omega)]; rfl
  · rw [gm_v q, gm_v (k := k + 1) (r := 0) (by omega), gm_v (k := k - 1) (r := 4) (by omega)]; rfl
theorem gm_2 (k : Int) : - gm (k + 2) - gm (k - 2) = gm k := by
  have a := gm_1 (k + 1)
  have b := gm_1 (k - 1)
  have c := gm_1 k
  rw [show k + 1 + 1 = k + 2 by omega, show k + 1 - 1 = k by omega] at a
  rw [show k - 1 + 1 = k by omega, show k - 1 - 1 = k - 2 by omega] at b
  omega
def psi (P : Int → Int) : Int := zs (fun i => gm ((i : Int) - 300) * P ((i : Int) - 300)) 601
theorem zs_up {F G : Nat → Int} (N : Nat) (h0 : F 0 = 0) (h1 : F 1 = 0) (g0 : G N = 0) (g1 : G (N + 1) = 0) (e : ∀ i, F (i + 2) = G i) : zs F (N + 2) = zs G (N + 2) := by
  have l : zs F (N + 1 + 1) = F 0 + (F 1 + zs (fun i => F (i + 1 + 1)) N) := by rw [zs_head, zs_head]
  have r : zs G (N + 1 + 1) = zs G N + G N + G (N + 1) := rfl
  show zs F (N + 1 + 1) = zs G (N + 1 + 1)
  rw [l, r, h0, h1, g0, g1, zs_congr (fun i _ => e i)]
  omega
theorem psi_dl {P : Int → Int} (h : ∀ k, k < -298 ∨ 298 < k → P k = 0) : psi (dl P) = psi P := by
  unfold psi
  have e1 : zs (fun i => gm ((i : Int) - 300) * P ((i : Int) - 300 - 2)) 601 = zs (fun i => gm ((i : Int) - 300 + 2) * P ((i : Int) - 300)) 601 := by
    refine zs_up 599 ?_ ?_ ?_ ?_ (fun i => ?_)
    · show _ * P _ = 0
      rw [h _ (by omega), Int.mul_zero]
    · show _ * P _ = 0
      rw [h _ (by omega), Int.mul_zero]
    · show _ * P _ = 0
      rw [h _ (by omega), Int.mul_zero]
    · show _ * P _ = 0
      rw [h _ (by omega), Int.mul_zero]
    · show gm (((i + 2 : Nat) : Int) - 300) * P (((i + 2 : Nat) : Int) - 300 - 2) = _
      rw [show (((i + 2 : Nat) : Int) - 300) = (i : Int) - 300 + 2 by omega, show (i : Int) - 300 + 2 - 2 = (i : Int) - 300 by omega]
  have e2 : zs (fun i => gm ((i : Int) - 300 - 2) * P ((i : Int) - 300)) 601 = zs (fun i => gm ((i : Int) - 300) * P ((i : Int) - 300 + 2)) 601 := by
    refine zs_up 599 ?_ ?_ ?_ ?_ (fun i => ?_)
    · show _ * P _ = 0
      rw [h _ (by omega), Int.mul_zero]
    · show _ * P _ = 0
      rw [h _ (by omega), Int.mul_zero]
    · show _ * P _ = 0
      rw [h _ (by omega), Int.mul_zero]
    · show _ * P _ = 0
      rw [h _ (by omega), Int.mul_zero]
    · show gm (((i + 2 : Nat) : Int) - 300 - 2) * P (((i + 2 : Nat) : Int) - 300) = _
      rw [show (((i + 2 : Nat) : Int) - 300) = (i : Int) - 300 + 2 by omega, show (i : Int) - 300 + 2 - 2 = (i : Int) - 300 by omega]
  have e3 : zs (fun i => gm ((i : Int) - 300) * dl P ((i : Int) - 300)) 601 = -1 * zs (fun i => gm ((i : Int) - 300) * P ((i : Int) - 300 - 2)) 601 - zs (fun i => gm ((i : Int) - 300) * P ((i : Int) - 300 + 2)) 601 := by
    rw [← zs_mul, ← zs_sub]
    refine zs_congr (fun i _ => ?_)
    unfold dl
    rw [Int.mul_sub, Int.mul_neg]
    omega
  rw [e3, e1, ← e2, ← zs_mul, ← zs_sub]
  refine zs_congr (fun i _ => ?_)
  have a := Int.neg_mul (gm ((i : Int) - 300 + 2)) (P ((i : Int) - 300))
  have b := Int.sub_mul (-gm ((i : Int) - 300 + 2)) (gm ((i : Int) - 300 - 2)) (P ((i : Int) - 300))
  rw [gm_2 ((i : Int) - 300)] at b
  rw [b, a]
  omega
theorem psi_D : ∀ (c : Nat) (j : Int), -(298 : Int) + 2 * c ≤ j → j ≤ 298 - 2 * c → psi (fun k => Dp c (k - j)) = gm j := by
  intro c
  induction c with
  | zero =>
    intro j h1 h2
    unfold psi
    have : ∃ i0 : Nat, (i0 : Int) - 300 = j ∧ i0 < 601 := ⟨(j + 300).toNat, by omega, by omega⟩
    obtain ⟨i0, q1, q2⟩ := this
    rw [zs_congr (g := fun i => if i = i0 then gm ((i : Int) - 300) else 0) (fun i _ => ?_), zs_ind (fun i => gm ((i : Int) - 300)) q2, q1]
    show gm ((i : Int) - 300) * (if (i : Int) - 300 - j = 0 then 1 else 0) = if i = i0 then gm ((i : Int) - 300) else 0
    by_cases z : i = i0
    · rw [if_pos z, if_pos (by omega), Int.mul_one]
    · rw [if_neg z, if_neg (by omega), Int.mul_zero]
  | succ c ih =>
    intro j h1 h2
    rw [← ih j (by omega) (by omega)]
    have : (fun k => Dp (c + 1) (k - j)) = dl (fun k => Dp c (k - j)) := by
      funext k
      rw [Dp_s]
      unfold dl
      rw [show k - j - 2 = k - 2 - j by omega, show k - j + 2 = k + 2 - j by omega]
    rw [this]
    exact psi_dl (fun k hk => Dp_supp c _ (by omega))
theorem psi_zs (g : Nat → Int → Int) (M : Nat) : psi (fun k => zs (fun c => g c k) M) = zs (fun c => psi (g c)) M := by
  unfold psi
  rw [← zs_comm]
  exact zs_congr (fun i _ => (zs_mul _ _ _).symm)
theorem psi_mul (a : Int) (P : Int → Int) : psi (fun k => a * P k) = a * psi P := by
  unfold psi
  rw [← zs_mul]
  exact zs_congr (fun i _ => by rw [← Int.mul_assoc, ← Int.mul_assoc, Int.mul_comm a])
theorem psi_brk {T : Nat → Nat → Nat} {n M : Nat} (h : n + 2 * M ≤ 290) : psi (brk T n M) = zs (fun c => zs (fun s => (T (c + 1) s : Int) * gm ((n : Int) - 2 * s)) (n + 1)) M := by
  have e : brk T n M = fun k => zs (fun i => zs (fun s => (T (0 + 1 + i) s : Int) * Dp i (k - ((n : Int) - 2 * s))) (n + 1)) M := rfl
  rw [e, psi_zs]
  refine zs_congr (fun i hi => ?_)
  rw [psi_zs]
  refine zs_congr (fun s hs => ?_)
  rw [psi_mul, psi_D i _ (by omega) (by omega), show 0 + 1 + i = i + 1 by omega]
/-- the tally of the ways below N -/
noncomputable def Tn (f g : Nat → Nat) (N c s : Nat) : Nat := ct (fun w => f w = c ∧ g w = s) N
theorem Tn_sum {f g : Nat → Nat} {n M : Nat} (v : Nat → Int) (N : Nat) (hf : ∀ w, w < N → 1 ≤ f w ∧ f w ≤ M) (hg : ∀ w, w < N → g w ≤ n) : zs (fun c => zs (fun s => (Tn f g N (c + 1) s : Int) * v s) (n + 1)) M = zs (fun w => v (g w)) N := by
  induction N with
  | zero => exact zs_none (fun c _ => zs_none (fun s _ => Int.zero_mul _))
  | succ N ih =>
    have e : ∀ c s, (Tn f g (N + 1) (c + 1) s : Int) * v s = (Tn f g N (c + 1) s : Int) * v s + (if s = g N then (if c = f N - 1 then v s else 0) else 0) := fun c s => by
      unfold Tn
      have := (hf N (by omega)).1
      by_cases z : f N = c + 1 ∧ g N = s
      · rw [ct_y (p := fun w => f w = c + 1 ∧ g w = s) z, if_pos z.2.symm, if_pos (by omega)]
        rw [Int.natCast_add, Int.add_mul]
        show _ + (1 : Int) * v s = _
        rw [Int.one_mul]
      · rw [ct_n (p := fun w => f w = c + 1 ∧ g w = s) z]
        by_cases z2 : s = g N
        · rw [if_pos z2, if_neg (by intro q; exact z ⟨by omega, z2.symm⟩)]; omega
        · rw [if_neg z2]; omega
    rw [zs_congr (fun c _ => zs_congr (fun s _ => e c s)), zs_congr (fun c _ => zs_add _ _ _), zs_add, ih (fun w hw => hf w (by omega)) (fun w hw => hg w (by omega)), zs_s]
    congr 1
    have i1 : ∀ c, zs (fun s => if s = g N then (if c = f N - 1 then v s else 0) else 0) (n + 1) = if c = f N - 1 then v (g N) else 0 := fun c => zs_ind (fun s => if c = f N - 1 then v s else 0) (by have := hg N (by omega); omega)
    rw [zs_congr (fun c _ => i1 c)]
    exact zs_ind (fun _ => v (g N)) (by have := hf N (by omega); omega)
theorem gm_ways : ∀ (n : Nat) (s : Int), zs (fun w => gm (s + n - 2 * (on n w : Int))) (2 ^ n) = gm s := by
  intro n
  induction n with
  | zero =>
    intro s
    show zs _ 1 = _
    rw [zs_s, zs_0, show on 0 0 = 0 from rfl, show s + ((0 : Nat) : Int) - 2 * ((0 : Nat) : Int) = s by omega]
    omega
  | succ n ih =>
    intro s
    rw [Nat.pow_succ, show 2 ^ n * 2 = 2 ^ n + 2 ^ n by omega, zs_app, ← zs_add]
    rw [← ih s]
    refine zs_congr (fun w hw => ?_)
    have o1 : on (n + 1) w = on n w := ct_n (p := fun i => bt w i = 1) (by rw [bt_lo hw]; decide)
    have o2 : on (n + 1) (2 ^ n + w) = on n w + 1 := by
      rw [Nat.add_comm (2 ^ n) w]
      unfold on
      rw [ct_y (p := fun i => bt (w + 2 ^ n) i = 1) (bt_add hw)]
      congr 1
      exact ct_congr (fun i hi => by rw [bt_keep hi])
    rw [o1, o2, ← gm_1 (s + n - 2 * (on n w : Int))]
    rw [show s + ((n + 1 : Nat) : Int) - 2 * (on n w : Int) = s + n - 2 * (on n w : Int) + 1 by omega, show s + ((n + 1 : Nat) : Int) - 2 * ((on n w + 1 : Nat) : Int) = s + n - 2 * (on n w : Int) - 1 by omega]
theorem brk_ne {f : Nat → Nat} {n M : Nat} (h : n + 2 * M ≤ 290) (hf : ∀ w, w < 2 ^ n → 1 ≤ f w ∧ f w ≤ M) : ∃ k : Int, -300 ≤ k ∧ k ≤ 300 ∧ Int64.ofInt (brk (Tn f (on n) (2 ^ n)) n M k) ≠ 0 := by
  refine Classical.byContradiction (fun no => ?_)
  have z : ∀ i : Nat, i < 601 → ((2 ^ 64 : Nat) : Int) ∣ gm ((i : Int) - 300) * brk (Tn f (on n) (2 ^ n)) n M ((i : Int) - 300) := fun i hi => by
    have e0 : Int64.ofInt (brk (Tn f (on n) (2 ^ n)) n M ((i : Int) - 300)) = 0 := Classical.not_not.mp (fun q => no ⟨_, by omega, by omega, q⟩)
    have e1 := (Int64.ofInt_eq_iff_bmod_eq_toInt _ _).mp e0
    exact Int.dvd_trans (Int.dvd_of_bmod_eq_zero e1) (Int.dvd_mul_left _ _)
  have e1 : psi (brk (Tn f (on n) (2 ^ n)) n M) = 1 := by
    rw [psi_brk h, Tn_sum (fun s => gm ((n : Int) - 2 * s)) (2 ^ n) hf (fun w _ => by have := zr_on n w; omega)]
    have := gm_ways n 0
    rw [← show gm 0 = 1 from rfl, ← this]
    exact zs_congr (fun w _ => by rw [show (0 : Int) + n - 2 * (on n w : Int) = n - 2 * (on n w : Int) by omega])
  have e2 : ((2 ^ 64 : Nat) : Int) ∣ psi (brk (Tn f (on n) (2 ^ n)) n M) := zs_dvd z
  rw [e1] at e2
  exact absurd e2 (by decide)
