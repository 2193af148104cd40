/-! Moves on the class's side: flype; applyTo, withdrawFrom, takeStep. -/
def inb (B : Int32) (e : Nat) : Bool := decide (e / 4 < 31) && decide (((B >>> (nI (e / 4) &&& 31)) &&& 1) = 1)
def thr (B : Int32) (n : Nat) : Prop := ¬ B < 0 ∧ (30 < n ∨ B >>> (nI n &&& 31) = 0)
def wyo (B : Int32) (m : Nat → Nat) (k e0 : Nat) (r : Int32) : Prop := (∃ j, (∀ i, i < j → inb B (m (it (fun e => cn (m e) k) i e0)) = true) ∧ inb B (m (it (fun e => cn (m e) k) j e0)) = false ∧ r = nI (it (fun e => cn (m e) k) j e0)) ∨ ((∀ j, inb B (m (it (fun e => cn (m e) k) j e0)) = true) ∧ r = m1)
def nwo (B : Int32) (m : Nat → Nat) (x : Nat) : Prop := inb B x = true ∧ inb B (m x) = false
def flyp (n : Nat) (m : Nat → Nat) (a B : Int32) (e w v r s : Nat) : Prop := e < 4 * n ∧ a = nI e ∧ thr B n ∧ inb B e = false ∧ w = m e ∧ v = m (cn e 1) ∧ inb B w = true ∧ inb B v = true ∧ ct (nwo B m) (4 * n) = 4 ∧ wyo B m 3 (cn v 3) (nI r) ∧ wyo B m 1 (cn w 1) (nI s) ∧ r < 4 * n ∧ s < 4 * n ∧ r ≠ s ∧ r ≠ w ∧ r ≠ v ∧ s ≠ w ∧ s ≠ v
def pas (A : Nat → Nat) (e w v r s : Nat) : Nat → Nat := u1 (u1 (u1 (u1 (u1 (u1 (u1 (u1 A e (A s)) (cn e 1) (A r)) (cn e 2) (A e)) (cn e 3) (A (cn e 1))) w (A (cn e 2))) v (A (cn e 3))) s (A e)) r (A (cn e 1))
def tvs (B : Int32) (j : Nat) (A : Nat → Nat) : Nat → Nat := fun e => if e / 4 < j ∧ inb B e = true then (if e % 2 = 0 then A (e + 1) else A (e - 1)) else A e
def mvF (n l : Nat) (A m : Nat → Nat) (a B : Int32) (f n' l' : Nat) (A' : Nat → Nat) : Prop := ((¬ ∃ e w v r s, flyp n m a B e w v r s) ∧ f = 5) ∨ ∃ e w v r s, flyp n m a B e w v r s ∧ f = 0 ∧ n' = n ∧ l' = l ∧ A' = tvs B n (pas A e w v r s)
theorem inb_d {B : Int32} {e g : Nat} (h : e / 4 = g / 4) : inb B e = inb B g := by unfold inb; rw [h]
theorem inb_lt {B : Int32} {e : Nat} (h : inb B e = true) : e / 4 < 31 := by
  unfold inb at h
  exact of_decide_eq_true (Bool.and_eq_true_iff.mp h).1
theorem tvs_0 (B : Int32) (A : Nat → Nat) : tvs B 0 A = A := by
  funext e
  exact if_neg (by omega)
theorem tvs_n {B : Int32} {j : Nat} {A : Nat → Nat} (h : inb B (4 * j) = false) : tvs B (j + 1) A = tvs B j A := by
  funext e
  unfold tvs
  by_cases q : e / 4 = j
  · have : inb B e = false := by rw [inb_d (g := 4 * j) (by omega)]; exact h
    rw [if_neg (fun z => by rw [this] at z; exact absurd z.2 (by decide)), if_neg (fun z => by rw [this] at z; exact absurd z.2 (by decide))]
  · by_cases w : e / 4 < j ∧ inb B e = true
    · rw [if_pos w, if_pos ⟨by omega, w.2⟩]
    · rw [if_neg w, if_neg (fun z => w ⟨by omega, z.2⟩)]
theorem tvs_y {B : Int32} {j : Nat} {A : Nat → Nat} (h : inb B (4 * j) = true) : tvs B (j + 1) A = tov j (tvs B j A) := by
  funext e
  unfold tov
  by_cases q : e / 4 = j
  · have hi : inb B e = true := by rw [inb_d (g := 4 * j) (by omega)]; exact h
    rw [if_pos q]
    have up : ∀ x, x / 4 = j → tvs B j A x = A x := fun x hx => if_neg (fun z => by omega)
    unfold tvs at up ⊢
    rw [if_pos ⟨by omega, hi⟩]
    by_cases w : e % 2 = 0
    · rw [if_pos w, if_pos w, up (e + 1) (by omega)]
    · rw [if_neg w, if_neg w, up (e - 1) (by omega)]
  · rw [if_neg q]
    unfold tvs
    by_cases w : e / 4 < j ∧ inb B e = true
    · rw [if_pos w, if_pos ⟨by omega, w.2⟩]
    · rw [if_neg w, if_neg (fun z => w ⟨by omega, z.2⟩)]
theorem isInV (B : Int32) {e : Nat} (he : e < 2 ^ 31) (g : AH) : X5_isIn_V B (nI e) g = nI 0 ↔ inb B e = false := by
  unfold X5_isIn_V
  rw [sh2' he, if_neg (nI_pos (by omega))]
  have c30 : (30 : Int32) < nI (e / 4) ↔ 30 < e / 4 := nI_ltI (a := 30) (by omega) (by omega)
  by_cases q : e / 4 < 31
  · rw [if_neg (fun z => by have := c30.mp z; omega)]
    by_cases w : ((B >>> (nI (e / 4) &&& 31)) &&& 1) = 1
    · have : inb B e = true := by unfold inb; rw [decide_eq_true q, decide_eq_true w]; rfl
      rw [if_pos w, this]
      exact ⟨fun z => absurd z (by decide), fun z => absurd z (by decide)⟩
    · have : inb B e = false := by unfold inb; rw [decide_eq_false w, Bool.and_false]
      rw [if_neg w, this]
      exact ⟨fun _ => rfl, fun _ => rfl⟩
  · have : inb B e = false := by unfold inb; rw [decide_eq_false q, Bool.false_and]
    rw [if_pos (c30.mpr (by omega)), this]
    exact ⟨fun _ => rfl, fun _ => rfl⟩
theorem hasV (B : Int32) {e : Nat} (he : e < 2 ^ 31) (g : AH) : X12_has_V B (nI e) g = nI 0 ↔ inb B e = false := by
  unfold X12_has_V
  have e4 : nI e / 4 = nI (e / 4) := pk_div (d := 4) he (by omega) (by omega)
  rw [e4]
  have c31 : (31 : Int32) ≤ nI (e / 4) ↔ 31 ≤ e / 4 := nI_leI (a := 31) (by omega) (by omega)
  by_cases q : e / 4 < 31
  · rw [if_neg (fun z => by have := c31.mp z; omega)]
    by_cases w : ((B >>> (nI (e / 4) &&& 31)) &&& 1) = 1
    · have : inb B e = true := by unfold inb; rw [decide_eq_true q, decide_eq_true w]; rfl
      rw [if_pos w, this]
      exact ⟨fun z => absurd z (by decide), fun z => absurd z (by decide)⟩
    · have : inb B e = false := by unfold inb; rw [decide_eq_false w, Bool.and_false]
      rw [if_neg w, this]
      exact ⟨fun _ => rfl, fun _ => rfl⟩
  · have : inb B e = false := by unfold inb; rw [decide_eq_false q, Bool.false_and]
    rw [if_pos (c31.mpr (by omega)), this]
    exact ⟨fun _ => rfl, fun _ => rfl⟩
theorem areV (B : Int32) {n : Nat} (h40 : n ≤ 40) (g : AH) : X5_areThere_V B (nI n) g = nI 0 ↔ ¬ thr B n := by
  unfold X5_areThere_V thr
  have c30 : (30 : Int32) < nI n ↔ 30 < n := nI_ltI (a := 30) (by omega) (by omega)
  by_cases q : B < 0
  · rw [if_pos q]
    exact ⟨fun _ z => z.1 q, fun _ => rfl⟩
  · rw [if_neg q]
    by_cases w : 30 < n
    · rw [if_pos (c30.mpr w)]
      exact ⟨fun z => absurd z (by decide), fun z => absurd ⟨q, Or.inl w⟩ z⟩
    · rw [if_neg (fun z => w (c30.mp z))]
      by_cases y : B >>> (nI n &&& 31) = 0
      · rw [if_pos y]
        exact ⟨fun z => absurd z (by decide), fun z => absurd ⟨q, Or.inr y⟩ z⟩
      · rw [if_neg y]
        refine ⟨fun _ z => ?_, fun _ => rfl⟩
        rcases z.2 with z | z
        · exact w z
        · exact y z
theorem wyo_ex (B : Int32) (m : Nat → Nat) (k e0 : Nat) : ∃ r, wyo B m k e0 r := by
  by_cases q : ∃ j, inb B (m (it (fun e => cn (m e) k) j e0)) = false
  · obtain ⟨j, h1, h2⟩ := pk_least _ q
    exact ⟨_, Or.inl ⟨j, fun i hi => by
      have := h2 i hi
      exact Bool.not_eq_false _ ▸ this, h1, rfl⟩⟩
  · exact ⟨_, Or.inr ⟨fun j => by
      by_cases w : inb B (m (it (fun e => cn (m e) k) j e0)) = true
      · exact w
      · exact absurd ⟨j, Bool.eq_false_iff.mpr w⟩ q, rfl⟩⟩
theorem wyo_u {B : Int32} {m : Nat → Nat} {k e0 : Nat} {r r' : Int32} (x : wyo B m k e0 r) (y : wyo B m k e0 r') : r = r' := by
  rcases x with ⟨j, a1, a2, a3⟩ | ⟨a1, a2⟩
  · rcases y with ⟨j', b1, b2, b3⟩ | ⟨b1, b2⟩
    · have : j = j' := by
        rcases Nat.lt_trichotomy j j' with q | q | q
        · have := b1 j q; rw [a2] at this; exact absurd this (by decide)
        · exact q
        · have := a1 j' q; rw [b2] at this; exact absurd this (by decide)
      rw [a3, b3, this]
    · have := b1 j; rw [a2] at this; exact absurd this (by decide)
  · rcases y with ⟨j', b1, b2, b3⟩ | ⟨b1, b2⟩
    · have := a1 j'; rw [b2] at this; exact absurd this (by decide)
    · rw [a2, b2]
/-- it comes out within a round -/
theorem wyo_lt {n : Nat} {A m : Nat → Nat} {B : Int32} {k e0 j : Nat} (R : Pr n A m) (he : e0 < 4 * n) (a1 : ∀ i, i < j → inb B (m (it (fun e => cn (m e) k) i e0)) = true) (a2 : inb B (m (it (fun e => cn (m e) k) j e0)) = false) : j < 4 * n := by
  obtain ⟨p, hp, hpn⟩ := isP_ex (R.pmt k) he
  by_cases q : j < p
  · omega
  · have e : it (fun e => cn (m e) k) (j - p) e0 = it (fun e => cn (m e) k) j e0 := by
      have := it_add (fun e => cn (m e) k) p (j - p) e0
      rw [hp.2.1, show p + (j - p) = j by omega] at this
      exact this.symm
    have := a1 (j - p) (by have := hp.1; omega)
    rw [e, a2] at this
    exact absurd this (by decide)
section CFLY
variable {h : AH} {d bc bs b lb n l o kd : Nat} {A m : Nat → Nat} {x1 x2 x3 : Int32} {Q : Option Value → AH → Prop}
theorem c_wayOut {B r : Int32} {k e : Nat} (L : lk h lb) (hm : ∀ e, e < 4 * n → ah_i h (lb + 1) e = nI (m e)) (h40 : n ≤ 40) (R : Pr n A m) (he : e < 4 * n) (hk : k < 4) (W : wyo B m k (cn e k) r) (kk : Q (some (.int r)) h) : ex_S yX5_wayOut mX5_wayOut (d + 1) [.ref lb, .int B, .int (nI e), .int (nI k)] h bc bs Q := by
  have he0 := cn_lt k he
  have lt := fun j => it_lt (R.pmt k) he0 j
  refine X5_wayOut_e (X5_wayOut_0 (fun x1 e1 => ?_))
  rw [corner_nI (by omega) (by omega)] at e1
  subst e1
  have step : ∀ j, j < 160 → inb B (m (it (fun e => cn (m e) k) j (cn e k))) = true → ex_G mX5_wayOut (d + 1) 10 [.ref lb, .int B, .retAddr 0, .int (nI k), .int (nI (it (fun e => cn (m e) k) (j + 1) (cn e k))), .int (nI (j + 1))] [] h bc bs Q → ex_G mX5_wayOut (d + 1) 10 [.ref lb, .int B, .retAddr 0, .int (nI k), .int (nI (it (fun e => cn (m e) k) j (cn e k))), .int (nI j)] [] h bc bs Q := by
    intro j hj hi nx
    have hl := lt j
    have hml := R.lt hl
    refine X5_wayOut_10 ?_
    have c160 : (160 : Int32) ≤ nI j ↔ 160 ≤ j := nI_leI (a := 160) (by omega) (by omega)
    rw [c160]
    refine ⟨fun z => by omega, fun _ => ⟨lk_o L, lb + 1, lk_r0 L, ?_⟩⟩
    rw [lk_s0 L, ix_nI (by omega), nI_clamp (by omega), hm _ hl]
    refine ⟨by omega, fun _ => ?_, fun z => ?_⟩
    · intro x6 e6 x7 e7
      rw [corner_nI (by omega) (by omega)] at e6
      rw [nI_1] at e7
      subst e6
      subst e7
      rw [it_s] at nx
      exact nx
    · have z' : X5_isIn_V B (nI (m (it (fun e => cn (m e) k) j (cn e k)))) h = nI 0 := z
      rw [isInV B (by omega), hi] at z'
      exact absurd z' (by decide)
  rcases W with ⟨j0, a1, a2, a3⟩ | ⟨a1, a2⟩
  · have j160 := wyo_lt R he0 a1 a2
    refine lp (σ := Unit) (s := ()) j0 (fun _ _ => True) (fun j _ => ex_G mX5_wayOut (d + 1) 10 [.ref lb, .int B, .retAddr 0, .int (nI k), .int (nI (it (fun e => cn (m e) k) j (cn e k))), .int (nI j)] [] h bc bs Q) trivial (fun j _ hj _ nx => step j (by omega) (a1 j hj) (nx () trivial)) (fun _ _ => ?_)
    have hl := lt j0
    have hml := R.lt hl
    refine X5_wayOut_10 ?_
    have c160 : (160 : Int32) ≤ nI j0 ↔ 160 ≤ j0 := nI_leI (a := 160) (by omega) (by omega)
    rw [c160]
    refine ⟨fun z => by omega, fun _ => ⟨lk_o L, lb + 1, lk_r0 L, ?_⟩⟩
    rw [lk_s0 L, ix_nI (by omega), nI_clamp (by omega), hm _ hl]
    refine ⟨by omega, fun z => absurd ?_ z, fun _ => ?_⟩
    · exact (isInV B (by omega) h).mpr a2
    · rw [a3] at kk
      exact kk
  · refine lp (σ := Unit) (s := ()) 160 (fun _ _ => True) (fun j _ => ex_G mX5_wayOut (d + 1) 10 [.ref lb, .int B, .retAddr 0, .int (nI k), .int (nI (it (fun e => cn (m e) k) j (cn e k))), .int (nI j)] [] h bc bs Q) trivial (fun j _ hj _ nx => step j hj (a1 j) (nx () trivial)) (fun _ _ => ?_)
    refine X5_wayOut_10 ⟨fun _ => ?_, fun z => absurd (show (160 : Int32) ≤ nI 160 by decide) z⟩
    rw [a2] at kk
    exact kk
theorem c_countOut {B : Int32} (L : lk h lb) (hn : ah_f h lb 10 = nI n) (hm : ∀ e, e < 4 * n → ah_i h (lb + 1) e = nI (m e)) (h40 : n ≤ 40) (R : Pr n A m) (kk : Q (some (.int (nI (ct (nwo B m) (4 * n))))) h) : ex_S yX5_countWaysOut mX5_countWaysOut (d + 1) [.ref lb, .int B] h bc bs Q := by
  refine X5_countWaysOut_e (X5_countWaysOut_0 ?_)
  refine lp (σ := Unit) (s := ()) (4 * n) (fun _ _ => True) (fun j _ => ex_G mX5_countWaysOut (d + 1) 4 [.ref lb, .int B, .int (nI (ct (nwo B m) j)), .int (nI j)] [] h bc bs Q) trivial (fun j _ hj _ nx => ?_) (fun _ _ => ?_)
  · have nx := nx () trivial
    have hml := R.lt hj
    have v1 := isInV B (e := j) (by omega) h
    have v2 := isInV B (e := m j) (by omega) h
    have hmj := hm j hj
    refine X5_countWaysOut_4 ?_
    simp (disch := omega) only [lk_o L, lk_r0 L, lk_s0 L, hn, hmj, v1, v2, forall_eq, Option.some.injEq, exists_eq_left', Option.getD_some, n_sf, k_sf, f_sf_s, f_sf_n, r_sf, i_sf, l_sf, q_sf, ld0_sf, st0_sf, ld1_sf, ld2_sf, ld3_sf, ah_o_sf, in__sf, cp__sf, ah_x_sf, ah_ra_sf, n_si, k_si, f_si, r_si, i_si_s, i_si_n, l_si, q_si, ld0_si, st0_si, ld1_si, ld2_si, ld3_si, ah_o_si, in__si, cp__si, ah_x_si, ah_ra_si, n_sl, k_sl, f_sl, r_sl, i_sl, l_sl_s, l_sl_n, q_sl, ld0_sl, st0_sl, ld1_sl, ld2_sl, ld3_sl, ah_o_sl, in__sl, cp__sl, ah_x_sl, ah_ra_sl, n_wi, k_wi, f_wi, r_wi, i_wi_s, i_wi_n, l_wi, q_wi, ld0_wi, st0_wi, ld1_wi, ld2_wi, ld3_wi, ah_o_wi, in__wi, cp__wi, ah_x_wi, ah_ra_wi, n_wl, k_wl, f_wl, r_wl, i_wl, l_wl_s, l_wl_n, q_wl, ld0_wl, st0_wl, ld1_wl, ld2_wl, ld3_wl, ah_o_wl, in__wl, cp__wl, ah_x_wl, ah_ra_wl, n_sr, k_sr, f_sr, r_sr_s, r_sr_n, i_sr, l_sr, q_sr, n_sq, k_sq, f_sq, r_sq, i_sq, l_sq, q_sq_s, q_sq_n, il_0, il_1, il_2, il_3, il_4, il_5, il_6, il_7, il_8, il_9, il_10, il_11, il_12, il_13, il_14, il_15, il_16, il_17, il_18, il_19, il_20, il_24, il_30, il_31, il_38, il_39, il_40, il_41, il_48, il_50, il_59, il_60, il_63, il_64, il_70, il_80, il_99, il_100, il_120, il_130, il_140, il_144, il_159, il_160, il_162, il_200, il_210, il_240, il_264, il_280, il_281, il_300, il_364, il_368, il_599, il_600, il_601, il_999, il_1610, il_1620, il_1800, il_4000, il_5000, il_7000, il_14500, il_58240, il_1000000, m1_e, nI_1, nI_add, pk_mul, pk_div, pk_sub, nI_clamp, nI_leI, nI_ltI, nI_eq, m1_lt, m1_le, m1_gt, m1_ge, m1_ne, m1_en, ix_nI, im_nI, and1, and3, sh2_, shr2, corner_nI, turned_nI]
    refine ⟨trivial, fun z => by omega, fun _ => ⟨fun w => ?_, fun w => ⟨by omega, fun w2 => ?_, fun w2 => ?_⟩⟩⟩
    · rw [ct_n (fun z => by have z1 := z.1; rw [w] at z1; exact absurd z1 (by decide))] at nx
      exact nx
    · rw [ct_n (fun z => w2 z.2)] at nx
      exact nx
    · rw [ct_y ⟨by cases hb : inb B j with
        | true => rfl
        | false => exact absurd hb w, w2⟩] at nx
      exact nx
  · refine X5_countWaysOut_4 ?_
    simp (disch := omega) only [lk_o L, hn, forall_eq, Option.some.injEq, exists_eq_left', Option.getD_some, n_sf, k_sf, f_sf_s, f_sf_n, r_sf, i_sf, l_sf, q_sf, ld0_sf, st0_sf, ld1_sf, ld2_sf, ld3_sf, ah_o_sf, in__sf, cp__sf, ah_x_sf, ah_ra_sf, n_si, k_si, f_si, r_si, i_si_s, i_si_n, l_si, q_si, ld0_si, st0_si, ld1_si, ld2_si, ld3_si, ah_o_si, in__si, cp__si, ah_x_si, ah_ra_si, n_sl, k_sl, f_sl, r_sl, i_sl, l_sl_s, l_sl_n, q_sl, ld0_sl, st0_sl, ld1_sl, ld2_sl, ld3_sl, ah_o_sl, in__sl, cp__sl, ah_x_sl, ah_ra_sl, n_wi, k_wi, f_wi, r_wi, i_wi_s, i_wi_n, l_wi, q_wi, ld0_wi, st0_wi, ld1_wi, ld2_wi, ld3_wi, ah_o_wi, in__wi, cp__wi, ah_x_wi, ah_ra_wi, n_wl, k_wl, f_wl, r_wl, i_wl, l_wl_s, l_wl_n, q_wl, ld0_wl, st0_wl, ld1_wl, ld2_wl, ld3_wl, ah_o_wl, in__wl, cp__wl, ah_x_wl, ah_ra_wl, n_sr, k_sr, f_sr, r_sr_s, r_sr_n, i_sr, l_sr, q_sr, n_sq, k_sq, f_sq, r_sq, i_sq, l_sq, q_sq_s, q_sq_n, il_0, il_1, il_2, il_3, il_4, il_5, il_6, il_7, il_8, il_9, il_10, il_11, il_12, il_13, il_14, il_15, il_16, il_17, il_18, il_19, il_20, il_24, il_30, il_31, il_38, il_39, il_40, il_41, il_48, il_50, il_59, il_60, il_63, il_64, il_70, il_80, il_99, il_100, il_120, il_130, il_140, il_144, il_159, il_160, il_162, il_200, il_210, il_240, il_264, il_280, il_281, il_300, il_364, il_368, il_599, il_600, il_601, il_999, il_1610, il_1620, il_1800, il_4000, il_5000, il_7000, il_14500, il_58240, il_1000000, m1_e, nI_1, nI_add, pk_mul, pk_div, pk_sub, nI_clamp, nI_leI, nI_ltI, nI_eq, m1_lt, m1_le, m1_gt, m1_ge, m1_ne, m1_en, ix_nI, im_nI, and1, and3, sh2_, shr2, corner_nI, turned_nI]
    exact ⟨trivial, fun _ => kk, fun z => (by first | omega | exact absurd trivial z | exact z.elim | exact absurd rfl z)⟩
theorem c_passOver {e w v r s : Nat} (P : pt h b) (D : cD h b n l A) (h40 : n ≤ 40) (he : e < 4 * n) (hw : w < 4 * n) (hv : v < 4 * n) (hr : r < 4 * n) (hs : s < 4 * n) (k : ∀ h', fr [b, b + 1, b + 2] h h' → cD h' b n l (pas A e w v r s) → Q none h') : ex_S yX5_passOver mX5_passOver (d + 1) [.ref b, .int (nI e), .int (nI w), .int (nI v), .int (nI r), .int (nI s)] h bc bs Q := by
  have D0 := D
  obtain ⟨d0, d1, d2, d3⟩ := D
  have bx := P.1
  have m2 : b + 2 ∈ [b, b + 1, b + 2] := (by simp only [List.mem_cons, List.not_mem_nil, or_false, true_or, or_true, not_true_eq_false] <;> omega)
  have c1 : ∀ g : AH, X11_corner_V (nI e) (nI 1) g = nI (cn e 1) := fun g => corner_nI (by omega) (by omega)
  have c2 : ∀ g : AH, X11_corner_V (nI e) (nI 2) g = nI (cn e 2) := fun g => corner_nI (by omega) (by omega)
  have c3 : ∀ g : AH, X11_corner_V (nI e) (nI 3) g = nI (cn e 3) := fun g => corner_nI (by omega) (by omega)
  have k1 := cn_lt 1 he
  have k2 := cn_lt 2 he
  have k3 := cn_lt 3 he
  have v0 := d3 e he
  have v1 := d3 _ k1
  have v2 := d3 _ k2
  have v3 := d3 _ k3
  have vr := d3 r hr
  have vs := d3 s hs
  refine X5_passOver_e (X5_passOver_0 ?_)
  simp (disch := omega) only [pt_o P, pt_r0 P, pt_r1 P, pt_s0 P, pt_s1 P, pt_t0 P, pt_t1 P, c1, c2, c3, v0, v1, v2, v3, vr, vs, nI_clamp, ix_nI, forall_eq, Option.some.injEq, exists_eq_left', Option.getD_some, n_sf, k_sf, f_sf_s, f_sf_n, r_sf, i_sf, l_sf, q_sf, ld0_sf, st0_sf, ld1_sf, ld2_sf, ld3_sf, ah_o_sf, in__sf, cp__sf, ah_x_sf, ah_ra_sf, n_si, k_si, f_si, r_si, i_si_s, i_si_n, l_si, q_si, ld0_si, st0_si, ld1_si, ld2_si, ld3_si, ah_o_si, in__si, cp__si, ah_x_si, ah_ra_si, n_sl, k_sl, f_sl, r_sl, i_sl, l_sl_s, l_sl_n, q_sl, ld0_sl, st0_sl, ld1_sl, ld2_sl, ld3_sl, ah_o_sl, in__sl, cp__sl, ah_x_sl, ah_ra_sl, n_wi, k_wi, f_wi, r_wi, i_wi_s, i_wi_n, l_wi, q_wi, ld0_wi, st0_wi, ld1_wi, ld2_wi, ld3_wi, ah_o_wi, in__wi, cp__wi, ah_x_wi, ah_ra_wi, n_wl, k_wl, f_wl, r_wl, i_wl, l_wl_s, l_wl_n, q_wl, ld0_wl, st0_wl, ld1_wl, ld2_wl, ld3_wl, ah_o_wl, in__wl, cp__wl, ah_x_wl, ah_ra_wl, n_sr, k_sr, f_sr, r_sr_s, r_sr_n, i_sr, l_sr, q_sr, n_sq, k_sq, f_sq, r_sq, i_sq, l_sq, q_sq_s, q_sq_n, il_1, il_2, il_3]
  refine ⟨trivial, by omega, by omega, by omega, by omega, by omega, by omega, by omega, by omega, by omega, by omega, by omega, by omega, by omega, by omega, k _ ?_ ?_⟩
  · exact fr_si (fr_si (fr_si (fr_si (fr_si (fr_si (fr_si (fr_si (fr_refl _ h) m2) m2) m2) m2) m2) m2) m2) m2
  · exact (c_putD (c_putD (c_putD (c_putD (c_putD (c_putD (c_putD (c_putD D0 e (A s)).2 (cn e 1) (A r)).2 (cn e 2) (A e)).2 (cn e 3) (A (cn e 1))).2 w (A (cn e 2))).2 v (A (cn e 3))).2 s (A e)).2 r (A (cn e 1))).2
theorem c_flype {a : Int32} {f n' l' : Nat} {A' : Nat → Nat} (X : DC h b lb n l A m) (O : mo_ h o kd x1 x2 x3) (ho : o ∉ [b, b + 1, b + 2]) (M : mvF n l A m a x2 f n' l' A') (k : ∀ h', fr [b, b + 1, b + 2] h h' → (f = 0 → cD h' b n' l' A') → Q (some (.int (ans f))) h') : ex_S yX5_flype mX5_flype (d + 2) [.ref o, .ref b, .ref lb, .int a] h bc bs Q := by
  obtain ⟨P, L, sep, D, hn, hm, h40, h9, R⟩ := X
  have O0 := O
  obtain ⟨p0, p1, p2, p3, p4⟩ := O
  have no : (¬ ∃ e w v r s, flyp n m a x2 e w v r s) → Q (some (.int (-15))) h := fun q => by
    rcases M with ⟨-, e⟩ | ⟨e, w, v, r, s, z, -⟩
    · have := k h (fr_refl _ h) (fun z => absurd z (by omega))
      rw [e, ans5] at this
      exact this
    · exact absurd ⟨e, w, v, r, s, z⟩ q
  refine X5_flype_e (X5_flype_0 ⟨lk_o L, hasEC L a, fun z => no ?_, fun z => ⟨p0, ?_⟩⟩)
  · rintro ⟨e, w, v, r, s, q1, q2, -⟩
    exact (hasE hn h40 a).mp z (by rw [q2, ix_nI (by omega)]; exact q1)
  have ia : ix a (4 * n) := Classical.not_not.mp (fun w => z ((hasE hn h40 _).mpr w))
  obtain ⟨e, he, ea⟩ := ix_of ia (by omega)
  subst ea
  have uq : ∀ {e'}, nI e = nI e' → e' < 4 * n → e' = e := fun {e'} q h' => by
    rw [nI_eq (by omega) (by omega)] at q
    exact q.symm
  have k1 := cn_lt 1 he
  have hw := R.lt he
  have hv := R.lt k1
  have ve := isInV x2 (e := e) (by omega) h
  have vw := isInV x2 (e := m e) (by omega) h
  have vv := isInV x2 (e := m (cn e 1)) (by omega) h
  rw [p3, hn]
  refine ⟨fun z => no ?_, fun th => ⟨fun ine => ⟨lb + 1, lk_r0 L, ?_⟩, fun ine => no ?_⟩⟩
  · rintro ⟨e', w, v, r, s, q1, q2, q3, -⟩
    exact (areV x2 h40 h).mp z q3
  · have c1 : X11_corner_V (nI e) 1 h = nI (cn e 1) := corner_nI (k := 1) (by omega) (by omega)
    rw [c1, lk_s0 L, lk_s0 L, ix_nI (by omega), ix_nI (by omega), nI_clamp (by omega), nI_clamp (by omega), hm e he, hm _ k1]
    have th' : thr x2 n := Classical.not_not.mp (fun w => th ((areV x2 h40 h).mpr w))
    have ine' := ve.mp ine
    refine ⟨by omega, fun x9 e9 => ⟨by omega, fun x11 e11 => ?_⟩⟩
    subst e9
    subst e11
    refine ⟨fun z => no ?_, fun inw => ⟨fun z => no ?_, fun inv => ?_⟩⟩
    · rintro ⟨e', w, v, r, s, q1, q2, q3, q4, q5, q6, q7, -⟩
      have := uq q2 q1
      subst this
      rw [q5, vw.mp z] at q7
      exact absurd q7 (by decide)
    · rintro ⟨e', w, v, r, s, q1, q2, q3, q4, q5, q6, q7, q8, -⟩
      have := uq q2 q1
      subst this
      rw [q6, vv.mp z] at q8
      exact absurd q8 (by decide)
    have inw' : inb x2 (m e) = true := by
      cases hb : inb x2 (m e) with
      | true => rfl
      | false => exact absurd (vw.mpr hb) inw
    have inv' : inb x2 (m (cn e 1)) = true := by
      cases hb : inb x2 (m (cn e 1)) with
      | true => rfl
      | false => exact absurd (vv.mpr hb) inv
    refine c_countOut L hn hm h40 R ⟨_, rfl, ?_⟩
    have ctl := ct_le (nwo x2 m) (4 * n)
    have c4 : nI (ct (nwo x2 m) (4 * n)) = 4 ↔ ct (nwo x2 m) (4 * n) = 4 := nI_eq (b := 4) (by omega) (by omega)
    rw [c4]
    refine ⟨fun n4 => ⟨p0, ?_⟩, fun z => no ?_⟩
    · rw [p3]
      obtain ⟨r, hr⟩ := wyo_ex x2 m 3 (cn (m (cn e 1)) 3)
      obtain ⟨s, hs⟩ := wyo_ex x2 m 1 (cn (m e) 1)
      refine c_wayOut (k := 3) L hm h40 R hv (by decide) hr ⟨_, rfl, p0, ?_⟩
      rw [p3]
      refine c_wayOut (k := 1) L hm h40 R hw (by decide) hs ⟨_, rfl, ?_⟩
      have rr : r = m1 ∨ ∃ r0, r0 < 4 * n ∧ r = nI r0 := by
        rcases hr with ⟨j, -, -, q⟩ | ⟨-, q⟩
        · exact Or.inr ⟨_, it_lt (R.pmt 3) (cn_lt 3 hv) j, q⟩
        · exact Or.inl q
      have ss : s = m1 ∨ ∃ s0, s0 < 4 * n ∧ s = nI s0 := by
        rcases hs with ⟨j, -, -, q⟩ | ⟨-, q⟩
        · exact Or.inr ⟨_, it_lt (R.pmt 1) (cn_lt 1 hw) j, q⟩
        · exact Or.inl q
      have un : ∀ e' w v r' s', flyp n m (nI e) x2 e' w v r' s' → w = m e ∧ v = m (cn e 1) ∧ r = nI r' ∧ s = nI s' ∧ r' < 4 * n ∧ s' < 4 * n ∧ r' ≠ s' ∧ r' ≠ w ∧ r' ≠ v ∧ s' ≠ w ∧ s' ≠ v := by
        rintro e' w v r' s' ⟨q1, q2, q3, q4, q5, q6, q7, q8, q9, q10, q11, q12⟩
        have := uq q2 q1
        subst this
        subst q5
        subst q6
        exact ⟨rfl, rfl, wyo_u hr q10, wyo_u hs q11, q12⟩
      refine ⟨fun z => no ?_, fun z1 => ⟨fun z => no ?_, fun z2 => ⟨fun z => no ?_, fun z3 => ⟨fun z => no ?_, fun z4 => ⟨fun z => no ?_, fun z5 => ⟨fun z => no ?_, fun z6 => ⟨fun z7 => ?_, fun z => no ?_⟩⟩⟩⟩⟩⟩⟩
      · rintro ⟨e', w, v, r', s', q⟩
        obtain ⟨u1_, u2, u3, u4, u5, u6, -⟩ := un _ _ _ _ _ q
        rw [u3] at z
        exact nI_pos (by omega) z
      · rintro ⟨e', w, v, r', s', q⟩
        obtain ⟨u1_, u2, u3, u4, u5, u6, -⟩ := un _ _ _ _ _ q
        rw [u4] at z
        exact nI_pos (by omega) z
      · rintro ⟨e', w, v, r', s', q⟩
        obtain ⟨u1_, u2, u3, u4, u5, u6, u7, -⟩ := un _ _ _ _ _ q
        rw [u3, u4, nI_eq (by omega) (by omega)] at z
        exact u7 z
      · rintro ⟨e', w, v, r', s', q⟩
        obtain ⟨u1_, u2, u3, u4, u5, u6, u7, u8, u9, u10, u11⟩ := un _ _ _ _ _ q
        rw [u3, nI_eq (by omega) (by omega)] at z
        exact u8 (by rw [u1_]; exact z)
      · rintro ⟨e', w, v, r', s', q⟩
        obtain ⟨u1_, u2, u3, u4, u5, u6, u7, u8, u9, u10, u11⟩ := un _ _ _ _ _ q
        rw [u3, nI_eq (by omega) (by omega)] at z
        exact u9 (by rw [u2]; exact z)
      · rintro ⟨e', w, v, r', s', q⟩
        obtain ⟨u1_, u2, u3, u4, u5, u6, u7, u8, u9, u10, u11⟩ := un _ _ _ _ _ q
        rw [u4, nI_eq (by omega) (by omega)] at z
        exact u10 (by rw [u1_]; exact z)
      · rcases rr with rr | ⟨r0, hr0, rr⟩
        · rw [rr] at z1; exact absurd (show m1 < 0 by decide) z1
        rcases ss with ss | ⟨s0, hs0, ss⟩
        · rw [ss] at z2; exact absurd (show m1 < 0 by decide) z2
        subst rr
        subst ss
        rw [nI_eq (by omega) (by omega)] at z3 z4 z5 z6 z7
        have FL : flyp n m (nI e) x2 e (m e) (m (cn e 1)) r0 s0 := ⟨he, rfl, th', ine', rfl, rfl, inw', inv', n4, hr, hs, hr0, hs0, z3, z4, z5, z6, z7⟩
        refine c_passOver P D h40 he hw hv hr0 hs0 (fun h3 F3 D3 => ⟨rfl, ?_⟩)
        refine lp n (fun j h' => fr [b, b + 1, b + 2] h h' ∧ cD h' b n l (tvs x2 j (pas A e (m e) (m (cn e 1)) r0 s0))) (fun j h' => ex_G mX5_flype (d + 2) 185 [.ref o, .ref b, .ref lb, .retAddr 0, .retAddr 0, .retAddr 0, .retAddr 0, .retAddr 0, .int (nI j)] [] h' bc bs Q) ⟨F3, by rw [tvs_0]; exact D3⟩ ?_ ?_
        · rintro j h4 hj ⟨F4, D4⟩ nx
          obtain ⟨q0, q1, q2, q3, q4⟩ := mo_fr O0 F4 ho
          have L4 := lk_fr L F4
          have P4 := pt_fr P F4
          have hn4 : ah_f h4 lb 10 = nI n := by rw [fr_f F4 lb (by simp only [List.mem_cons, List.not_mem_nil, or_false, true_or, or_true, not_true_eq_false] <;> omega)]; exact hn
          refine X5_flype_185 ⟨lk_o L4, ?_⟩
          rw [hn4, q3, nI_leI (by omega) (by omega)]
          have e4 : (4 : Int32) * nI j = nI (4 * j) := pk_mul 4 j
          rw [e4]
          refine ⟨fun z => by omega, fun _ => ⟨q0, fun z => ?_, fun z => ⟨pt_o P4, c_flipC P4 (by omega), fun h8 e8 => ?_⟩⟩⟩
          · intro x5 e5
            rw [nI_1] at e5
            subst e5
            exact nx h4 ⟨F4, by rw [tvs_n ((isInV x2 (by omega) h4).mp z)]; exact D4⟩
          · obtain ⟨F8, D8⟩ := c_flipH P4 D4 hj h40
            rw [← e8] at F8 D8
            intro x9 e9
            rw [nI_1] at e9
            subst e9
            refine nx h8 ⟨fr_trans F4 F8, ?_⟩
            rw [tvs_y]
            · exact D8
            · cases hb : inb x2 (4 * j) with
              | true => rfl
              | false => exact absurd ((isInV x2 (by omega) h4).mpr hb) z
        · rintro h4 ⟨F4, D4⟩
          have L4 := lk_fr L F4
          have hn4 : ah_f h4 lb 10 = nI n := by rw [fr_f F4 lb (by simp only [List.mem_cons, List.not_mem_nil, or_false, true_or, or_true, not_true_eq_false] <;> omega)]; exact hn
          refine X5_flype_185 ⟨lk_o L4, ?_⟩
          rw [hn4, nI_leI (by omega) (by omega)]
          refine ⟨fun _ => ?_, fun z => absurd (Nat.le_refl n) z⟩
          rcases M with ⟨q, -⟩ | ⟨e', w, v, r', s', q, ef, e1, e2, e3⟩
          · exact absurd ⟨_, _, _, _, _, FL⟩ q
          · obtain ⟨u1_, u2, u3, u4, u5, u6, -⟩ := un _ _ _ _ _ q
            have ee := uq q.2.1 q.1
            rw [nI_eq (by omega) (by omega)] at u3 u4
            subst ee
            subst u1_
            subst u2
            subst u3
            subst u4
            have := k h4 F4 (fun _ => by rw [e1, e2, e3]; exact D4)
            rw [ef, ans0] at this
            exact this
      · rintro ⟨e', w, v, r', s', q⟩
        obtain ⟨u1_, u2, u3, u4, u5, u6, u7, u8, u9, u10, u11⟩ := un _ _ _ _ _ q
        rw [u4, nI_eq (by omega) (by omega)] at z
        exact u11 (by rw [u2]; exact z)
    · rintro ⟨e', w, v, r, s, q1, q2, q3, q4, q5, q6, q7, q8, q9, -⟩
      exact z q9
  · rintro ⟨e', w, v, r, s, q1, q2, q3, q4, -⟩
    have := uq q2 q1
    subst this
    exact ine (ve.mpr q4)
end CFLY
