/-! Numbers, heaps, loops: what the specs use. -/
theorem il_0 : (0 : Int32) = nI 0 := rfl
theorem il_1 : (1 : Int32) = nI 1 := rfl
theorem il_2 : (2 : Int32) = nI 2 := rfl
theorem il_3 : (3 : Int32) = nI 3 := rfl
theorem il_4 : (4 : Int32) = nI 4 := rfl
theorem il_5 : (5 : Int32) = nI 5 := rfl
theorem il_6 : (6 : Int32) = nI 6 := rfl
theorem il_7 : (7 : Int32) = nI 7 := rfl
theorem il_8 : (8 : Int32) = nI 8 := rfl
theorem il_9 : (9 : Int32) = nI 9 := rfl
theorem il_10 : (10 : Int32) = nI 10 := rfl
theorem il_11 : (11 : Int32) = nI 11 := rfl
theorem il_12 : (12 : Int32) = nI 12 := rfl
theorem il_13 : (13 : Int32) = nI 13 := rfl
theorem il_14 : (14 : Int32) = nI 14 := rfl
theorem il_15 : (15 : Int32) = nI 15 := rfl
theorem il_16 : (16 : Int32) = nI 16 := rfl
theorem il_17 : (17 : Int32) = nI 17 := rfl
theorem il_18 : (18 : Int32) = nI 18 := rfl
theorem il_19 : (19 : Int32) = nI 19 := rfl
theorem il_20 : (20 : Int32) = nI 20 := rfl
theorem il_24 : (24 : Int32) = nI 24 := rfl
theorem il_30 : (30 : Int32) = nI 30 := rfl
theorem il_31 : (31 : Int32) = nI 31 := rfl
theorem il_38 : (38 : Int32) = nI 38 := rfl
theorem il_39 : (39 : Int32) = nI 39 := rfl
theorem il_40 : (40 : Int32) = nI 40 := rfl
theorem il_41 : (41 : Int32) = nI 41 := rfl
theorem il_48 : (48 : Int32) = nI 48 := rfl
theorem il_50 : (50 : Int32) = nI 50 := rfl
theorem il_59 : (59 : Int32) = nI 59 := rfl
theorem il_60 : (60 : Int32) = nI 60 := rfl
theorem il_63 : (63 : Int32) = nI 63 := rfl
theorem il_64 : (64 : Int32) = nI 64 := rfl
theorem il_70 : (70 : Int32) = nI 70 := rfl
theorem il_80 : (80 : Int32) = nI 80 := rfl
theorem il_99 : (99 : Int32) = nI 99 := rfl
theorem il_100 : (100 : Int32) = nI 100 := rfl
theorem il_120 : (120 : Int32) = nI 120 := rfl
theorem il_130 : (130 : Int32) = nI 130 := rfl
theorem il_140 : (140 : Int32) = nI 140 := rfl
theorem il_144 : (144 : Int32) = nI 144 := rfl
theorem il_159 : (159 : Int32) = nI 159 := rfl
theorem il_160 : (160 : Int32) = nI 160 := rfl
theorem il_162 : (162 : Int32) = nI 162 := rfl
theorem il_200 : (200 : Int32) = nI 200 := rfl
theorem il_210 : (210 : Int32) = nI 210 := rfl
theorem il_240 : (240 : Int32) = nI 240 := rfl
theorem il_264 : (264 : Int32) = nI 264 := rfl
theorem il_280 : (280 : Int32) = nI 280 := rfl
theorem il_281 : (281 : Int32) = nI 281 := rfl
theorem il_300 : (300 : Int32) = nI 300 := rfl
theorem il_364 : (364 : Int32) = nI 364 := rfl
theorem il_368 : (368 : Int32) = nI 368 := rfl
theorem il_599 : (599 : Int32) = nI 599 := rfl
theorem il_600 : (600 : Int32) = nI 600 := rfl
theorem il_601 : (601 : Int32) = nI 601 := rfl
theorem il_999 : (999 : Int32) = nI 999 := rfl
theorem il_1610 : (1610 : Int32) = nI 1610 := rfl
theorem il_1620 : (1620 : Int32) = nI 1620 := rfl
theorem il_1800 : (1800 : Int32) = nI 1800 := rfl
theorem il_4000 : (4000 : Int32) = nI 4000 := rfl
theorem il_5000 : (5000 : Int32) = nI 5000 := rfl
theorem il_7000 : (7000 : Int32) = nI 7000 := rfl
theorem il_14500 : (14500 : Int32) = nI 14500 := rfl
theorem il_58240 : (58240 : Int32) = nI 58240 := rfl
theorem il_1000000 : (1000000 : Int32) = nI 1000000 := rfl
def m1 : Int32 := -1
theorem m1_e : (-nI 1 : Int32) = m1 := rfl
theorem m1_i : m1.toInt = -1 := by decide
theorem m1_lt {a : Nat} (h : a < 2 ^ 31) : m1 < nI a := by rw [Int32.lt_iff_toInt_lt, nI_toInt h, m1_i]; omega
theorem m1_le {a : Nat} (h : a < 2 ^ 31) : m1 ≤ nI a := by rw [Int32.le_iff_toInt_le, nI_toInt h, m1_i]; omega
theorem m1_gt {a : Nat} (h : a < 2 ^ 31) : ¬ nI a < m1 := by rw [Int32.lt_iff_toInt_lt, nI_toInt h, m1_i]; omega
theorem m1_ge {a : Nat} (h : a < 2 ^ 31) : ¬ nI a ≤ m1 := by rw [Int32.le_iff_toInt_le, nI_toInt h, m1_i]; omega
theorem m1_ne {a : Nat} (h : a < 2 ^ 31) : ¬ nI a = m1 := fun e => by
  have := congrArg Int32.toInt e
  rw [nI_toInt h, m1_i] at this
  omega
theorem m1_en {a : Nat} (h : a < 2 ^ 31) : ¬ m1 = nI a := fun e => m1_ne h e.symm
theorem ix_nI {i n : Nat} (hi : i < 2 ^ 31) : ix (nI i) n ↔ i < n := by
  unfold ix
  rw [nI_toInt hi]
  omega
theorem ix_0 {n : Nat} : ix 0 n ↔ 0 < n := ix_nI (i := 0) (by omega)
theorem ix_m1 {n : Nat} : ¬ ix m1 n := by
  unfold ix
  rw [m1_i]
  omega
/-- any number against a bound: below 0, at or beyond it, or a place -/
theorem ix_cases (x : Int32) {n : Nat} (hn : n < 2 ^ 31) : (x < 0 ∧ ¬ ix x n) ∨ (nI n ≤ x ∧ ¬ ix x n) ∨ ∃ j : Nat, j < n ∧ x = nI j := by
  rcases pk_ix x hn with h | h | h
  · refine Or.inl ⟨h, fun q => ?_⟩
    rw [Int32.lt_iff_toInt_lt] at h
    have := q.1
    have e : (0 : Int32).toInt = 0 := by decide
    omega
  · refine Or.inr (Or.inl ⟨h, fun q => ?_⟩)
    rw [Int32.le_iff_toInt_le, nI_toInt hn] at h
    have := q.2
    omega
  · exact Or.inr (Or.inr h)
theorem ix_of {x : Int32} {n : Nat} (h : ix x n) (hn : n < 2 ^ 31) : ∃ j : Nat, j < n ∧ x = nI j := by
  rcases ix_cases x hn with q | q | q
  · exact absurd h q.2
  · exact absurd h q.2
  · exact q
theorem im_nI {a d : Nat} (ha : a < 2 ^ 31) (h0 : 0 < d) (hd : d < 2 ^ 31) : im_ (nI a) (nI d) = nI (a % d) := pk_rem ha h0 hd
theorem and1 {n : Nat} (h : n < 2 ^ 31) : nI n &&& nI 1 = nI (n % 2) := pk_andN (by omega) 1 (by decide)
theorem and3 {n : Nat} (h : n < 2 ^ 31) : nI n &&& nI 3 = nI (n % 4) := pk_andN (by omega) 2 (by decide)
theorem shr2 {n : Nat} (h : n < 2 ^ 31) : nI n >>> nI 2 = nI (n / 4) := pk_shrN h (nI 2) 2 (by decide)
theorem sh2_ : (nI 2 &&& nI 31 : Int32) = nI 2 := by decide
/-- the place k further on, round a crossing -/
def cn (e k : Nat) : Nat := e / 4 * 4 + (e + k) % 4
theorem i32_nat {a b : Int32} (h : a.toBitVec.toNat = b.toBitVec.toNat) : a = b := Int32.toBitVec_inj.mp (BitVec.eq_of_toNat_eq h)
theorem nat_and4 (e : Nat) (h : e < 2 ^ 32) : e &&& (2 ^ 32 - 4) = e / 4 * 4 := by
  apply Nat.eq_of_testBit_eq
  intro i
  have h4 : (2 ^ 32 - 4 : Nat) = 2 ^ 32 - (3 + 1) := rfl
  have hm : e / 4 * 4 = 2 ^ 2 * (e / 2 ^ 2) := by rw [Nat.mul_comm]
  rw [Nat.testBit_and, h4, Nat.testBit_two_pow_sub_succ (by decide), hm, Nat.testBit_two_pow_mul, Nat.testBit_div_two_pow]
  have h3 : (3 : Nat).testBit i = decide (i < 2) := Nat.testBit_two_pow_sub_one 2 i
  rw [h3]
  by_cases a : i < 2
  · simp [a, Nat.not_le.mpr a]
  · have b : 2 ≤ i := by omega
    have e1 : i - 2 + 2 = i := by omega
    simp only [a, b, e1, decide_false, Bool.not_false, Bool.and_true, ge_iff_le, decide_true, Bool.true_and]
    by_cases c : i < 32
    · simp [c]
    · have hl : e.testBit i = false := Nat.testBit_lt_two_pow (Nat.lt_of_lt_of_le h (Nat.pow_le_pow_right (by omega) (by omega)))
      simp [hl]
theorem cn_or (e k : Nat) : e / 4 * 4 ||| (e + k) % 4 = cn e k := by
  have h := Nat.two_pow_add_eq_or_of_lt (i := 2) (b := (e + k) % 4) (by omega) (e / 4)
  have hm : 2 ^ 2 * (e / 4) = e / 4 * 4 := by rw [Nat.mul_comm]
  rw [hm] at h
  exact h.symm
theorem cn_lt4 (e k : Nat) : cn e k < e / 4 * 4 + 4 := by unfold cn; omega
theorem cn_lt {e n : Nat} (k : Nat) (h : e < 4 * n) : cn e k < 4 * n := by unfold cn; omega
theorem cn_b {e : Nat} (k : Nat) (h : e < 2 ^ 31 - 4) : cn e k < 2 ^ 31 := by unfold cn; omega
theorem cn_div (e k : Nat) : cn e k / 4 = e / 4 := by unfold cn; omega
theorem cn_mod (e k : Nat) : cn e k % 4 = (e + k) % 4 := by unfold cn; omega
theorem cn_0 (e : Nat) : cn e 0 = e := by unfold cn; omega
theorem cn_cn (e j k : Nat) : cn (cn e j) k = cn e (j + k) := by unfold cn; omega
theorem cn_4 (e k : Nat) : cn e (k + 4) = cn e k := by unfold cn; omega
theorem cn_22 (e : Nat) : cn (cn e 2) 2 = e := by unfold cn; omega
theorem cn_ne {e k : Nat} (h : k % 4 ≠ 0) : cn e k ≠ e := by unfold cn; omega
theorem corner_nI {e k : Nat} {h : AH} (he : e < 2 ^ 31) (hk : k < 2 ^ 31) : X11_corner_V (nI e) (nI k) h = nI (cn e k) := by
  unfold X11_corner_V
  rw [nI_add]
  apply i32_nat
  have a1 : (nI e).toBitVec.toNat = e := pk_tn (by omega)
  have a2 : (nI (e + k)).toBitVec.toNat = e + k := pk_tn (by omega)
  have a3 : (nI (cn e k)).toBitVec.toNat = cn e k := pk_tn (by unfold cn; omega)
  have b1 : ((-4 : Int32)).toBitVec.toNat = 2 ^ 32 - 4 := by decide
  have b2 : ((3 : Int32)).toBitVec.toNat = 3 := by decide
  rw [Int32.toBitVec_or, Int32.toBitVec_and, Int32.toBitVec_and, BitVec.toNat_or, BitVec.toNat_and, BitVec.toNat_and, a1, a2, a3, b1, b2, nat_and4 e (by omega)]
  rw [show (e + k) &&& 3 = (e + k) % 4 from Nat.and_two_pow_sub_one_eq_mod (e + k) 2]
  exact cn_or e k
theorem turned_nI {e k : Nat} {h : AH} (he : e < 2 ^ 31 - 4) (hk : k < 2 ^ 31) : X12_turned_V (nI e) (nI k) h = nI (cn e k) := by
  unfold X12_turned_V
  rw [nI_add]
  have e3 : nI (e + k) &&& 3 = nI ((e + k) % 4) := pk_andN (by omega) 2 (by decide)
  have e4 : nI e / 4 = nI (e / 4) := pk_div (d := 4) (by omega) (by omega) (by omega)
  have e5 : nI (e / 4) * 4 = nI (e / 4 * 4) := pk_mul (e / 4) 4
  rw [e3, e4, e5, nI_add]
  rfl
/-! in(v, low, high) of ints -/
theorem i64_lt (a b : Int32) : a.toInt64 < b.toInt64 ↔ a < b := by
  rw [Int64.lt_iff_toInt_lt, Int32.toInt_toInt64, Int32.toInt_toInt64, Int32.lt_iff_toInt_lt]
theorem in_iff (x lo hi : Int64) (h : AH) : X12_in_V x lo hi h = 0 ↔ ¬ (lo.toInt ≤ x.toInt ∧ x.toInt ≤ hi.toInt) := by
  unfold X12_in_V
  simp only [lg_cmp_lt, lg_cmp_gt, Int64.lt_iff_toInt_lt]
  by_cases a : x.toInt < lo.toInt
  · rw [if_pos a]
    exact ⟨fun _ => by omega, fun _ => rfl⟩
  · rw [if_neg a]
    by_cases b : hi.toInt < x.toInt
    · rw [if_pos b]
      exact ⟨fun _ => by omega, fun _ => rfl⟩
    · rw [if_neg b]
      exact ⟨fun q => absurd q (by decide), fun q => absurd ⟨by omega, by omega⟩ q⟩
theorem in_bo (x lo hi : Int64) (h : AH) : bo (X12_in_V x lo hi h) := by
  unfold X12_in_V bo
  split
  · exact Or.inl rfl
  · split
    · exact Or.inl rfl
    · exact Or.inr rfl
/-- in(v, 0, n - 1) -/
theorem in_ix {v : Int32} {n : Nat} (hn : n < 2 ^ 31) (h : AH) : X12_in_V v.toInt64 0 (nI n - nI 1).toInt64 h = 0 ↔ ¬ ix v n := by
  rw [in_iff, Int32.toInt_toInt64, Int32.toInt_toInt64]
  have e : (nI n - nI 1).toInt = (n : Int) - 1 := by
    by_cases z : n = 0
    · subst z; decide
    · rw [pk_sub (by omega), nI_toInt (by omega)]; omega
  have e0 : (0 : Int64).toInt = 0 := by decide
  rw [e, e0]
  unfold ix
  constructor <;> intro q p <;> exact q ⟨by omega, by omega⟩
/-- in(v, lo, hi) of numbers -/
theorem in_rg {v : Int32} {lo hi : Int64} (a b : Int) (ha : lo.toInt = a) (hb : hi.toInt = b) (h : AH) : X12_in_V v.toInt64 lo hi h = 0 ↔ ¬ (a ≤ v.toInt ∧ v.toInt ≤ b) := by
  rw [in_iff, Int32.toInt_toInt64, ha, hb]
/-! heaps: what is read behind a write -/
theorem n_sf (h : AH) (a k : Nat) (v : Int32) : ah_n (ah_sf h a k v) = ah_n h := of_eq_true (eq_true rfl)
theorem k_sf (h : AH) (a k : Nat) (v : Int32) : ah_k (ah_sf h a k v) = ah_k h := of_eq_true (eq_true rfl)
theorem f_sf_s (h : AH) (a k : Nat) (v : Int32) : ah_f (ah_sf h a k v) a = u1 (ah_f h a) k v := u1_s _ _ _
theorem f_sf_n (h : AH) (a k : Nat) (v : Int32) (b : Nat) (e : b ≠ a) : ah_f (ah_sf h a k v) b = ah_f h b := u1_n _ _ e
theorem r_sf (h : AH) (a k : Nat) (v : Int32) : ah_r (ah_sf h a k v) = ah_r h := of_eq_true (eq_true rfl)
theorem i_sf (h : AH) (a k : Nat) (v : Int32) : ah_i (ah_sf h a k v) = ah_i h := of_eq_true (eq_true rfl)
theorem l_sf (h : AH) (a k : Nat) (v : Int32) : ah_l (ah_sf h a k v) = ah_l h := of_eq_true (eq_true rfl)
theorem q_sf (h : AH) (a k : Nat) (v : Int32) : ah_q (ah_sf h a k v) = ah_q h := of_eq_true (eq_true rfl)
theorem ld0_sf (h : AH) (a k : Nat) (v : Int32) (x : Nat) (i : Int32) : ld0 (ah_sf h a k v) x i = ld0 h x i := of_eq_true (eq_true rfl)
theorem st0_sf (h : AH) (a k : Nat) (v : Int32) (x : Nat) (i : Int32) : st0 (ah_sf h a k v) x i = st0 h x i := of_eq_true (eq_true rfl)
theorem ld1_sf (h : AH) (a k : Nat) (v : Int32) (x : Nat) (i : Int32) : ld1 (ah_sf h a k v) x i = ld1 h x i := of_eq_true (eq_true rfl)
theorem ld2_sf (h : AH) (a k : Nat) (v : Int32) (x : Nat) (i : Int32) : ld2 (ah_sf h a k v) x i = ld2 h x i := of_eq_true (eq_true rfl)
theorem ld3_sf (h : AH) (a k : Nat) (v : Int32) (t x : Nat) (i : Int32) : ld3 (ah_sf h a k v) t x i = ld3 h t x i := of_eq_true (eq_true rfl)
theorem ah_o_sf (h : AH) (a k : Nat) (v : Int32) (x c : Nat) : ah_o (ah_sf h a k v) x c = ah_o h x c := of_eq_true (eq_true rfl)
theorem in__sf (h : AH) (a k : Nat) (v : Int32) (x : Nat) : in_ (ah_sf h a k v) x = in_ h x := of_eq_true (eq_true rfl)
theorem cp__sf (h : AH) (a k : Nat) (v : Int32) (t a0 a1 : Nat) (sp dp n : Int32) : cp_ (ah_sf h a k v) t a0 a1 sp dp n = cp_ h t a0 a1 sp dp n := of_eq_true (eq_true rfl)
theorem ah_x_sf (h : AH) (a k : Nat) (v : Int32) (x t n : Nat) : ah_x (ah_sf h a k v) x t n = ah_x h x t n := of_eq_true (eq_true rfl)
theorem ah_ra_sf (h : AH) (a k : Nat) (v : Int32) (x n : Nat) : ah_ra (ah_sf h a k v) x n = ah_ra h x n := of_eq_true (eq_true rfl)
theorem n_si (h : AH) (a k : Nat) (v : Int32) : ah_n (ah_si h a k v) = ah_n h := of_eq_true (eq_true rfl)
theorem k_si (h : AH) (a k : Nat) (v : Int32) : ah_k (ah_si h a k v) = ah_k h := of_eq_true (eq_true rfl)
theorem f_si (h : AH) (a k : Nat) (v : Int32) : ah_f (ah_si h a k v) = ah_f h := of_eq_true (eq_true rfl)
theorem r_si (h : AH) (a k : Nat) (v : Int32) : ah_r (ah_si h a k v) = ah_r h := of_eq_true (eq_true rfl)
theorem i_si_s (h : AH) (a k : Nat) (v : Int32) : ah_i (ah_si h a k v) a = u1 (ah_i h a) k v := u1_s _ _ _
theorem i_si_n (h : AH) (a k : Nat) (v : Int32) (b : Nat) (e : b ≠ a) : ah_i (ah_si h a k v) b = ah_i h b := u1_n _ _ e
theorem l_si (h : AH) (a k : Nat) (v : Int32) : ah_l (ah_si h a k v) = ah_l h := of_eq_true (eq_true rfl)
theorem q_si (h : AH) (a k : Nat) (v : Int32) : ah_q (ah_si h a k v) = ah_q h := of_eq_true (eq_true rfl)
theorem ld0_si (h : AH) (a k : Nat) (v : Int32) (x : Nat) (i : Int32) : ld0 (ah_si h a k v) x i = ld0 h x i := of_eq_true (eq_true rfl)
theorem st0_si (h : AH) (a k : Nat) (v : Int32) (x : Nat) (i : Int32) : st0 (ah_si h a k v) x i = st0 h x i := of_eq_true (eq_true rfl)
theorem ld1_si (h : AH) (a k : Nat) (v : Int32) (x : Nat) (i : Int32) : ld1 (ah_si h a k v) x i = ld1 h x i := of_eq_true (eq_true rfl)
theorem ld2_si (h : AH) (a k : Nat) (v : Int32) (x : Nat) (i : Int32) : ld2 (ah_si h a k v) x i = ld2 h x i := of_eq_true (eq_true rfl)
theorem ld3_si (h : AH) (a k : Nat) (v : Int32) (t x : Nat) (i : Int32) : ld3 (ah_si h a k v) t x i = ld3 h t x i := of_eq_true (eq_true rfl)
theorem ah_o_si (h : AH) (a k : Nat) (v : Int32) (x c : Nat) : ah_o (ah_si h a k v) x c = ah_o h x c := of_eq_true (eq_true rfl)
theorem in__si (h : AH) (a k : Nat) (v : Int32) (x : Nat) : in_ (ah_si h a k v) x = in_ h x := of_eq_true (eq_true rfl)
theorem cp__si (h : AH) (a k : Nat) (v : Int32) (t a0 a1 : Nat) (sp dp n : Int32) : cp_ (ah_si h a k v) t a0 a1 sp dp n = cp_ h t a0 a1 sp dp n := of_eq_true (eq_true rfl)
theorem ah_x_si (h : AH) (a k : Nat) (v : Int32) (x t n : Nat) : ah_x (ah_si h a k v) x t n = ah_x h x t n := of_eq_true (eq_true rfl)
theorem ah_ra_si (h : AH) (a k : Nat) (v : Int32) (x n : Nat) : ah_ra (ah_si h a k v) x n = ah_ra h x n := of_eq_true (eq_true rfl)
theorem n_sl (h : AH) (a k : Nat) (v : Int64) : ah_n (ah_sl h a k v) = ah_n h := of_eq_true (eq_true rfl)
theorem k_sl (h : AH) (a k : Nat) (v : Int64) : ah_k (ah_sl h a k v) = ah_k h := of_eq_true (eq_true rfl)
theorem f_sl (h : AH) (a k : Nat) (v : Int64) : ah_f (ah_sl h a k v) = ah_f h := of_eq_true (eq_true rfl)
theorem r_sl (h : AH) (a k : Nat) (v : Int64) : ah_r (ah_sl h a k v) = ah_r h := of_eq_true (eq_true rfl)
theorem i_sl (h : AH) (a k : Nat) (v : Int64) : ah_i (ah_sl h a k v) = ah_i h := of_eq_true (eq_true rfl)
theorem l_sl_s (h : AH) (a k : Nat) (v : Int64) : ah_l (ah_sl h a k v) a = u1 (ah_l h a) k v := u1_s _ _ _
theorem l_sl_n (h : AH) (a k : Nat) (v : Int64) (b : Nat) (e : b ≠ a) : ah_l (ah_sl h a k v) b = ah_l h b := u1_n _ _ e
theorem q_sl (h : AH) (a k : Nat) (v : Int64) : ah_q (ah_sl h a k v) = ah_q h := of_eq_true (eq_true rfl)
theorem ld0_sl (h : AH) (a k : Nat) (v : Int64) (x : Nat) (i : Int32) : ld0 (ah_sl h a k v) x i = ld0 h x i := of_eq_true (eq_true rfl)
theorem st0_sl (h : AH) (a k : Nat) (v : Int64) (x : Nat) (i : Int32) : st0 (ah_sl h a k v) x i = st0 h x i := of_eq_true (eq_true rfl)
theorem ld1_sl (h : AH) (a k : Nat) (v : Int64) (x : Nat) (i : Int32) : ld1 (ah_sl h a k v) x i = ld1 h x i := of_eq_true (eq_true rfl)
theorem ld2_sl (h : AH) (a k : Nat) (v : Int64) (x : Nat) (i : Int32) : ld2 (ah_sl h a k v) x i = ld2 h x i := of_eq_true (eq_true rfl)
theorem ld3_sl (h : AH) (a k : Nat) (v : Int64) (t x : Nat) (i : Int32) : ld3 (ah_sl h a k v) t x i = ld3 h t x i := of_eq_true (eq_true rfl)
theorem ah_o_sl (h : AH) (a k : Nat) (v : Int64) (x c : Nat) : ah_o (ah_sl h a k v) x c = ah_o h x c := of_eq_true (eq_true rfl)
theorem in__sl (h : AH) (a k : Nat) (v : Int64) (x : Nat) : in_ (ah_sl h a k v) x = in_ h x := of_eq_true (eq_true rfl)
theorem cp__sl (h : AH) (a k : Nat) (v : Int64) (t a0 a1 : Nat) (sp dp n : Int32) : cp_ (ah_sl h a k v) t a0 a1 sp dp n = cp_ h t a0 a1 sp dp n := of_eq_true (eq_true rfl)
theorem ah_x_sl (h : AH) (a k : Nat) (v : Int64) (x t n : Nat) : ah_x (ah_sl h a k v) x t n = ah_x h x t n := of_eq_true (eq_true rfl)
theorem ah_ra_sl (h : AH) (a k : Nat) (v : Int64) (x n : Nat) : ah_ra (ah_sl h a k v) x n = ah_ra h x n := of_eq_true (eq_true rfl)
theorem n_wi (h : AH) (a : Nat) (g : Nat → Int32) : ah_n (ah_wi h a g) = ah_n h := of_eq_true (eq_true rfl)
theorem k_wi (h : AH) (a : Nat) (g : Nat → Int32) : ah_k (ah_wi h a g) = ah_k h := of_eq_true (eq_true rfl)
theorem f_wi (h : AH) (a : Nat) (g : Nat → Int32) : ah_f (ah_wi h a g) = ah_f h := of_eq_true (eq_true rfl)
theorem r_wi (h : AH) (a : Nat) (g : Nat → Int32) : ah_r (ah_wi h a g) = ah_r h := of_eq_true (eq_true rfl)
theorem i_wi_s (h : AH) (a : Nat) (g : Nat → Int32) : ah_i (ah_wi h a g) a = g := u1_s _ _ _
theorem i_wi_n (h : AH) (a : Nat) (g : Nat → Int32) (b : Nat) (e : b ≠ a) : ah_i (ah_wi h a g) b = ah_i h b := u1_n _ _ e
theorem l_wi (h : AH) (a : Nat) (g : Nat → Int32) : ah_l (ah_wi h a g) = ah_l h := of_eq_true (eq_true rfl)
theorem q_wi (h : AH) (a : Nat) (g : Nat → Int32) : ah_q (ah_wi h a g) = ah_q h := of_eq_true (eq_true rfl)
theorem ld0_wi (h : AH) (a : Nat) (g : Nat → Int32) (x : Nat) (i : Int32) : ld0 (ah_wi h a g) x i = ld0 h x i := of_eq_true (eq_true rfl)
theorem st0_wi (h : AH) (a : Nat) (g : Nat → Int32) (x : Nat) (i : Int32) : st0 (ah_wi h a g) x i = st0 h x i := of_eq_true (eq_true rfl)
theorem ld1_wi (h : AH) (a : Nat) (g : Nat → Int32) (x : Nat) (i : Int32) : ld1 (ah_wi h a g) x i = ld1 h x i := of_eq_true (eq_true rfl)
theorem ld2_wi (h : AH) (a : Nat) (g : Nat → Int32) (x : Nat) (i : Int32) : ld2 (ah_wi h a g) x i = ld2 h x i := of_eq_true (eq_true rfl)
theorem ld3_wi (h : AH) (a : Nat) (g : Nat → Int32) (t x : Nat) (i : Int32) : ld3 (ah_wi h a g) t x i = ld3 h t x i := of_eq_true (eq_true rfl)
theorem ah_o_wi (h : AH) (a : Nat) (g : Nat → Int32) (x c : Nat) : ah_o (ah_wi h a g) x c = ah_o h x c := of_eq_true (eq_true rfl)
theorem in__wi (h : AH) (a : Nat) (g : Nat → Int32) (x : Nat) : in_ (ah_wi h a g) x = in_ h x := of_eq_true (eq_true rfl)
theorem cp__wi (h : AH) (a : Nat) (g : Nat → Int32) (t a0 a1 : Nat) (sp dp n : Int32) : cp_ (ah_wi h a g) t a0 a1 sp dp n = cp_ h t a0 a1 sp dp n := of_eq_true (eq_true rfl)
theorem ah_x_wi (h : AH) (a : Nat) (g : Nat → Int32) (x t n : Nat) : ah_x (ah_wi h a g) x t n = ah_x h x t n := of_eq_true (eq_true rfl)
theorem ah_ra_wi (h : AH) (a : Nat) (g : Nat → Int32) (x n : Nat) : ah_ra (ah_wi h a g) x n = ah_ra h x n := of_eq_true (eq_true rfl)
theorem n_wl (h : AH) (a : Nat) (g : Nat → Int64) : ah_n (ah_wl h a g) = ah_n h := of_eq_true (eq_true rfl)
theorem k_wl (h : AH) (a : Nat) (g : Nat → Int64) : ah_k (ah_wl h a g) = ah_k h := of_eq_true (eq_true rfl)
theorem f_wl (h : AH) (a : Nat) (g : Nat → Int64) : ah_f (ah_wl h a g) = ah_f h := of_eq_true (eq_true rfl)
theorem r_wl (h : AH) (a : Nat) (g : Nat → Int64) : ah_r (ah_wl h a g) = ah_r h := of_eq_true (eq_true rfl)
theorem i_wl (h : AH) (a : Nat) (g : Nat → Int64) : ah_i (ah_wl h a g) = ah_i h := of_eq_true (eq_true rfl)
theorem l_wl_s (h : AH) (a : Nat) (g : Nat → Int64) : ah_l (ah_wl h a g) a = g := u1_s _ _ _
theorem l_wl_n (h : AH) (a : Nat) (g : Nat → Int64) (b : Nat) (e : b ≠ a) : ah_l (ah_wl h a g) b = ah_l h b := u1_n _ _ e
theorem q_wl (h : AH) (a : Nat) (g : Nat → Int64) : ah_q (ah_wl h a g) = ah_q h := of_eq_true (eq_true rfl)
theorem ld0_wl (h : AH) (a : Nat) (g : Nat → Int64) (x : Nat) (i : Int32) : ld0 (ah_wl h a g) x i = ld0 h x i := of_eq_true (eq_true rfl)
theorem st0_wl (h : AH) (a : Nat) (g : Nat → Int64) (x : Nat) (i : Int32) : st0 (ah_wl h a g) x i = st0 h x i := of_eq_true (eq_true rfl)
theorem ld1_wl (h : AH) (a : Nat) (g : Nat → Int64) (x : Nat) (i : Int32) : ld1 (ah_wl h a g) x i = ld1 h x i := of_eq_true (eq_true rfl)
theorem ld2_wl (h : AH) (a : Nat) (g : Nat → Int64) (x : Nat) (i : Int32) : ld2 (ah_wl h a g) x i = ld2 h x i := of_eq_true (eq_true rfl)
theorem ld3_wl (h : AH) (a : Nat) (g : Nat → Int64) (t x : Nat) (i : Int32) : ld3 (ah_wl h a g) t x i = ld3 h t x i := of_eq_true (eq_true rfl)
theorem ah_o_wl (h : AH) (a : Nat) (g : Nat → Int64) (x c : Nat) : ah_o (ah_wl h a g) x c = ah_o h x c := of_eq_true (eq_true rfl)
theorem in__wl (h : AH) (a : Nat) (g : Nat → Int64) (x : Nat) : in_ (ah_wl h a g) x = in_ h x := of_eq_true (eq_true rfl)
theorem cp__wl (h : AH) (a : Nat) (g : Nat → Int64) (t a0 a1 : Nat) (sp dp n : Int32) : cp_ (ah_wl h a g) t a0 a1 sp dp n = cp_ h t a0 a1 sp dp n := of_eq_true (eq_true rfl)
theorem ah_x_wl (h : AH) (a : Nat) (g : Nat → Int64) (x t n : Nat) : ah_x (ah_wl h a g) x t n = ah_x h x t n := of_eq_true (eq_true rfl)
theorem ah_ra_wl (h : AH) (a : Nat) (g : Nat → Int64) (x n : Nat) : ah_ra (ah_wl h a g) x n = ah_ra h x n := of_eq_true (eq_true rfl)
theorem n_sr (h : AH) (a k : Nat) (v : Option Nat) : ah_n (ah_sr h a k v) = ah_n h := of_eq_true (eq_true rfl)
theorem k_sr (h : AH) (a k : Nat) (v : Option Nat) : ah_k (ah_sr h a k v) = ah_k h := of_eq_true (eq_true rfl)
theorem f_sr (h : AH) (a k : Nat) (v : Option Nat) : ah_f (ah_sr h a k v) = ah_f h := of_eq_true (eq_true rfl)
theorem r_sr_s (h : AH) (a k : Nat) (v : Option Nat) : ah_r (ah_sr h a k v) a = u1 (ah_r h a) k v := u1_s _ _ _
theorem r_sr_n (h : AH) (a k : Nat) (v : Option Nat) (b : Nat) (e : b ≠ a) : ah_r (ah_sr h a k v) b = ah_r h b := u1_n _ _ e
theorem i_sr (h : AH) (a k : Nat) (v : Option Nat) : ah_i (ah_sr h a k v) = ah_i h := of_eq_true (eq_true rfl)
theorem l_sr (h : AH) (a k : Nat) (v : Option Nat) : ah_l (ah_sr h a k v) = ah_l h := of_eq_true (eq_true rfl)
theorem q_sr (h : AH) (a k : Nat) (v : Option Nat) : ah_q (ah_sr h a k v) = ah_q h := of_eq_true (eq_true rfl)
theorem n_sq (h : AH) (a k : Nat) (v : Option Nat) : ah_n (ah_sq h a k v) = ah_n h := of_eq_true (eq_true rfl)
theorem k_sq (h : AH) (a k : Nat) (v : Option Nat) : ah_k (ah_sq h a k v) = ah_k h := of_eq_true (eq_true rfl)
theorem f_sq (h : AH) (a k : Nat) (v : Option Nat) : ah_f (ah_sq h a k v) = ah_f h := of_eq_true (eq_true rfl)
theorem r_sq (h : AH) (a k : Nat) (v : Option Nat) : ah_r (ah_sq h a k v) = ah_r h := of_eq_true (eq_true rfl)
theorem i_sq (h : AH) (a k : Nat) (v : Option Nat) : ah_i (ah_sq h a k v) = ah_i h := of_eq_true (eq_true rfl)
theorem l_sq (h : AH) (a k : Nat) (v : Option Nat) : ah_l (ah_sq h a k v) = ah_l h := of_eq_true (eq_true rfl)
theorem q_sq_s (h : AH) (a k : Nat) (v : Option Nat) : ah_q (ah_sq h a k v) a = u1 (ah_q h a) k v := u1_s _ _ _
theorem q_sq_n (h : AH) (a k : Nat) (v : Option Nat) (b : Nat) (e : b ≠ a) : ah_q (ah_sq h a k v) b = ah_q h b := u1_n _ _ e
/-! what only certain cells changed in -/
def fr (L : List Nat) (h h' : AH) : Prop := (ah_n h' = ah_n h ∧ ah_k h' = ah_k h ∧ ah_r h' = ah_r h ∧ ah_q h' = ah_q h) ∧ ∀ a, a ∉ L → ah_f h' a = ah_f h a ∧ ah_i h' a = ah_i h a ∧ ah_l h' a = ah_l h a
theorem fr_refl (L : List Nat) (h : AH) : fr L h h := ⟨⟨rfl, rfl, rfl, rfl⟩, fun _ _ => ⟨rfl, rfl, rfl⟩⟩
theorem fr_trans {L : List Nat} {h h1 h2 : AH} (x : fr L h h1) (y : fr L h1 h2) : fr L h h2 := ⟨⟨y.1.1.trans x.1.1, y.1.2.1.trans x.1.2.1, y.1.2.2.1.trans x.1.2.2.1, y.1.2.2.2.trans x.1.2.2.2⟩, fun a ha => ⟨(y.2 a ha).1.trans (x.2 a ha).1, (y.2 a ha).2.1.trans (x.2 a ha).2.1, (y.2 a ha).2.2.trans (x.2 a ha).2.2⟩⟩
theorem fr_mono {L L' : List Nat} {h h1 : AH} (x : fr L h h1) (s : ∀ a, a ∈ L → a ∈ L') : fr L' h h1 := ⟨x.1, fun a ha => x.2 a (fun q => ha (s a q))⟩
theorem fr_i {L : List Nat} {h h' : AH} (x : fr L h h') (a : Nat) (ha : a ∉ L) : ah_i h' a = ah_i h a := (x.2 a ha).2.1
theorem fr_f {L : List Nat} {h h' : AH} (x : fr L h h') (a : Nat) (ha : a ∉ L) : ah_f h' a = ah_f h a := (x.2 a ha).1
theorem fr_l {L : List Nat} {h h' : AH} (x : fr L h h') (a : Nat) (ha : a ∉ L) : ah_l h' a = ah_l h a := (x.2 a ha).2.2
theorem fr_si {L : List Nat} {h h' : AH} (x : fr L h h') {a k : Nat} {v : Int32} (ha : a ∈ L) : fr L h (ah_si h' a k v) := ⟨x.1, fun b hb => ⟨(x.2 b hb).1, (i_si_n _ _ _ _ _ (fun e => hb (by rw [e]; exact ha))).trans (x.2 b hb).2.1, (x.2 b hb).2.2⟩⟩
theorem fr_wi {L : List Nat} {h h' : AH} (x : fr L h h') {a : Nat} {f : Nat → Int32} (ha : a ∈ L) : fr L h (ah_wi h' a f) := ⟨x.1, fun b hb => ⟨(x.2 b hb).1, (i_wi_n _ _ _ _ (fun e => hb (by rw [e]; exact ha))).trans (x.2 b hb).2.1, (x.2 b hb).2.2⟩⟩
theorem fr_sl {L : List Nat} {h h' : AH} (x : fr L h h') {a k : Nat} {v : Int64} (ha : a ∈ L) : fr L h (ah_sl h' a k v) := ⟨x.1, fun b hb => ⟨(x.2 b hb).1, (x.2 b hb).2.1, (l_sl_n _ _ _ _ _ (fun e => hb (by rw [e]; exact ha))).trans (x.2 b hb).2.2⟩⟩
theorem fr_wl {L : List Nat} {h h' : AH} (x : fr L h h') {a : Nat} {f : Nat → Int64} (ha : a ∈ L) : fr L h (ah_wl h' a f) := ⟨x.1, fun b hb => ⟨(x.2 b hb).1, (x.2 b hb).2.1, (l_wl_n _ _ _ _ (fun e => hb (by rw [e]; exact ha))).trans (x.2 b hb).2.2⟩⟩
theorem fr_sf {L : List Nat} {h h' : AH} (x : fr L h h') {a k : Nat} {v : Int32} (ha : a ∈ L) : fr L h (ah_sf h' a k v) := ⟨x.1, fun b hb => ⟨(f_sf_n _ _ _ _ _ (fun e => hb (by rw [e]; exact ha))).trans (x.2 b hb).1, (x.2 b hb).2.1, (x.2 b hb).2.2⟩⟩
/-! loops -/
theorem lp {σ : Type} (n : Nat) (I G : Nat → σ → Prop) {s : σ} (h0 : I 0 s) (hs : ∀ j s, j < n → I j s → (∀ s', I (j + 1) s' → G (j + 1) s') → G j s) (he : ∀ s, I n s → G n s) : G 0 s := by
  have key : ∀ t j s, j + t = n → I j s → G j s := by
    intro t
    induction t with
    | zero => intro j s e i; exact (show j = n by omega) ▸ (he s ((show j = n by omega) ▸ i))
    | succ t ih => intro j s e i; exact hs j s (by omega) i (fun s' i' => ih (j + 1) s' (by omega) i')
  exact key n 0 s (by omega) h0
/-- a loop from j0 on -/
theorem lpf {σ : Type} (j0 n : Nat) (I G : Nat → σ → Prop) {s : σ} (hj : j0 ≤ n) (h0 : I j0 s) (hs : ∀ j s, j0 ≤ j → j < n → I j s → (∀ s', I (j + 1) s' → G (j + 1) s') → G j s) (he : ∀ s, I n s → G n s) : G j0 s := by
  have key : ∀ t j s, j0 ≤ j → j + t = n → I j s → G j s := by
    intro t
    induction t with
    | zero => intro j s _ e i; exact (show j = n by omega) ▸ (he s ((show j = n by omega) ▸ i))
    | succ t ih => intro j s q e i; exact hs j s q (by omega) i (fun s' i' => ih (j + 1) s' (by omega) (by omega) i')
  exact key (n - j0) j0 s (Nat.le_refl _) (by omega) h0
/-- a loop with a measure -/
theorem lpm {σ : Type} (f : σ → Nat) (I G : σ → Prop) {s : σ} (h0 : I s) (hs : ∀ s, I s → (∀ s', I s' → f s' < f s → G s') → G s) : G s := by
  have key : ∀ t s, f s < t → I s → G s := by
    intro t
    induction t with
    | zero => intro s q; omega
    | succ t ih => intro s q i; exact hs s i (fun s' i' q' => ih s' (by omega) i')
  exact key (f s + 1) s (by omega) h0
