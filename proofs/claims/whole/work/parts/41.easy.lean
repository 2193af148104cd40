/-! crossing, put, loose, row, end. -/
def ar (v : Int32) : Prop := -1 ≤ v.toInt ∧ v.toInt < 100
theorem ar_c {v : Int32} : ar v ↔ v = m1 ∨ ∃ a, a < 100 ∧ v = nI a := by
  constructor
  · rintro ⟨h1, h2⟩
    rcases ix_cases v (n := 100) (by decide) with q | q | ⟨j, hj, q⟩
    · left
      have e := Int32.lt_iff_toInt_lt.mp q.1
      have : (0 : Int32).toInt = 0 := by decide
      apply Int32.toInt_inj.mp
      rw [m1_i]
      omega
    · have e := Int32.le_iff_toInt_le.mp q.1
      rw [nI_toInt (by decide)] at e
      omega
    · exact Or.inr ⟨j, hj, q⟩
  · rintro (h | ⟨a, ha, h⟩)
    · rw [h]; unfold ar; rw [m1_i]; omega
    · rw [h]; unfold ar; rw [nI_toInt (by omega)]; omega
/-- four places anew -/
def u4 (f : Nat → Int32) (k : Nat) (a b c d : Int32) : Nat → Int32 := u1 (u1 (u1 (u1 f k a) (k + 1) b) (k + 2) c) (k + 3) d
theorem u4_n {f : Nat → Int32} {k j : Nat} {a b c d : Int32} (h : j < k ∨ k + 4 ≤ j) : u4 f k a b c d j = f j := by
  unfold u4
  rw [u1_n _ _ (by omega), u1_n _ _ (by omega), u1_n _ _ (by omega), u1_n _ _ (by omega)]
theorem u4_c {f : Nat → Int32} {k j : Nat} {a b c d : Int32} (h1 : k ≤ j) (h2 : j < k + 4) : u4 f k a b c d j = if j = k then a else if j = k + 1 then b else if j = k + 2 then c else d := by
  unfold u4 u1
  by_cases q3 : j = k + 3
  · rw [if_pos q3, if_neg (by omega), if_neg (by omega), if_neg (by omega)]
  · rw [if_neg q3]
    by_cases q2 : j = k + 2
    · rw [if_pos q2, if_neg (by omega), if_neg (by omega), if_pos q2]
    · rw [if_neg q2]
      by_cases q1 : j = k + 1
      · rw [if_pos q1, if_neg (by omega), if_pos q1]
      · rw [if_neg q1, if_pos (by omega), if_pos (by omega)]
theorem u4_e {f g : Nat → Int32} {k k' i : Nat} {a b c d : Int32} (h : i < 4) : u4 f k a b c d (k + i) = u4 g k' a b c d (k' + i) := by
  rw [u4_c (by omega) (by omega), u4_c (by omega) (by omega)]
  rcases (show i = 0 ∨ i = 1 ∨ i = 2 ∨ i = 3 by omega) with e | e | e | e <;> subst e <;> simp
theorem u4_p {f : Nat → Int32} {k j : Nat} {a b c d : Int32} {P : Int32 → Prop} (h1 : k ≤ j) (h2 : j < k + 4) (ha : P a) (hb : P b) (hc : P c) (hd : P d) : P (u4 f k a b c d j) := by
  rw [u4_c h1 h2]
  split
  · exact ha
  · split
    · exact hb
    · split
      · exact hc
      · exact hd
section EASY
variable {h h' : AH} {d bc bs : Nat} {Q : Option Value → AH → Prop} {W W' : Nat → Nat} {N : Nat} {B : Nat → Nat} {S : Nat → Int32} {len : Nat}
theorem cArc (v : Int32) : X11_isArc_V v h = nI 0 ↔ ¬ ar v := by
  unfold X11_isArc_V ar
  have e1 : (-1 : Int32).toInt = -1 := by decide
  have e2 : (100 : Int32).toInt = 100 := by decide
  by_cases a : v < -1
  · rw [if_pos a]
    rw [Int32.lt_iff_toInt_lt, e1] at a
    exact ⟨fun _ => by omega, fun _ => rfl⟩
  · rw [if_neg a]
    rw [Int32.lt_iff_toInt_lt, e1] at a
    by_cases b : 100 ≤ v
    · rw [if_pos b]
      rw [Int32.le_iff_toInt_le, e2] at b
      exact ⟨fun _ => by omega, fun _ => rfl⟩
    · rw [if_neg b]
      rw [Int32.le_iff_toInt_le, e2] at b
      exact ⟨fun z => absurd z (by decide), fun z => absurd ⟨by omega, by omega⟩ z⟩
theorem mArc (v : Int32) : X12_isArc_V v h = nI 0 ↔ ¬ ar v := by
  unfold X12_isArc_V ar
  refine (in_rg (v := v) (-1) 99 (by decide) (by decide) h).trans ?_
  constructor <;> intro q p <;> exact q ⟨by omega, by omega⟩
theorem mArcC (v : Int32) : X12_isArc_C v h := ⟨in_bo _ _ _ _, trivial⟩
theorem c_add0 {b n : Nat} (P : pt h b) (hn : ah_f h b 2 = nI n) (h40 : n < 40) (a0 a1 a2 a3 : Int32) (k : ∀ h', h' = ah_sf (ah_si (ah_si (ah_si (ah_si (ah_si h (b + 1) n (nI 4)) (b + 2) (4 * n) a0) (b + 2) (4 * n + 1) a1) (b + 2) (4 * n + 2) a2) (b + 2) (4 * n + 3) a3) b 2 (nI (n + 1)) → Q none h') : ex_S yX7_add mX7_add d [.ref b, .int a0, .int a1, .int a2, .int a3] h bc bs Q := by
  refine X7_add_e (X7_add_0 ?_)
  simp (disch := omega) only [forall_eq, Option.some.injEq, exists_eq_left', Option.getD_some, Value.int.injEq, Value.long.injEq, n_sf, k_sf, f_sf_s, f_sf_n, r_sf, i_sf, l_sf, q_sf, ld0_sf, st0_sf, ld1_sf, ld2_sf, ld3_sf, ah_o_sf, in__sf, cp__sf, ah_x_sf, ah_ra_sf, n_si, k_si, f_si, r_si, i_si_s, i_si_n, l_si, q_si, ld0_si, st0_si, ld1_si, ld2_si, ld3_si, ah_o_si, in__si, cp__si, ah_x_si, ah_ra_si, n_sl, k_sl, f_sl, r_sl, i_sl, l_sl_s, l_sl_n, q_sl, ld0_sl, st0_sl, ld1_sl, ld2_sl, ld3_sl, ah_o_sl, in__sl, cp__sl, ah_x_sl, ah_ra_sl, n_wi, k_wi, f_wi, r_wi, i_wi_s, i_wi_n, l_wi, q_wi, ld0_wi, st0_wi, ld1_wi, ld2_wi, ld3_wi, ah_o_wi, in__wi, cp__wi, ah_x_wi, ah_ra_wi, n_wl, k_wl, f_wl, r_wl, i_wl, l_wl_s, l_wl_n, q_wl, ld0_wl, st0_wl, ld1_wl, ld2_wl, ld3_wl, ah_o_wl, in__wl, cp__wl, ah_x_wl, ah_ra_wl, n_sr, k_sr, f_sr, r_sr_s, r_sr_n, i_sr, l_sr, q_sr, n_sq, k_sq, f_sq, r_sq, i_sq, l_sq, q_sq_s, q_sq_n, pt_o P, pt_r0 P, pt_r1 P, pt_s0 P, pt_s1 P, pt_t0 P, pt_t1 P, il_0, il_1, il_2, il_3, il_4, il_5, il_6, il_7, il_8, il_9, il_10, il_11, il_12, il_13, il_14, il_15, il_16, il_17, il_18, il_19, il_20, il_24, il_30, il_31, il_38, il_39, il_40, il_41, il_48, il_50, il_59, il_60, il_63, il_64, il_70, il_80, il_99, il_100, il_120, il_130, il_140, il_144, il_159, il_160, il_162, il_200, il_210, il_240, il_264, il_280, il_281, il_300, il_364, il_368, il_599, il_600, il_601, il_999, il_1610, il_1620, il_1800, il_4000, il_5000, il_7000, il_14500, il_58240, il_1000000, m1_e, nI_1, nI_add, pk_mul, pk_div, pk_sub, nI_clamp, nI_leI, nI_ltI, nI_eq, m1_lt, m1_le, m1_gt, m1_ge, m1_ne, m1_en, ix_nI, im_nI, and1, and3, sh2_, shr2, corner_nI, turned_nI, hn]
  exact ⟨trivial, fun _ => ⟨by omega, by omega, by omega, by omega, by omega, k _ rfl⟩, fun z => (by first | omega | exact absurd trivial z | exact z.elim | exact absurd rfl z)⟩
theorem c_add {b n : Nat} (P : pt h b) (hn : ah_f h b 2 = nI n) (h40 : n < 40) (a0 a1 a2 a3 : Int32) (k : ∀ h', fr [b, b + 1, b + 2] h h' → ah_f h' b = u1 (ah_f h b) 2 (nI (n + 1)) → ah_i h' (b + 1) = u1 (ah_i h (b + 1)) n (nI 4) → ah_i h' (b + 2) = u4 (ah_i h (b + 2)) (4 * n) a0 a1 a2 a3 → Q none h') : ex_S yX7_add mX7_add d [.ref b, .int a0, .int a1, .int a2, .int a3] h bc bs Q := by
  refine c_add0 P hn h40 a0 a1 a2 a3 (fun h' eh => ?_)
  subst eh
  have m0 : b ∈ [b, b + 1, b + 2] := (by simp only [List.mem_cons, List.not_mem_nil, or_false, true_or, or_true, not_true_eq_false] <;> omega)
  have m1_ : b + 1 ∈ [b, b + 1, b + 2] := (by simp only [List.mem_cons, List.not_mem_nil, or_false, true_or, or_true, not_true_eq_false] <;> omega)
  have m2 : b + 2 ∈ [b, b + 1, b + 2] := (by simp only [List.mem_cons, List.not_mem_nil, or_false, true_or, or_true, not_true_eq_false] <;> omega)
  refine k _ (fr_sf (fr_si (fr_si (fr_si (fr_si (fr_si (fr_refl _ h) m1_) m2) m2) m2) m2) m0) ?_ ?_ ?_
  · simp (disch := omega) only [n_sf, k_sf, f_sf_s, f_sf_n, r_sf, i_sf, l_sf, q_sf, ld0_sf, st0_sf, ld1_sf, ld2_sf, ld3_sf, ah_o_sf, in__sf, cp__sf, ah_x_sf, ah_ra_sf, n_si, k_si, f_si, r_si, i_si_s, i_si_n, l_si, q_si, ld0_si, st0_si, ld1_si, ld2_si, ld3_si, ah_o_si, in__si, cp__si, ah_x_si, ah_ra_si, n_sl, k_sl, f_sl, r_sl, i_sl, l_sl_s, l_sl_n, q_sl, ld0_sl, st0_sl, ld1_sl, ld2_sl, ld3_sl, ah_o_sl, in__sl, cp__sl, ah_x_sl, ah_ra_sl, n_wi, k_wi, f_wi, r_wi, i_wi_s, i_wi_n, l_wi, q_wi, ld0_wi, st0_wi, ld1_wi, ld2_wi, ld3_wi, ah_o_wi, in__wi, cp__wi, ah_x_wi, ah_ra_wi, n_wl, k_wl, f_wl, r_wl, i_wl, l_wl_s, l_wl_n, q_wl, ld0_wl, st0_wl, ld1_wl, ld2_wl, ld3_wl, ah_o_wl, in__wl, cp__wl, ah_x_wl, ah_ra_wl, n_sr, k_sr, f_sr, r_sr_s, r_sr_n, i_sr, l_sr, q_sr, n_sq, k_sq, f_sq, r_sq, i_sq, l_sq, q_sq_s, q_sq_n]
  · simp (disch := omega) only [n_sf, k_sf, f_sf_s, f_sf_n, r_sf, i_sf, l_sf, q_sf, ld0_sf, st0_sf, ld1_sf, ld2_sf, ld3_sf, ah_o_sf, in__sf, cp__sf, ah_x_sf, ah_ra_sf, n_si, k_si, f_si, r_si, i_si_s, i_si_n, l_si, q_si, ld0_si, st0_si, ld1_si, ld2_si, ld3_si, ah_o_si, in__si, cp__si, ah_x_si, ah_ra_si, n_sl, k_sl, f_sl, r_sl, i_sl, l_sl_s, l_sl_n, q_sl, ld0_sl, st0_sl, ld1_sl, ld2_sl, ld3_sl, ah_o_sl, in__sl, cp__sl, ah_x_sl, ah_ra_sl, n_wi, k_wi, f_wi, r_wi, i_wi_s, i_wi_n, l_wi, q_wi, ld0_wi, st0_wi, ld1_wi, ld2_wi, ld3_wi, ah_o_wi, in__wi, cp__wi, ah_x_wi, ah_ra_wi, n_wl, k_wl, f_wl, r_wl, i_wl, l_wl_s, l_wl_n, q_wl, ld0_wl, st0_wl, ld1_wl, ld2_wl, ld3_wl, ah_o_wl, in__wl, cp__wl, ah_x_wl, ah_ra_wl, n_sr, k_sr, f_sr, r_sr_s, r_sr_n, i_sr, l_sr, q_sr, n_sq, k_sq, f_sq, r_sq, i_sq, l_sq, q_sq_s, q_sq_n]
  · simp (disch := omega) only [n_sf, k_sf, f_sf_s, f_sf_n, r_sf, i_sf, l_sf, q_sf, ld0_sf, st0_sf, ld1_sf, ld2_sf, ld3_sf, ah_o_sf, in__sf, cp__sf, ah_x_sf, ah_ra_sf, n_si, k_si, f_si, r_si, i_si_s, i_si_n, l_si, q_si, ld0_si, st0_si, ld1_si, ld2_si, ld3_si, ah_o_si, in__si, cp__si, ah_x_si, ah_ra_si, n_sl, k_sl, f_sl, r_sl, i_sl, l_sl_s, l_sl_n, q_sl, ld0_sl, st0_sl, ld1_sl, ld2_sl, ld3_sl, ah_o_sl, in__sl, cp__sl, ah_x_sl, ah_ra_sl, n_wi, k_wi, f_wi, r_wi, i_wi_s, i_wi_n, l_wi, q_wi, ld0_wi, st0_wi, ld1_wi, ld2_wi, ld3_wi, ah_o_wi, in__wi, cp__wi, ah_x_wi, ah_ra_wi, n_wl, k_wl, f_wl, r_wl, i_wl, l_wl_s, l_wl_n, q_wl, ld0_wl, st0_wl, ld1_wl, ld2_wl, ld3_wl, ah_o_wl, in__wl, cp__wl, ah_x_wl, ah_ra_wl, n_sr, k_sr, f_sr, r_sr_s, r_sr_n, i_sr, l_sr, q_sr, n_sq, k_sq, f_sq, r_sq, i_sq, l_sq, q_sq_s, q_sq_n]
    rfl
theorem m_app (K : sp h) {s n : Nat} (hs : s < 368) (hn : ah_i h 170 s = nI n) (h40 : n < 40) (a b c e : Int32) (k : ∀ h', fr [170, 171, 172, 173] h h' → (∀ t, t ≠ s → sl h h' t) → ah_i h' 170 s = nI (n + 1) → ah_i h' 171 = ah_i h 171 → ah_i h' 172 = u1 (ah_i h 172) (40 * s + n) (nI 4) → ah_i h' 173 = u4 (ah_i h 173) (160 * s + 4 * n) a b c e → Q none h') : ex_S yX12_append mX12_append d [.ref 168, .int (nI s), .int a, .int b, .int c, .int e] h bc bs Q := by
  refine m_append K hs hn h40 a b c e (fun h' eh => ?_)
  subst eh
  refine k _ (fr_si (fr_si (fr_si (fr_si (fr_si (fr_si (fr_refl _ h) (by decide)) (by decide)) (by decide)) (by decide)) (by decide)) (by decide)) (fun t ht => sl_trans (sl_trans (sl_trans (sl_trans (sl_trans (sl_172 ht (by omega) (by omega)) (sl_173 ht (by omega) (by omega))) (sl_173 ht (by omega) (by omega))) (sl_173 ht (by omega) (by omega))) (sl_173 ht (by omega) (by omega))) (sl_170 ht)) ?_ ?_ ?_ ?_
  · simp (disch := omega) only [n_sf, k_sf, f_sf_s, f_sf_n, r_sf, i_sf, l_sf, q_sf, ld0_sf, st0_sf, ld1_sf, ld2_sf, ld3_sf, ah_o_sf, in__sf, cp__sf, ah_x_sf, ah_ra_sf, n_si, k_si, f_si, r_si, i_si_s, i_si_n, l_si, q_si, ld0_si, st0_si, ld1_si, ld2_si, ld3_si, ah_o_si, in__si, cp__si, ah_x_si, ah_ra_si, n_sl, k_sl, f_sl, r_sl, i_sl, l_sl_s, l_sl_n, q_sl, ld0_sl, st0_sl, ld1_sl, ld2_sl, ld3_sl, ah_o_sl, in__sl, cp__sl, ah_x_sl, ah_ra_sl, n_wi, k_wi, f_wi, r_wi, i_wi_s, i_wi_n, l_wi, q_wi, ld0_wi, st0_wi, ld1_wi, ld2_wi, ld3_wi, ah_o_wi, in__wi, cp__wi, ah_x_wi, ah_ra_wi, n_wl, k_wl, f_wl, r_wl, i_wl, l_wl_s, l_wl_n, q_wl, ld0_wl, st0_wl, ld1_wl, ld2_wl, ld3_wl, ah_o_wl, in__wl, cp__wl, ah_x_wl, ah_ra_wl, n_sr, k_sr, f_sr, r_sr_s, r_sr_n, i_sr, l_sr, q_sr, n_sq, k_sq, f_sq, r_sq, i_sq, l_sq, q_sq_s, q_sq_n, u1_s]
  · simp (disch := omega) only [n_sf, k_sf, f_sf_s, f_sf_n, r_sf, i_sf, l_sf, q_sf, ld0_sf, st0_sf, ld1_sf, ld2_sf, ld3_sf, ah_o_sf, in__sf, cp__sf, ah_x_sf, ah_ra_sf, n_si, k_si, f_si, r_si, i_si_s, i_si_n, l_si, q_si, ld0_si, st0_si, ld1_si, ld2_si, ld3_si, ah_o_si, in__si, cp__si, ah_x_si, ah_ra_si, n_sl, k_sl, f_sl, r_sl, i_sl, l_sl_s, l_sl_n, q_sl, ld0_sl, st0_sl, ld1_sl, ld2_sl, ld3_sl, ah_o_sl, in__sl, cp__sl, ah_x_sl, ah_ra_sl, n_wi, k_wi, f_wi, r_wi, i_wi_s, i_wi_n, l_wi, q_wi, ld0_wi, st0_wi, ld1_wi, ld2_wi, ld3_wi, ah_o_wi, in__wi, cp__wi, ah_x_wi, ah_ra_wi, n_wl, k_wl, f_wl, r_wl, i_wl, l_wl_s, l_wl_n, q_wl, ld0_wl, st0_wl, ld1_wl, ld2_wl, ld3_wl, ah_o_wl, in__wl, cp__wl, ah_x_wl, ah_ra_wl, n_sr, k_sr, f_sr, r_sr_s, r_sr_n, i_sr, l_sr, q_sr, n_sq, k_sq, f_sq, r_sq, i_sq, l_sq, q_sq_s, q_sq_n]
  · simp (disch := omega) only [n_sf, k_sf, f_sf_s, f_sf_n, r_sf, i_sf, l_sf, q_sf, ld0_sf, st0_sf, ld1_sf, ld2_sf, ld3_sf, ah_o_sf, in__sf, cp__sf, ah_x_sf, ah_ra_sf, n_si, k_si, f_si, r_si, i_si_s, i_si_n, l_si, q_si, ld0_si, st0_si, ld1_si, ld2_si, ld3_si, ah_o_si, in__si, cp__si, ah_x_si, ah_ra_si, n_sl, k_sl, f_sl, r_sl, i_sl, l_sl_s, l_sl_n, q_sl, ld0_sl, st0_sl, ld1_sl, ld2_sl, ld3_sl, ah_o_sl, in__sl, cp__sl, ah_x_sl, ah_ra_sl, n_wi, k_wi, f_wi, r_wi, i_wi_s, i_wi_n, l_wi, q_wi, ld0_wi, st0_wi, ld1_wi, ld2_wi, ld3_wi, ah_o_wi, in__wi, cp__wi, ah_x_wi, ah_ra_wi, n_wl, k_wl, f_wl, r_wl, i_wl, l_wl_s, l_wl_n, q_wl, ld0_wl, st0_wl, ld1_wl, ld2_wl, ld3_wl, ah_o_wl, in__wl, cp__wl, ah_x_wl, ah_ra_wl, n_sr, k_sr, f_sr, r_sr_s, r_sr_n, i_sr, l_sr, q_sr, n_sq, k_sq, f_sq, r_sq, i_sq, l_sq, q_sq_s, q_sq_n]
    rfl
  · simp (disch := omega) only [n_sf, k_sf, f_sf_s, f_sf_n, r_sf, i_sf, l_sf, q_sf, ld0_sf, st0_sf, ld1_sf, ld2_sf, ld3_sf, ah_o_sf, in__sf, cp__sf, ah_x_sf, ah_ra_sf, n_si, k_si, f_si, r_si, i_si_s, i_si_n, l_si, q_si, ld0_si, st0_si, ld1_si, ld2_si, ld3_si, ah_o_si, in__si, cp__si, ah_x_si, ah_ra_si, n_sl, k_sl, f_sl, r_sl, i_sl, l_sl_s, l_sl_n, q_sl, ld0_sl, st0_sl, ld1_sl, ld2_sl, ld3_sl, ah_o_sl, in__sl, cp__sl, ah_x_sl, ah_ra_sl, n_wi, k_wi, f_wi, r_wi, i_wi_s, i_wi_n, l_wi, q_wi, ld0_wi, st0_wi, ld1_wi, ld2_wi, ld3_wi, ah_o_wi, in__wi, cp__wi, ah_x_wi, ah_ra_wi, n_wl, k_wl, f_wl, r_wl, i_wl, l_wl_s, l_wl_n, q_wl, ld0_wl, st0_wl, ld1_wl, ld2_wl, ld3_wl, ah_o_wl, in__wl, cp__wl, ah_x_wl, ah_ra_wl, n_sr, k_sr, f_sr, r_sr_s, r_sr_n, i_sr, l_sr, q_sr, n_sq, k_sq, f_sq, r_sq, i_sq, l_sq, q_sq_s, q_sq_n]
    rfl
theorem fp_fr {p : Nat} {L : List Nat} (F : fr L h h') (hL : ∀ a, a ∈ L → 216 ≤ a ∧ a < 10000000 ∧ W a = p) : fp p W h h' := ⟨⟨by rw [F.1.1]; exact Nat.le_refl _, fun a ha => eqc_fr F (fun q => by have := (hL a q).2.1; omega)⟩, fun a _ _ _ _ _ _ _ z => eqc_fr F (fun q => z ⟨(hL a q).1, (hL a q).2.2⟩), fun k _ _ _ => by rw [fr_f F 0 (fun q => by have := (hL 0 q).1; omega)], fun k _ _ _ _ => by rw [fr_f F 168 (fun q => by have := (hL 168 q).1; omega)], fun K => sp_fr K F, fun x => LAC_q x F.1.2.2.1 F.1.2.2.2, fun s _ _ _ => sl_of s (fr_i F 170 (fun q => by have := (hL 170 q).1; omega)) (fr_i F 171 (fun q => by have := (hL 171 q).1; omega)) (fr_i F 172 (fun q => by have := (hL 172 q).1; omega)) (fr_i F 173 (fun q => by have := (hL 173 q).1; omega)), fun q _ => by rw [fr_i F 174 (fun q => by have := (hL 174 q).1; omega)]⟩
theorem FC_of (y : FC h) (a : ah_f h' 0 19 = ah_f h' 168 0) (e17 : ah_f h' 0 17 = ah_f h 0 17) (e18 : ah_f h' 0 18 = ah_f h 0 18) (e15 : ah_f h' 168 15 = ah_f h 168 15) (e60 : ah_f h' 168 60 = ah_f h 168 60) (i1 : ah_i h' 167 = ah_i h 167) (i2 : ah_i h' 169 = ah_i h 169) : FC h' := ⟨a, by rw [e17, e15]; exact y.2.1, by rw [e18, e60]; exact y.2.2.1, fun k k1 k2 => by rw [i1, i2]; exact y.2.2.2 k k1 k2⟩
theorem pt_q {b : Nat} (x : pt h b) (nn : ah_n h' = ah_n h) (kk : ah_k h' = ah_k h) (rr : ah_r h' = ah_r h) : pt h' b := by
  unfold pt ah_o ah_x at *
  rw [nn, kk, rr]
  exact x
theorem st_crossing (x : R0 h W N B S len) (p a0 a1 a2 a3 : Int32) : ST yX11_crossing mX11_crossing yX12_crossing mX12_crossing (d + 1) (d + 2) [.int p, .int a0, .int a1, .int a2, .int a3] h bc bs W S len := by
  have K := x.2.1
  obtain ⟨h24, hN, hN2, hP⟩ := x.2.2.2.2.1
  refine X11_crossing_e (X11_crossing_0 ?_)
  have Kn : sp (cNo h (-nI 2)) := K
  have qn : ah_f (cNo h (-nI 2)) 168 6 = nI N := by unfold cNo; rw [f_sf_n _ _ _ _ _ (by decide)]; exact hN2
  by_cases hall : ix p N ∧ ar a0 ∧ ar a1 ∧ ar a2 ∧ ar a3
  · obtain ⟨hp, r0, r1, r2, r3⟩ := hall
    obtain ⟨p0, hp0, rfl⟩ := ix_of hp (by omega)
    have hX := (hP p0 hp0).2
    obtain ⟨x1, x2, pt1, ⟨w0, w1, w2⟩, ⟨n, l, y1, y2, y3, y4, y5, y6, y7, y8, y9⟩, hh⟩ := hX
    have hq := (hP p0 hp0).1
    have hp24 : p0 < 24 := by omega
    have hp36 : p0 < 368 := by omega
    have h40 := y6.1
    have bx := pt1.1
    by_cases full : n < 40
    · simp (disch := omega) only [o0 K, hasPC K, hasP hN h24, hp, cArc, r0, r1, r2, r3, r0_0 K, s1 K, hq, hp24, pt_o pt1, y1, full, forall_eq, Option.some.injEq, exists_eq_left', Option.getD_some, Value.int.injEq, Value.long.injEq, not_true_eq_false, not_false_eq_true, false_implies, true_implies, forall_const, implies_true, and_true, true_and, Classical.not_not, il_0, il_1, il_2, il_3, il_4, il_5, il_6, il_7, il_8, il_9, il_10, il_11, il_12, il_13, il_14, il_15, il_16, il_17, il_18, il_19, il_20, il_24, il_30, il_31, il_38, il_39, il_40, il_41, il_48, il_50, il_59, il_60, il_63, il_64, il_70, il_80, il_99, il_100, il_120, il_130, il_140, il_144, il_159, il_160, il_162, il_200, il_210, il_240, il_264, il_280, il_281, il_300, il_364, il_368, il_599, il_600, il_601, il_999, il_1610, il_1620, il_1800, il_4000, il_5000, il_7000, il_14500, il_58240, il_1000000, m1_e, nI_1, nI_add, pk_mul, pk_div, pk_sub, nI_clamp, nI_leI, nI_ltI, nI_eq, m1_lt, m1_le, m1_gt, m1_ge, m1_ne, m1_en, ix_nI, im_nI, and1, and3, sh2_, shr2, corner_nI, turned_nI]
      refine ⟨⟨pt_o pt1, trivial⟩, pt_o pt1, ?_⟩
      have F0 : fr [B p0, B p0 + 1, B p0 + 2] h (X7_forget_H (B p0) h) := fr_sf (fr_refl _ h) (by simp only [List.mem_cons, List.not_mem_nil, or_false, true_or, or_true, not_true_eq_false] <;> omega)
      have g0 : ah_f (X7_forget_H (B p0) h) (B p0) = u1 (ah_f h (B p0)) 5 (nI 0) := f_sf_s _ _ _ _
      have gi : ah_i (X7_forget_H (B p0) h) = ah_i h := rfl
      have p0t : pt (X7_forget_H (B p0) h) (B p0) := pt_fr pt1 F0
      generalize X7_forget_H (B p0) h = ha at F0 g0 gi p0t ⊢
      refine c_add p0t (by rw [g0, u1_n _ _ (by decide)]; exact y1) full a0 a1 a2 a3 (fun hb F1 g1 g2 g3 => ⟨rfl, ?_⟩)
      have F2 := fr_trans F0 F1
      have Kb := sp_fr K F2
      have ptb := pt_fr pt1 F2
      refine ⟨pt_o ptb, o0 Kb, ⟨o0 Kb, trivial⟩, ?_⟩
      rw [grV, grH, g1, u1_s, pk_sub (by omega), Nat.add_sub_cancel]
      have fb : fp p0 W h (cNo hb (nI 0)) := fp_trans (fp_fr F2 (fun a ha => by
        simp only [List.mem_cons, List.not_mem_nil, or_false] at ha
        rcases ha with e | e | e
        · rw [e]; exact ⟨x1, by omega, w0⟩
        · rw [e]; exact ⟨by omega, by omega, w1⟩
        · rw [e]; exact ⟨by omega, by omega, w2⟩)) (fp_f0 (by omega))
      have K1 := fb.2.2.2.2.1 K
      have q6 := (fb.2.2.2.1 6 (by decide) (by decide) (by decide) (by decide)).trans hN2
      have n2 : ah_i (cNo hb (nI 0)) 170 p0 = nI n := by
        show ah_i hb 170 p0 = nI n
        rw [fr_i F2 170 (by simp only [List.mem_cons, List.not_mem_nil, or_false, true_or, or_true, not_true_eq_false] <;> omega)]
        exact y2
      have n40 : ¬ n = 40 := by omega
      refine X12_crossing_e (X12_crossing_0 ?_)
      simp (disch := omega) only [o168 K1, isPC K1, isP_ q6 h24, hp, mArc, mArcC, r0, r1, r2, r3, r168_2 K1, s170 K1, n2, n40, hp36, forall_eq, Option.some.injEq, exists_eq_left', Option.getD_some, Value.int.injEq, Value.long.injEq, not_true_eq_false, not_false_eq_true, false_implies, true_implies, forall_const, implies_true, and_true, true_and, Classical.not_not, il_0, il_1, il_2, il_3, il_4, il_5, il_6, il_7, il_8, il_9, il_10, il_11, il_12, il_13, il_14, il_15, il_16, il_17, il_18, il_19, il_20, il_24, il_30, il_31, il_38, il_39, il_40, il_41, il_48, il_50, il_59, il_60, il_63, il_64, il_70, il_80, il_99, il_100, il_120, il_130, il_140, il_144, il_159, il_160, il_162, il_200, il_210, il_240, il_264, il_280, il_281, il_300, il_364, il_368, il_599, il_600, il_601, il_999, il_1610, il_1620, il_1800, il_4000, il_5000, il_7000, il_14500, il_58240, il_1000000, m1_e, nI_1, nI_add, pk_mul, pk_div, pk_sub, nI_clamp, nI_leI, nI_ltI, nI_eq, m1_lt, m1_le, m1_gt, m1_ge, m1_ne, m1_en, ix_nI, im_nI, and1, and3, sh2_, shr2, corner_nI, turned_nI]
      refine m_app K1 hp36 n2 full a0 a1 a2 a3 (fun hc F3 i0 i1 i2 i3 i4 => ⟨rfl, ?_⟩)
      have K3 := sp_fr K1 F3
      refine ⟨o168 K3, 174, r168_7 K3, (t174 K3 _).mpr ((ix_nI (by omega)).mpr hp24), 170, r168_2 K3, (s170 K3 _).mpr ((ix_nI (by omega)).mpr hp36), ⟨o168 K3, trivial⟩, ?_⟩
      rw [weV, weH, i_si_n _ _ _ _ _ (by decide), i1, pk_sub (by omega), Nat.add_sub_cancel]
      refine ⟨rfl, ?_⟩
      have fc : fp p0 W (cNo hb (nI 0)) (mNo (ah_si hc 174 p0 (nI 0)) (nI 0)) := fp_trans (fp_trans (fp_slots F3 (fun s _ hs _ => i0 s hs)) fp_174) (fp_f168 (by omega))
      -- what the last heap holds
      have j1 : ah_i (mNo (ah_si hc 174 p0 (nI 0)) (nI 0)) (B p0 + 1) = u1 (ah_i h (B p0 + 1)) n (nI 4) := by
        show ah_i (ah_si hc 174 p0 (nI 0)) (B p0 + 1) = _
        rw [i_si_n _ _ _ _ _ (by omega), fr_i F3 (B p0 + 1) (by simp only [List.mem_cons, List.not_mem_nil, or_false, true_or, or_true, not_true_eq_false] <;> omega)]
        show ah_i hb (B p0 + 1) = _
        rw [g2, gi]
      have j2 : ah_i (mNo (ah_si hc 174 p0 (nI 0)) (nI 0)) (B p0 + 2) = u4 (ah_i h (B p0 + 2)) (4 * n) a0 a1 a2 a3 := by
        show ah_i (ah_si hc 174 p0 (nI 0)) (B p0 + 2) = _
        rw [i_si_n _ _ _ _ _ (by omega), fr_i F3 (B p0 + 2) (by simp only [List.mem_cons, List.not_mem_nil, or_false, true_or, or_true, not_true_eq_false] <;> omega)]
        show ah_i hb (B p0 + 2) = _
        rw [g3, gi]
      have j3 : ah_f (mNo (ah_si hc 174 p0 (nI 0)) (nI 0)) (B p0) = u1 (u1 (ah_f h (B p0)) 5 (nI 0)) 2 (nI (n + 1)) := by
        unfold mNo
        rw [f_sf_n _ _ _ _ _ (by omega), f_si, fr_f F3 (B p0) (by simp only [List.mem_cons, List.not_mem_nil, or_false, true_or, or_true, not_true_eq_false] <;> omega)]
        unfold cNo
        rw [f_sf_n _ _ _ _ _ (by omega), g1, g0]
      have j4 : ah_i (mNo (ah_si hc 174 p0 (nI 0)) (nI 0)) 170 p0 = nI (n + 1) := by
        show ah_i (ah_si hc 174 p0 (nI 0)) 170 p0 = _
        rw [i_si_n _ _ _ _ _ (by decide), i1]
      have j5 : ah_i (mNo (ah_si hc 174 p0 (nI 0)) (nI 0)) 171 = ah_i h 171 := by
        show ah_i (ah_si hc 174 p0 (nI 0)) 171 = _
        rw [i_si_n _ _ _ _ _ (by decide), i2]
        show ah_i hb 171 = _
        rw [fr_i F2 171 (by simp only [List.mem_cons, List.not_mem_nil, or_false, true_or, or_true, not_true_eq_false] <;> omega)]
      have j6 : ah_i (mNo (ah_si hc 174 p0 (nI 0)) (nI 0)) 172 = u1 (ah_i h 172) (40 * p0 + n) (nI 4) := by
        show ah_i (ah_si hc 174 p0 (nI 0)) 172 = _
        rw [i_si_n _ _ _ _ _ (by decide), i3]
        show u1 (ah_i hb 172) _ _ = _
        rw [fr_i F2 172 (by simp only [List.mem_cons, List.not_mem_nil, or_false, true_or, or_true, not_true_eq_false] <;> omega)]
      have j7 : ah_i (mNo (ah_si hc 174 p0 (nI 0)) (nI 0)) 173 = u4 (ah_i h 173) (160 * p0 + 4 * n) a0 a1 a2 a3 := by
        show ah_i (ah_si hc 174 p0 (nI 0)) 173 = _
        rw [i_si_n _ _ _ _ _ (by decide), i4]
        show u4 (ah_i hb 173) _ _ _ _ _ = _
        rw [fr_i F2 173 (by simp only [List.mem_cons, List.not_mem_nil, or_false, true_or, or_true, not_true_eq_false] <;> omega)]
      have j8 : ah_i (mNo (ah_si hc 174 p0 (nI 0)) (nI 0)) 174 p0 = nI 0 := by
        show ah_i (ah_si hc 174 p0 (nI 0)) 174 p0 = _
        rw [i_si_s, u1_s]
      have k0 : ∀ k, ah_f (mNo (ah_si hc 174 p0 (nI 0)) (nI 0)) 0 k = u1 (ah_f h 0) 19 (nI 0) k := fun k => by
        unfold mNo
        rw [f_sf_n _ _ _ _ _ (by decide), f_si, fr_f F3 0 (by decide)]
        unfold cNo
        rw [f_sf_s, fr_f F2 0 (by simp only [List.mem_cons, List.not_mem_nil, or_false, true_or, or_true, not_true_eq_false] <;> omega)]
      have k1 : ∀ k, ah_f (mNo (ah_si hc 174 p0 (nI 0)) (nI 0)) 168 k = u1 (ah_f h 168) 0 (nI 0) k := fun k => by
        unfold mNo
        rw [f_sf_s, f_si, fr_f F3 168 (by decide)]
        unfold cNo
        rw [f_sf_n _ _ _ _ _ (by decide), fr_f F2 168 (by simp only [List.mem_cons, List.not_mem_nil, or_false, true_or, or_true, not_true_eq_false] <;> omega)]
      have nn : ah_n (mNo (ah_si hc 174 p0 (nI 0)) (nI 0)) = ah_n h := by
        show ah_n hc = ah_n h
        rw [F3.1.1]
        exact F2.1.1
      have rr : ah_r (mNo (ah_si hc 174 p0 (nI 0)) (nI 0)) = ah_r h := by
        show ah_r hc = ah_r h
        rw [F3.1.2.2.1]
        exact F2.1.2.2.1
      have kk : ah_k (mNo (ah_si hc 174 p0 (nI 0)) (nI 0)) = ah_k h := by
        show ah_k hc = ah_k h
        rw [F3.1.2.1]
        exact F2.1.2.1
      have c7 : ah_i (mNo (ah_si hc 174 p0 (nI 0)) (nI 0)) 167 = ah_i h 167 := by
        show ah_i (ah_si hc 174 p0 (nI 0)) 167 = _
        rw [i_si_n _ _ _ _ _ (by decide), fr_i F3 167 (by decide)]
        show ah_i hb 167 = _
        rw [fr_i F2 167 (by simp only [List.mem_cons, List.not_mem_nil, or_false, true_or, or_true, not_true_eq_false] <;> omega)]
      have c9 : ah_i (mNo (ah_si hc 174 p0 (nI 0)) (nI 0)) 169 = ah_i h 169 := by
        show ah_i (ah_si hc 174 p0 (nI 0)) 169 = _
        rw [i_si_n _ _ _ _ _ (by decide), fr_i F3 169 (by decide)]
        show ah_i hb 169 = _
        rw [fr_i F2 169 (by simp only [List.mem_cons, List.not_mem_nil, or_false, true_or, or_true, not_true_eq_false] <;> omega)]
      have FF := fp_trans fb fc
      generalize mNo (ah_si hc 174 p0 (nI 0)) (nI 0) = hz at j1 j2 j3 j4 j5 j6 j7 j8 k0 k1 nn rr kk c7 c9 FF ⊢
      refine D_pic x hp0 FF (fun _ _ => rfl) (FC_of x.1 ?_ ?_ ?_ ?_ ?_ c7 c9) ?_ (by omega)
      · rw [k0, k1, u1_s, u1_s]
      · rw [k0, u1_n _ _ (by decide)]
      · rw [k0, u1_n _ _ (by decide)]
      · rw [k1, u1_n _ _ (by decide)]
      · rw [k1, u1_n _ _ (by decide)]
      · refine ⟨x1, by omega, pt_q pt1 nn kk rr, ⟨w0, w1, w2⟩, ⟨n + 1, l, ?_, j4, y3, ?_, ?_, ?_, ?_, ?_, ?_⟩, hp_0 hh (fun _ _ => rfl) ?_ ?_ (by rw [rr]) j8 (fun T t => ?_) (by omega)⟩
        · rw [j3, u1_s]
        · rw [j3, u1_n _ _ (by decide), u1_n _ _ (by decide)]
          exact y4
        · rw [j5]
          exact y5
        · rw [j1, j2]
          refine ⟨by omega, fun c hc => ?_, fun e he => ?_⟩
          · by_cases z : c = n
            · rw [z, u1_s]
              exact Or.inr ⟨4, by omega, rfl⟩
            · rw [u1_n _ _ z]
              exact y6.2.1 c (by omega)
          · by_cases z : e < 4 * n
            · rw [u4_n (by omega)]
              exact y6.2.2 e z
            · exact u4_p (P := fun v => v = m1 ∨ ∃ a, a < 100 ∧ v = nI a) (by omega) (by omega) (ar_c.mp r0) (ar_c.mp r1) (ar_c.mp r2) (ar_c.mp r3)
        · rw [j1, j6]
          intro c hc
          by_cases z : c = n
          · rw [z, u1_s, u1_s]
          · rw [u1_n _ _ z, u1_n _ _ (by omega)]
            exact y7 c (by omega)
        · rw [j2, j7]
          intro e he
          by_cases z : e < 4 * n
          · rw [u4_n (by omega), u4_n (by omega)]
            exact y8 e z
          · have := u4_e (f := ah_i h 173) (g := ah_i h (B p0 + 2)) (k := 160 * p0 + 4 * n) (k' := 4 * n) (i := e - 4 * n) (a := a0) (b := a1) (c := a2) (d := a3) (by omega)
            rw [show 160 * p0 + 4 * n + (e - 4 * n) = 160 * p0 + e by omega, show 4 * n + (e - 4 * n) = e by omega] at this
            exact this
        · rw [j1, j2]
          intro c i hc hi hl
          by_cases z : c = n
          · subst z
            have := hl 4 (by omega) (by rw [u1_s])
            omega
          · rw [u1_n _ _ z] at hl
            rw [u4_n (by omega)]
            exact y9 c i (by omega) hi hl
        · rw [j3, u1_n _ _ (by decide), u1_s]
        · rw [j3, u1_n _ _ (by decide), u1_n _ _ (by decide)]
        · unfold ah_x at t ⊢
          rw [nn, kk]
          exact t
    · have Kf : sp (cNo h (-nI 3)) := K
      have qf : ah_f (cNo h (-nI 3)) 168 6 = nI N := by unfold cNo; rw [f_sf_n _ _ _ _ _ (by decide)]; exact hN2
      have n2 : ah_i (cNo h (-nI 3)) 170 p0 = nI n := y2
      have n40 : n = 40 := by omega
      subst n40
      simp +decide (disch := omega) only [o0 K, hasPC K, hasP hN h24, hp, cArc, r0, r1, r2, r3, r0_0 K, s1 K, hq, hp24, pt_o pt1, y1, forall_eq, Option.some.injEq, exists_eq_left', Option.getD_some, Value.int.injEq, Value.long.injEq, not_true_eq_false, not_false_eq_true, false_implies, true_implies, forall_const, implies_true, and_true, true_and, Classical.not_not, il_0, il_1, il_2, il_3, il_4, il_5, il_6, il_7, il_8, il_9, il_10, il_11, il_12, il_13, il_14, il_15, il_16, il_17, il_18, il_19, il_20, il_24, il_30, il_31, il_38, il_39, il_40, il_41, il_48, il_50, il_59, il_60, il_63, il_64, il_70, il_80, il_99, il_100, il_120, il_130, il_140, il_144, il_159, il_160, il_162, il_200, il_210, il_240, il_264, il_280, il_281, il_300, il_364, il_368, il_599, il_600, il_601, il_999, il_1610, il_1620, il_1800, il_4000, il_5000, il_7000, il_14500, il_58240, il_1000000, m1_e, nI_1, nI_add, pk_mul, pk_div, pk_sub, nI_clamp, nI_leI, nI_ltI, nI_eq, m1_lt, m1_le, m1_gt, m1_ge, m1_ne, m1_en, ix_nI, im_nI, and1, and3, sh2_, shr2, corner_nI, turned_nI]
      refine c_no K 3 (by decide) ⟨_, rfl, ?_⟩
      refine X12_crossing_e (X12_crossing_0 ?_)
      simp +decide (disch := omega) only [o168 Kf, isPC Kf, isP_ qf h24, hp, mArc, mArcC, r0, r1, r2, r3, r168_2 Kf, s170 Kf, n2, hp36, noC Kf, noV, noH, forall_eq, Option.some.injEq, exists_eq_left', Option.getD_some, Value.int.injEq, Value.long.injEq, not_true_eq_false, not_false_eq_true, false_implies, true_implies, forall_const, implies_true, and_true, true_and, Classical.not_not, il_0, il_1, il_2, il_3, il_4, il_5, il_6, il_7, il_8, il_9, il_10, il_11, il_12, il_13, il_14, il_15, il_16, il_17, il_18, il_19, il_20, il_24, il_30, il_31, il_38, il_39, il_40, il_41, il_48, il_50, il_59, il_60, il_63, il_64, il_70, il_80, il_99, il_100, il_120, il_130, il_140, il_144, il_159, il_160, il_162, il_200, il_210, il_240, il_264, il_280, il_281, il_300, il_364, il_368, il_599, il_600, il_601, il_999, il_1610, il_1620, il_1800, il_4000, il_5000, il_7000, il_14500, il_58240, il_1000000, m1_e, nI_1, nI_add, pk_mul, pk_div, pk_sub, nI_clamp, nI_leI, nI_ltI, nI_eq, m1_lt, m1_le, m1_gt, m1_ge, m1_ne, m1_en, ix_nI, im_nI, and1, and3, sh2_, shr2, corner_nI, turned_nI]
      exact D_no x (fcs_refl h) _ (fms_refl _)
  · have mm : ex_S yX12_crossing mX12_crossing (d + 2) [.ref 168, .int p, .int a0, .int a1, .int a2, .int a3] (cNo h (-nI 2)) 0 0 (fun r' h2 => r' = some (.int (-nI 2)) ∧ DONE h h2 W S len) := by
      have fin := D_no x (fcs_refl h) (-nI 2) (fms_refl _)
      refine X12_crossing_e (X12_crossing_0 ?_)
      simp only [o168 Kn, isPC Kn, isP_ qn h24, mArc, mArcC, noC Kn, noV, noH, forall_eq, Option.some.injEq, exists_eq_left', Option.getD_some, Value.int.injEq, Value.long.injEq, not_true_eq_false, not_false_eq_true, false_implies, true_implies, forall_const, implies_true, and_true, true_and, Classical.not_not, il_0, il_1, il_2, il_3, il_4, il_5, il_6, il_7, il_8, il_9, il_10, il_11, il_12, il_13, il_14, il_15, il_16, il_17, il_18, il_19, il_20, il_24, il_30, il_31, il_38, il_39, il_40, il_41, il_48, il_50, il_59, il_60, il_63, il_64, il_70, il_80, il_99, il_100, il_120, il_130, il_140, il_144, il_159, il_160, il_162, il_200, il_210, il_240, il_264, il_280, il_281, il_300, il_364, il_368, il_599, il_600, il_601, il_999, il_1610, il_1620, il_1800, il_4000, il_5000, il_7000, il_14500, il_58240, il_1000000]
      refine ⟨fun _ => fin, fun b1 => ⟨fun _ => fin, fun b2 => ⟨fun _ => fin, fun b3 => ⟨fun _ => fin, fun b4 => ⟨fun b5 => absurd ⟨b1, b2, b3, b4, b5⟩ hall, fun _ => fin⟩⟩⟩⟩⟩
    have cc_ : ex_S yX11_refuse mX11_refuse d [.ref 0, .int (-nI 2)] h 0 0 (fun r h4 => ∃ x5, r = some (.int x5) ∧ ex_S yX12_crossing mX12_crossing (d + 2) [.ref 168, .int p, .int a0, .int a1, .int a2, .int a3] h4 0 0 (fun r' h2 => r' = some (.int x5) ∧ DONE h h2 W S len)) := c_no K 2 (by decide) ⟨_, rfl, mm⟩
    simp only [o0 K, hasPC K, hasP hN h24, cArc, forall_eq, Option.some.injEq, exists_eq_left', Option.getD_some, Value.int.injEq, Value.long.injEq, not_true_eq_false, not_false_eq_true, false_implies, true_implies, forall_const, implies_true, and_true, true_and, Classical.not_not, il_0, il_1, il_2, il_3, il_4, il_5, il_6, il_7, il_8, il_9, il_10, il_11, il_12, il_13, il_14, il_15, il_16, il_17, il_18, il_19, il_20, il_24, il_30, il_31, il_38, il_39, il_40, il_41, il_48, il_50, il_59, il_60, il_63, il_64, il_70, il_80, il_99, il_100, il_120, il_130, il_140, il_144, il_159, il_160, il_162, il_200, il_210, il_240, il_264, il_280, il_281, il_300, il_364, il_368, il_599, il_600, il_601, il_999, il_1610, il_1620, il_1800, il_4000, il_5000, il_7000, il_14500, il_58240, il_1000000]
    exact ⟨fun _ => cc_, fun b1 => ⟨fun _ => cc_, fun b2 => ⟨fun _ => cc_, fun b3 => ⟨fun _ => cc_, fun b4 => ⟨fun b5 => absurd ⟨b1, b2, b3, b4, b5⟩ hall, fun _ => cc_⟩⟩⟩⟩⟩
end EASY
