/-! row. -/
/-- a length that a row may be given -/
def rl (v : Int32) : Prop := v = m1 ∨ ∃ k, k ≤ 4 ∧ v = nI k
theorem rl_c {v : Int32} : rl v ↔ -1 ≤ v.toInt ∧ v.toInt ≤ 4 := by
  constructor
  · rintro (h | ⟨k, hk, h⟩)
    · rw [h, m1_i]; omega
    · rw [h, nI_toInt (by omega)]; omega
  · rintro ⟨h1, h2⟩
    rcases ix_cases v (n := 5) (by decide) with q | q | ⟨j, hj, q⟩
    · left
      have e := Int32.lt_iff_toInt_lt.mp q.1
      have : (0 : Int32).toInt = 0 := by decide
      apply Int32.toInt_inj.mp
      rw [m1_i]
      omega
    · have e := Int32.le_iff_toInt_le.mp q.1
      rw [nI_toInt (by decide)] at e
      omega
    · exact Or.inr ⟨j, by omega, q⟩
theorem rl_le {v : Int32} (h : rl v) : v.toNatClampNeg ≤ 4 ∧ ∀ i, i < 2 ^ 31 → (v ≤ nI i ↔ v.toNatClampNeg ≤ i) := by
  rcases h with q | ⟨l, hl, q⟩
  · rw [q]
    have e : m1.toNatClampNeg = 0 := by decide
    rw [e]
    exact ⟨by omega, fun i hi => ⟨fun _ => Nat.zero_le i, fun _ => m1_le hi⟩⟩
  · rw [q, nI_clamp (by omega)]
    exact ⟨hl, fun i hi => nI_leI (by omega) hi⟩
section ROW
variable {h h' : AH} {d bc bs : Nat} {Q : Option Value → AH → Prop} {W : Nat → Nat} {N : Nat} {B : Nat → Nat} {S : Nat → Int32} {len : Nat}
theorem c_resize {b c : Nat} (P : pt h b) (hc : c < 40) {v : Int32} (hv : rl v) (k : ∀ h', fr [b + 1, b + 2] h h' → ah_i h' (b + 1) = u1 (ah_i h (b + 1)) c v → ah_i h' (b + 2) = flp (ah_i h (b + 2)) (4 * c + v.toNatClampNeg) (4 * c + 4) m1 → Q none h') : ex_S yX7_resize mX7_resize (d + 1) [.ref b, .int (nI c), .int v] h bc bs Q := by
  obtain ⟨v4, -⟩ := rl_le hv
  have hm : ∀ g : AH, J9_max_7cf53_V v (nI 0) g = nI v.toNatClampNeg := fun g => by
    unfold J9_max_7cf53_V
    rcases hv with q | ⟨l, hl, q⟩
    · rw [q]; rfl
    · rw [q, if_neg (nI_nlt (Nat.zero_le l) (by omega)), nI_clamp (by omega)]
  refine X7_resize_e (X7_resize_0 ?_)
  simp (disch := omega) only [pt_o P, pt_r0 P, pt_r1 P, pt_s0 P, pt_s1 P, pt_t0 P, pt_t1 P, hm, forall_eq, Option.some.injEq, exists_eq_left', Option.getD_some, Value.int.injEq, Value.long.injEq, n_sf, k_sf, f_sf_s, f_sf_n, r_sf, i_sf, l_sf, q_sf, ld0_sf, st0_sf, ld1_sf, ld2_sf, ld3_sf, ah_o_sf, in__sf, cp__sf, ah_x_sf, ah_ra_sf, n_si, k_si, f_si, r_si, i_si_s, i_si_n, l_si, q_si, ld0_si, st0_si, ld1_si, ld2_si, ld3_si, ah_o_si, in__si, cp__si, ah_x_si, ah_ra_si, n_sl, k_sl, f_sl, r_sl, i_sl, l_sl_s, l_sl_n, q_sl, ld0_sl, st0_sl, ld1_sl, ld2_sl, ld3_sl, ah_o_sl, in__sl, cp__sl, ah_x_sl, ah_ra_sl, n_wi, k_wi, f_wi, r_wi, i_wi_s, i_wi_n, l_wi, q_wi, ld0_wi, st0_wi, ld1_wi, ld2_wi, ld3_wi, ah_o_wi, in__wi, cp__wi, ah_x_wi, ah_ra_wi, n_wl, k_wl, f_wl, r_wl, i_wl, l_wl_s, l_wl_n, q_wl, ld0_wl, st0_wl, ld1_wl, ld2_wl, ld3_wl, ah_o_wl, in__wl, cp__wl, ah_x_wl, ah_ra_wl, n_sr, k_sr, f_sr, r_sr_s, r_sr_n, i_sr, l_sr, q_sr, n_sq, k_sq, f_sq, r_sq, i_sq, l_sq, q_sq_s, q_sq_n, il_0, il_1, il_2, il_3, il_4, il_5, il_6, il_7, il_8, il_9, il_10, il_11, il_12, il_13, il_14, il_15, il_16, il_17, il_18, il_19, il_20, il_24, il_30, il_31, il_38, il_39, il_40, il_41, il_48, il_50, il_59, il_60, il_63, il_64, il_70, il_80, il_99, il_100, il_120, il_130, il_140, il_144, il_159, il_160, il_162, il_200, il_210, il_240, il_264, il_280, il_281, il_300, il_364, il_368, il_599, il_600, il_601, il_999, il_1610, il_1620, il_1800, il_4000, il_5000, il_7000, il_14500, il_58240, il_1000000, m1_e, nI_1, nI_add, pk_mul, pk_div, pk_sub, nI_clamp, nI_leI, nI_ltI, nI_eq, m1_lt, m1_le, m1_gt, m1_ge, m1_ne, m1_en, ix_nI, im_nI, and1, and3, sh2_, shr2, corner_nI, turned_nI]
  refine ⟨trivial, by omega, ?_⟩
  have F0 : fr [b + 1, b + 2] h (ah_si h (b + 1) c v) := fr_si (fr_refl _ h) (by simp only [List.mem_cons, List.not_mem_nil, or_false, true_or, or_true, not_true_eq_false] <;> omega)
  have g1 : ah_i (ah_si h (b + 1) c v) (b + 1) = u1 (ah_i h (b + 1)) c v := i_si_s _ _ _ _
  have g2 : ah_i (ah_si h (b + 1) c v) (b + 2) = ah_i h (b + 2) := i_si_n _ _ _ _ _ (by omega)
  generalize ah_si h (b + 1) c v = ha at F0 g1 g2 ⊢
  refine lpf v.toNatClampNeg 4 (fun i h' => fr [b + 1, b + 2] h h' ∧ ah_i h' (b + 1) = u1 (ah_i h (b + 1)) c v ∧ ah_i h' (b + 2) = flp (ah_i h (b + 2)) (4 * c + v.toNatClampNeg) (4 * c + i) m1) (fun i h' => ex_G mX7_resize (d + 1) 13 [.ref b, .int (nI c), .retAddr 0, .int (nI i)] [] h' bc bs Q) v4 ⟨F0, g1, by rw [g2, flp_0]⟩ ?_ ?_
  · rintro i h1 hi hi4 ⟨F, e1, e2⟩ nx
    have P1 := pt_fr P F
    refine X7_resize_13 ?_
    simp (disch := omega) only [pt_o P1, pt_r0 P1, pt_r1 P1, pt_s0 P1, pt_s1 P1, pt_t0 P1, pt_t1 P1, forall_eq, Option.some.injEq, exists_eq_left', Option.getD_some, Value.int.injEq, Value.long.injEq, n_sf, k_sf, f_sf_s, f_sf_n, r_sf, i_sf, l_sf, q_sf, ld0_sf, st0_sf, ld1_sf, ld2_sf, ld3_sf, ah_o_sf, in__sf, cp__sf, ah_x_sf, ah_ra_sf, n_si, k_si, f_si, r_si, i_si_s, i_si_n, l_si, q_si, ld0_si, st0_si, ld1_si, ld2_si, ld3_si, ah_o_si, in__si, cp__si, ah_x_si, ah_ra_si, n_sl, k_sl, f_sl, r_sl, i_sl, l_sl_s, l_sl_n, q_sl, ld0_sl, st0_sl, ld1_sl, ld2_sl, ld3_sl, ah_o_sl, in__sl, cp__sl, ah_x_sl, ah_ra_sl, n_wi, k_wi, f_wi, r_wi, i_wi_s, i_wi_n, l_wi, q_wi, ld0_wi, st0_wi, ld1_wi, ld2_wi, ld3_wi, ah_o_wi, in__wi, cp__wi, ah_x_wi, ah_ra_wi, n_wl, k_wl, f_wl, r_wl, i_wl, l_wl_s, l_wl_n, q_wl, ld0_wl, st0_wl, ld1_wl, ld2_wl, ld3_wl, ah_o_wl, in__wl, cp__wl, ah_x_wl, ah_ra_wl, n_sr, k_sr, f_sr, r_sr_s, r_sr_n, i_sr, l_sr, q_sr, n_sq, k_sq, f_sq, r_sq, i_sq, l_sq, q_sq_s, q_sq_n, il_0, il_1, il_2, il_3, il_4, il_5, il_6, il_7, il_8, il_9, il_10, il_11, il_12, il_13, il_14, il_15, il_16, il_17, il_18, il_19, il_20, il_24, il_30, il_31, il_38, il_39, il_40, il_41, il_48, il_50, il_59, il_60, il_63, il_64, il_70, il_80, il_99, il_100, il_120, il_130, il_140, il_144, il_159, il_160, il_162, il_200, il_210, il_240, il_264, il_280, il_281, il_300, il_364, il_368, il_599, il_600, il_601, il_999, il_1610, il_1620, il_1800, il_4000, il_5000, il_7000, il_14500, il_58240, il_1000000, m1_e, nI_1, nI_add, pk_mul, pk_div, pk_sub, nI_clamp, nI_leI, nI_ltI, nI_eq, m1_lt, m1_le, m1_gt, m1_ge, m1_ne, m1_en, ix_nI, im_nI, and1, and3, sh2_, shr2, corner_nI, turned_nI]
    refine ⟨fun z => by omega, fun _ => ⟨trivial, by omega, nx _ ⟨fr_si F (by simp only [List.mem_cons, List.not_mem_nil, or_false, true_or, or_true, not_true_eq_false] <;> omega), ?_, ?_⟩⟩⟩
    · rw [i_si_n _ _ _ _ _ (by omega)]; exact e1
    · rw [i_si_s, e2]; exact flp_s _ _ (by omega)
  · rintro h1 ⟨F, e1, e2⟩
    have P1 := pt_fr P F
    refine X7_resize_13 ?_
    simp (disch := omega) only [pt_o P1, pt_r0 P1, pt_r1 P1, pt_s0 P1, pt_s1 P1, pt_t0 P1, pt_t1 P1, forall_eq, Option.some.injEq, exists_eq_left', Option.getD_some, Value.int.injEq, Value.long.injEq, n_sf, k_sf, f_sf_s, f_sf_n, r_sf, i_sf, l_sf, q_sf, ld0_sf, st0_sf, ld1_sf, ld2_sf, ld3_sf, ah_o_sf, in__sf, cp__sf, ah_x_sf, ah_ra_sf, n_si, k_si, f_si, r_si, i_si_s, i_si_n, l_si, q_si, ld0_si, st0_si, ld1_si, ld2_si, ld3_si, ah_o_si, in__si, cp__si, ah_x_si, ah_ra_si, n_sl, k_sl, f_sl, r_sl, i_sl, l_sl_s, l_sl_n, q_sl, ld0_sl, st0_sl, ld1_sl, ld2_sl, ld3_sl, ah_o_sl, in__sl, cp__sl, ah_x_sl, ah_ra_sl, n_wi, k_wi, f_wi, r_wi, i_wi_s, i_wi_n, l_wi, q_wi, ld0_wi, st0_wi, ld1_wi, ld2_wi, ld3_wi, ah_o_wi, in__wi, cp__wi, ah_x_wi, ah_ra_wi, n_wl, k_wl, f_wl, r_wl, i_wl, l_wl_s, l_wl_n, q_wl, ld0_wl, st0_wl, ld1_wl, ld2_wl, ld3_wl, ah_o_wl, in__wl, cp__wl, ah_x_wl, ah_ra_wl, n_sr, k_sr, f_sr, r_sr_s, r_sr_n, i_sr, l_sr, q_sr, n_sq, k_sq, f_sq, r_sq, i_sq, l_sq, q_sq_s, q_sq_n, il_0, il_1, il_2, il_3, il_4, il_5, il_6, il_7, il_8, il_9, il_10, il_11, il_12, il_13, il_14, il_15, il_16, il_17, il_18, il_19, il_20, il_24, il_30, il_31, il_38, il_39, il_40, il_41, il_48, il_50, il_59, il_60, il_63, il_64, il_70, il_80, il_99, il_100, il_120, il_130, il_140, il_144, il_159, il_160, il_162, il_200, il_210, il_240, il_264, il_280, il_281, il_300, il_364, il_368, il_599, il_600, il_601, il_999, il_1610, il_1620, il_1800, il_4000, il_5000, il_7000, il_14500, il_58240, il_1000000, m1_e, nI_1, nI_add, pk_mul, pk_div, pk_sub, nI_clamp, nI_leI, nI_ltI, nI_eq, m1_lt, m1_le, m1_gt, m1_ge, m1_ne, m1_en, ix_nI, im_nI, and1, and3, sh2_, shr2, corner_nI, turned_nI]
    exact ⟨fun _ => k h1 F e1 e2, fun z => (by first | omega | exact absurd trivial z | exact z.elim | exact absurd rfl z)⟩
/-- the reference's loop over the four ends -/
def rw4 (f : Nat → Int32) (at_ a b j : Nat) : Nat → Int32 := fun e => if at_ ≤ e ∧ e < at_ + j ∧ (a ≤ e - at_ ∨ b ≤ e - at_) then m1 else f e
theorem rw4_0 (f : Nat → Int32) (at_ a b : Nat) : rw4 f at_ a b 0 = f := by
  funext e
  exact if_neg (by omega)
theorem rw4_y {f : Nat → Int32} {at_ a b j : Nat} (h : a ≤ j ∨ b ≤ j) : u1 (rw4 f at_ a b j) (at_ + j) m1 = rw4 f at_ a b (j + 1) := by
  funext e
  unfold u1 rw4
  by_cases z : e = at_ + j
  · rw [if_pos z, if_pos (by omega)]
  · rw [if_neg z]
    by_cases q : at_ ≤ e ∧ e < at_ + j ∧ (a ≤ e - at_ ∨ b ≤ e - at_)
    · rw [if_pos q, if_pos (by omega)]
    · rw [if_neg q, if_neg (by omega)]
theorem rw4_n {f : Nat → Int32} {at_ a b j : Nat} (h : ¬ (a ≤ j ∨ b ≤ j)) : u1 (rw4 f at_ a b j) (at_ + j) (rw4 f at_ a b j (at_ + j)) = rw4 f at_ a b (j + 1) := by
  rw [u1_e]
  funext e
  unfold rw4
  by_cases q : at_ ≤ e ∧ e < at_ + j ∧ (a ≤ e - at_ ∨ b ≤ e - at_)
  · rw [if_pos q, if_pos (by omega)]
  · rw [if_neg q, if_neg (by
      intro w
      have : e = at_ + j := by omega
      subst this
      omega)]
theorem m_rowloop {p c : Nat} (K : sp h) (hp : p < 24) (hc : c < 40) {v u : Int32} (hv : rl v) (hu : rl u)
    (k : ∀ h', fr [173] h h' → ah_i h' 173 = rw4 (ah_i h 173) (160 * p + 4 * c) u.toNatClampNeg v.toNatClampNeg 4 → Q (some (.int (nI 1))) (mNo (ah_si (ah_si h' 172 (40 * p + c) v) 174 p (nI 0)) (nI 0))) : ex_G mX12_row (d + 2) 69 [.ref 168, .int (nI p), .int (nI c), .int v, .int u, .int (nI 0), .retAddr 0] [] h bc bs Q := by
  obtain ⟨v4, vl⟩ := rl_le hv
  obtain ⟨u4_, ul⟩ := rl_le hu
  refine lp 4 (fun j h' => fr [173] h h' ∧ ah_i h' 173 = rw4 (ah_i h 173) (160 * p + 4 * c) u.toNatClampNeg v.toNatClampNeg j) (fun j h' => ex_G mX12_row (d + 2) 69 [.ref 168, .int (nI p), .int (nI c), .int v, .int u, .int (nI j), .retAddr 0] [] h' bc bs Q) ⟨fr_refl _ _, (rw4_0 _ _ _ _).symm⟩ ?_ ?_
  · rintro j h1 hj ⟨F, e0⟩ nx
    have K1 := sp_fr K F
    have a1 := vl j (by omega)
    have a2 := ul j (by omega)
    refine X12_row_69 ?_
    simp (disch := omega) only [forall_eq, Option.some.injEq, exists_eq_left', Option.getD_some, Value.int.injEq, Value.long.injEq, n_sf, k_sf, f_sf_s, f_sf_n, r_sf, i_sf, l_sf, q_sf, ld0_sf, st0_sf, ld1_sf, ld2_sf, ld3_sf, ah_o_sf, in__sf, cp__sf, ah_x_sf, ah_ra_sf, n_si, k_si, f_si, r_si, i_si_s, i_si_n, l_si, q_si, ld0_si, st0_si, ld1_si, ld2_si, ld3_si, ah_o_si, in__si, cp__si, ah_x_si, ah_ra_si, n_sl, k_sl, f_sl, r_sl, i_sl, l_sl_s, l_sl_n, q_sl, ld0_sl, st0_sl, ld1_sl, ld2_sl, ld3_sl, ah_o_sl, in__sl, cp__sl, ah_x_sl, ah_ra_sl, n_wi, k_wi, f_wi, r_wi, i_wi_s, i_wi_n, l_wi, q_wi, ld0_wi, st0_wi, ld1_wi, ld2_wi, ld3_wi, ah_o_wi, in__wi, cp__wi, ah_x_wi, ah_ra_wi, n_wl, k_wl, f_wl, r_wl, i_wl, l_wl_s, l_wl_n, q_wl, ld0_wl, st0_wl, ld1_wl, ld2_wl, ld3_wl, ah_o_wl, in__wl, cp__wl, ah_x_wl, ah_ra_wl, n_sr, k_sr, f_sr, r_sr_s, r_sr_n, i_sr, l_sr, q_sr, n_sq, k_sq, f_sq, r_sq, i_sq, l_sq, q_sq_s, q_sq_n, o168 K1, r168_5 K1, s173 K1, t173 K1, a1, a2, il_0, il_1, il_2, il_3, il_4, il_5, il_6, il_7, il_8, il_9, il_10, il_11, il_12, il_13, il_14, il_15, il_16, il_17, il_18, il_19, il_20, il_24, il_30, il_31, il_38, il_39, il_40, il_41, il_48, il_50, il_59, il_60, il_63, il_64, il_70, il_80, il_99, il_100, il_120, il_130, il_140, il_144, il_159, il_160, il_162, il_200, il_210, il_240, il_264, il_280, il_281, il_300, il_364, il_368, il_599, il_600, il_601, il_999, il_1610, il_1620, il_1800, il_4000, il_5000, il_7000, il_14500, il_58240, il_1000000, m1_e, nI_1, nI_add, pk_mul, pk_div, pk_sub, nI_clamp, nI_leI, nI_ltI, nI_eq, m1_lt, m1_le, m1_gt, m1_ge, m1_ne, m1_en, ix_nI, im_nI, and1, and3, sh2_, shr2, corner_nI, turned_nI]
    refine ⟨fun z => by omega, fun _ => ⟨trivial, fun z => ⟨by omega, nx _ ⟨fr_si F (by decide), ?_⟩⟩, fun z => ⟨fun y => ⟨by omega, nx _ ⟨fr_si F (by decide), ?_⟩⟩, fun y => ⟨by omega, by omega, nx _ ⟨fr_si F (by decide), ?_⟩⟩⟩⟩⟩
    · rw [i_si_s, e0]; exact rw4_y (Or.inl z)
    · rw [i_si_s, e0]; exact rw4_y (Or.inr y)
    · rw [i_si_s, e0]; exact rw4_n (fun w => w.elim z y)
  · rintro h1 ⟨F, e0⟩
    have K1 := sp_fr K F
    refine X12_row_69 ?_
    simp (disch := omega) only [forall_eq, Option.some.injEq, exists_eq_left', Option.getD_some, Value.int.injEq, Value.long.injEq, n_sf, k_sf, f_sf_s, f_sf_n, r_sf, i_sf, l_sf, q_sf, ld0_sf, st0_sf, ld1_sf, ld2_sf, ld3_sf, ah_o_sf, in__sf, cp__sf, ah_x_sf, ah_ra_sf, n_si, k_si, f_si, r_si, i_si_s, i_si_n, l_si, q_si, ld0_si, st0_si, ld1_si, ld2_si, ld3_si, ah_o_si, in__si, cp__si, ah_x_si, ah_ra_si, n_sl, k_sl, f_sl, r_sl, i_sl, l_sl_s, l_sl_n, q_sl, ld0_sl, st0_sl, ld1_sl, ld2_sl, ld3_sl, ah_o_sl, in__sl, cp__sl, ah_x_sl, ah_ra_sl, n_wi, k_wi, f_wi, r_wi, i_wi_s, i_wi_n, l_wi, q_wi, ld0_wi, st0_wi, ld1_wi, ld2_wi, ld3_wi, ah_o_wi, in__wi, cp__wi, ah_x_wi, ah_ra_wi, n_wl, k_wl, f_wl, r_wl, i_wl, l_wl_s, l_wl_n, q_wl, ld0_wl, st0_wl, ld1_wl, ld2_wl, ld3_wl, ah_o_wl, in__wl, cp__wl, ah_x_wl, ah_ra_wl, n_sr, k_sr, f_sr, r_sr_s, r_sr_n, i_sr, l_sr, q_sr, n_sq, k_sq, f_sq, r_sq, i_sq, l_sq, q_sq_s, q_sq_n, o168 K1, r168_4 K1, s172 K1, t172 K1, r168_7 K1, s174 K1, t174 K1, weV, weH, il_0, il_1, il_2, il_3, il_4, il_5, il_6, il_7, il_8, il_9, il_10, il_11, il_12, il_13, il_14, il_15, il_16, il_17, il_18, il_19, il_20, il_24, il_30, il_31, il_38, il_39, il_40, il_41, il_48, il_50, il_59, il_60, il_63, il_64, il_70, il_80, il_99, il_100, il_120, il_130, il_140, il_144, il_159, il_160, il_162, il_200, il_210, il_240, il_264, il_280, il_281, il_300, il_364, il_368, il_599, il_600, il_601, il_999, il_1610, il_1620, il_1800, il_4000, il_5000, il_7000, il_14500, il_58240, il_1000000, m1_e, nI_1, nI_add, pk_mul, pk_div, pk_sub, nI_clamp, nI_leI, nI_ltI, nI_eq, m1_lt, m1_le, m1_gt, m1_ge, m1_ne, m1_en, ix_nI, im_nI, and1, and3, sh2_, shr2, corner_nI, turned_nI]
    exact ⟨fun _ => ⟨trivial, by omega, by omega, ⟨o168 K1, trivial⟩, k h1 F e0⟩, fun z => (by first | omega | exact absurd trivial z | exact z.elim | exact absurd rfl z)⟩
end ROW
