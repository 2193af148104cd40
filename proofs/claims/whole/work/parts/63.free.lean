/-! Drafts: turning rows, free arcs. -/
section ROT
variable {h : AH} {d bc bs : Nat} {Q : Option Value → AH → Prop} {A : Nat → Nat}
theorem u4_rot {f : Nat → Int32} {at_ c n k : Nat} (hf : ∀ x, x < 4 * n → f (at_ + x) = nI (A x)) (hc : c < n) {x : Nat} (hx : x < 4 * n) : u4 f (at_ + 4 * c) (f (at_ + 4 * c + (0 + k) % 4)) (f (at_ + 4 * c + (1 + k) % 4)) (f (at_ + 4 * c + (2 + k) % 4)) (f (at_ + 4 * c + (3 + k) % 4)) (at_ + x) = nI (rot c k A x) := by
  unfold rot
  by_cases q : x / 4 = c
  · rw [if_pos q, u4_c (by omega) (by omega)]
    rcases (show x = 4 * c ∨ x = 4 * c + 1 ∨ x = 4 * c + 2 ∨ x = 4 * c + 3 by omega) with e | e | e | e
    · rw [if_pos (by omega), Nat.add_assoc, hf _ (by omega), show (0 + k) % 4 = (x + k) % 4 by omega]
    · rw [if_neg (by omega), if_pos (by omega), Nat.add_assoc, hf _ (by omega), show (1 + k) % 4 = (x + k) % 4 by omega]
    · rw [if_neg (by omega), if_neg (by omega), if_pos (by omega), Nat.add_assoc, hf _ (by omega), show (2 + k) % 4 = (x + k) % 4 by omega]
    · rw [if_neg (by omega), if_neg (by omega), if_neg (by omega), Nat.add_assoc, hf _ (by omega), show (3 + k) % 4 = (x + k) % 4 by omega]
  · rw [if_neg q, u4_n (by omega), hf x hx]
theorem cn4 {c k : Nat} : cn (4 * c) k = 4 * c + k % 4 := by unfold cn; omega
theorem c_rotC {b c k : Nat} (P : pt h b) (hc : c < 40) (hk : k < 4) : X7_rotate_C b (nI c) (nI k) h := by
  have bx := P.1
  have e1 : ∀ g : AH, X11_corner_V (nI (4 * c)) (nI k) g = nI (4 * c + k % 4) := fun g => by rw [corner_nI (by omega) (by omega), cn4]
  have e2 : ∀ g : AH, X11_corner_V (nI (4 * c)) (nI (k + 1)) g = nI (4 * c + (k + 1) % 4) := fun g => by rw [corner_nI (by omega) (by omega), cn4]
  have e3 : ∀ g : AH, X11_corner_V (nI (4 * c)) (nI (k + 2)) g = nI (4 * c + (k + 2) % 4) := fun g => by rw [corner_nI (by omega) (by omega), cn4]
  have e4 : ∀ g : AH, X11_corner_V (nI (4 * c)) (nI (k + 3)) g = nI (4 * c + (k + 3) % 4) := fun g => by rw [corner_nI (by omega) (by omega), cn4]
  unfold X7_rotate_C
  simp (disch := omega) only [pt_o P, pt_r0 P, pt_r1 P, pt_s0 P, pt_s1 P, pt_t0 P, pt_t1 P, forall_eq, Option.some.injEq, exists_eq_left', Option.getD_some, n_sf, k_sf, f_sf_s, f_sf_n, r_sf, i_sf, l_sf, q_sf, ld0_sf, st0_sf, ld1_sf, ld2_sf, ld3_sf, ah_o_sf, in__sf, cp__sf, ah_x_sf, ah_ra_sf, n_si, k_si, f_si, r_si, i_si_s, i_si_n, l_si, q_si, ld0_si, st0_si, ld1_si, ld2_si, ld3_si, ah_o_si, in__si, cp__si, ah_x_si, ah_ra_si, n_sl, k_sl, f_sl, r_sl, i_sl, l_sl_s, l_sl_n, q_sl, ld0_sl, st0_sl, ld1_sl, ld2_sl, ld3_sl, ah_o_sl, in__sl, cp__sl, ah_x_sl, ah_ra_sl, n_wi, k_wi, f_wi, r_wi, i_wi_s, i_wi_n, l_wi, q_wi, ld0_wi, st0_wi, ld1_wi, ld2_wi, ld3_wi, ah_o_wi, in__wi, cp__wi, ah_x_wi, ah_ra_wi, n_wl, k_wl, f_wl, r_wl, i_wl, l_wl_s, l_wl_n, q_wl, ld0_wl, st0_wl, ld1_wl, ld2_wl, ld3_wl, ah_o_wl, in__wl, cp__wl, ah_x_wl, ah_ra_wl, n_sr, k_sr, f_sr, r_sr_s, r_sr_n, i_sr, l_sr, q_sr, n_sq, k_sq, f_sq, r_sq, i_sq, l_sq, q_sq_s, q_sq_n, il_0, il_1, il_2, il_3, il_4, il_5, il_6, il_7, il_8, il_9, il_10, il_11, il_12, il_13, il_14, il_15, il_16, il_17, il_18, il_19, il_20, il_24, il_30, il_31, il_38, il_39, il_40, il_41, il_48, il_50, il_59, il_60, il_63, il_64, il_70, il_80, il_99, il_100, il_120, il_130, il_140, il_144, il_159, il_160, il_162, il_200, il_210, il_240, il_264, il_280, il_281, il_300, il_364, il_368, il_599, il_600, il_601, il_999, il_1610, il_1620, il_1800, il_4000, il_5000, il_7000, il_14500, il_58240, il_1000000, pk_mul, nI_add, nI_1, e1, e2, e3, e4, ix_nI]
  refine ⟨trivial, ?_⟩
  simp only [and_true]
  omega
theorem c_rotH {b n l c k : Nat} (P : pt h b) (D : cD h b n l A) (hc : c < n) (h40 : n ≤ 40) (hk : k < 4) : fr [b, b + 1, b + 2] h (X7_rotate_H b (nI c) (nI k) h) ∧ cD (X7_rotate_H b (nI c) (nI k) h) b n l (rot c k A) := by
  obtain ⟨d0, d1, d2, d3⟩ := D
  have bx := P.1
  have m2 : b + 2 ∈ [b, b + 1, b + 2] := (by simp only [List.mem_cons, List.not_mem_nil, or_false, true_or, or_true, not_true_eq_false] <;> omega)
  have e1 : ∀ g : AH, X11_corner_V (nI (4 * c)) (nI k) g = nI (4 * c + (0 + k) % 4) := fun g => by rw [corner_nI (by omega) (by omega), cn4, Nat.zero_add]
  have e2 : ∀ g : AH, X11_corner_V (nI (4 * c)) (nI (k + 1)) g = nI (4 * c + (1 + k) % 4) := fun g => by rw [corner_nI (by omega) (by omega), cn4, Nat.add_comm k]
  have e3 : ∀ g : AH, X11_corner_V (nI (4 * c)) (nI (k + 2)) g = nI (4 * c + (2 + k) % 4) := fun g => by rw [corner_nI (by omega) (by omega), cn4, Nat.add_comm k]
  have e4 : ∀ g : AH, X11_corner_V (nI (4 * c)) (nI (k + 3)) g = nI (4 * c + (3 + k) % 4) := fun g => by rw [corner_nI (by omega) (by omega), cn4, Nat.add_comm k]
  have key : X7_rotate_H b (nI c) (nI k) h = ah_si (ah_si (ah_si (ah_si h (b + 2) (4 * c) (ah_i h (b + 2) (4 * c + (0 + k) % 4))) (b + 2) (4 * c + 1) (ah_i h (b + 2) (4 * c + (1 + k) % 4))) (b + 2) (4 * c + 2) (ah_i h (b + 2) (4 * c + (2 + k) % 4))) (b + 2) (4 * c + 3) (ah_i h (b + 2) (4 * c + (3 + k) % 4)) := by
    unfold X7_rotate_H
    simp (disch := omega) only [pt_r1 P, forall_eq, Option.some.injEq, exists_eq_left', Option.getD_some, il_0, il_1, il_2, il_3, il_4, il_5, il_6, il_7, il_8, il_9, il_10, il_11, il_12, il_13, il_14, il_15, il_16, il_17, il_18, il_19, il_20, il_24, il_30, il_31, il_38, il_39, il_40, il_41, il_48, il_50, il_59, il_60, il_63, il_64, il_70, il_80, il_99, il_100, il_120, il_130, il_140, il_144, il_159, il_160, il_162, il_200, il_210, il_240, il_264, il_280, il_281, il_300, il_364, il_368, il_599, il_600, il_601, il_999, il_1610, il_1620, il_1800, il_4000, il_5000, il_7000, il_14500, il_58240, il_1000000, pk_mul, nI_add, nI_1, e1, e2, e3, e4, nI_clamp]
  rw [key]
  refine ⟨fr_si (fr_si (fr_si (fr_si (fr_refl _ h) m2) m2) m2) m2, ?_, ?_, ?_, ?_⟩
  · simp (disch := omega) only [n_sf, k_sf, f_sf_s, f_sf_n, r_sf, i_sf, l_sf, q_sf, ld0_sf, st0_sf, ld1_sf, ld2_sf, ld3_sf, ah_o_sf, in__sf, cp__sf, ah_x_sf, ah_ra_sf, n_si, k_si, f_si, r_si, i_si_s, i_si_n, l_si, q_si, ld0_si, st0_si, ld1_si, ld2_si, ld3_si, ah_o_si, in__si, cp__si, ah_x_si, ah_ra_si, n_sl, k_sl, f_sl, r_sl, i_sl, l_sl_s, l_sl_n, q_sl, ld0_sl, st0_sl, ld1_sl, ld2_sl, ld3_sl, ah_o_sl, in__sl, cp__sl, ah_x_sl, ah_ra_sl, n_wi, k_wi, f_wi, r_wi, i_wi_s, i_wi_n, l_wi, q_wi, ld0_wi, st0_wi, ld1_wi, ld2_wi, ld3_wi, ah_o_wi, in__wi, cp__wi, ah_x_wi, ah_ra_wi, n_wl, k_wl, f_wl, r_wl, i_wl, l_wl_s, l_wl_n, q_wl, ld0_wl, st0_wl, ld1_wl, ld2_wl, ld3_wl, ah_o_wl, in__wl, cp__wl, ah_x_wl, ah_ra_wl, n_sr, k_sr, f_sr, r_sr_s, r_sr_n, i_sr, l_sr, q_sr, n_sq, k_sq, f_sq, r_sq, i_sq, l_sq, q_sq_s, q_sq_n]; exact d0
  · simp (disch := omega) only [n_sf, k_sf, f_sf_s, f_sf_n, r_sf, i_sf, l_sf, q_sf, ld0_sf, st0_sf, ld1_sf, ld2_sf, ld3_sf, ah_o_sf, in__sf, cp__sf, ah_x_sf, ah_ra_sf, n_si, k_si, f_si, r_si, i_si_s, i_si_n, l_si, q_si, ld0_si, st0_si, ld1_si, ld2_si, ld3_si, ah_o_si, in__si, cp__si, ah_x_si, ah_ra_si, n_sl, k_sl, f_sl, r_sl, i_sl, l_sl_s, l_sl_n, q_sl, ld0_sl, st0_sl, ld1_sl, ld2_sl, ld3_sl, ah_o_sl, in__sl, cp__sl, ah_x_sl, ah_ra_sl, n_wi, k_wi, f_wi, r_wi, i_wi_s, i_wi_n, l_wi, q_wi, ld0_wi, st0_wi, ld1_wi, ld2_wi, ld3_wi, ah_o_wi, in__wi, cp__wi, ah_x_wi, ah_ra_wi, n_wl, k_wl, f_wl, r_wl, i_wl, l_wl_s, l_wl_n, q_wl, ld0_wl, st0_wl, ld1_wl, ld2_wl, ld3_wl, ah_o_wl, in__wl, cp__wl, ah_x_wl, ah_ra_wl, n_sr, k_sr, f_sr, r_sr_s, r_sr_n, i_sr, l_sr, q_sr, n_sq, k_sq, f_sq, r_sq, i_sq, l_sq, q_sq_s, q_sq_n]; exact d1
  · simp (disch := omega) only [n_sf, k_sf, f_sf_s, f_sf_n, r_sf, i_sf, l_sf, q_sf, ld0_sf, st0_sf, ld1_sf, ld2_sf, ld3_sf, ah_o_sf, in__sf, cp__sf, ah_x_sf, ah_ra_sf, n_si, k_si, f_si, r_si, i_si_s, i_si_n, l_si, q_si, ld0_si, st0_si, ld1_si, ld2_si, ld3_si, ah_o_si, in__si, cp__si, ah_x_si, ah_ra_si, n_sl, k_sl, f_sl, r_sl, i_sl, l_sl_s, l_sl_n, q_sl, ld0_sl, st0_sl, ld1_sl, ld2_sl, ld3_sl, ah_o_sl, in__sl, cp__sl, ah_x_sl, ah_ra_sl, n_wi, k_wi, f_wi, r_wi, i_wi_s, i_wi_n, l_wi, q_wi, ld0_wi, st0_wi, ld1_wi, ld2_wi, ld3_wi, ah_o_wi, in__wi, cp__wi, ah_x_wi, ah_ra_wi, n_wl, k_wl, f_wl, r_wl, i_wl, l_wl_s, l_wl_n, q_wl, ld0_wl, st0_wl, ld1_wl, ld2_wl, ld3_wl, ah_o_wl, in__wl, cp__wl, ah_x_wl, ah_ra_wl, n_sr, k_sr, f_sr, r_sr_s, r_sr_n, i_sr, l_sr, q_sr, n_sq, k_sq, f_sq, r_sq, i_sq, l_sq, q_sq_s, q_sq_n]; exact d2
  · intro x hx
    have := u4_rot (f := ah_i h (b + 2)) (at_ := 0) (c := c) (n := n) (k := k) (A := A) (fun x hx => by rw [Nat.zero_add]; exact d3 x hx) hc hx
    simp only [Nat.zero_add] at this
    simp (disch := omega) only [n_sf, k_sf, f_sf_s, f_sf_n, r_sf, i_sf, l_sf, q_sf, ld0_sf, st0_sf, ld1_sf, ld2_sf, ld3_sf, ah_o_sf, in__sf, cp__sf, ah_x_sf, ah_ra_sf, n_si, k_si, f_si, r_si, i_si_s, i_si_n, l_si, q_si, ld0_si, st0_si, ld1_si, ld2_si, ld3_si, ah_o_si, in__si, cp__si, ah_x_si, ah_ra_si, n_sl, k_sl, f_sl, r_sl, i_sl, l_sl_s, l_sl_n, q_sl, ld0_sl, st0_sl, ld1_sl, ld2_sl, ld3_sl, ah_o_sl, in__sl, cp__sl, ah_x_sl, ah_ra_sl, n_wi, k_wi, f_wi, r_wi, i_wi_s, i_wi_n, l_wi, q_wi, ld0_wi, st0_wi, ld1_wi, ld2_wi, ld3_wi, ah_o_wi, in__wi, cp__wi, ah_x_wi, ah_ra_wi, n_wl, k_wl, f_wl, r_wl, i_wl, l_wl_s, l_wl_n, q_wl, ld0_wl, st0_wl, ld1_wl, ld2_wl, ld3_wl, ah_o_wl, in__wl, cp__wl, ah_x_wl, ah_ra_wl, n_sr, k_sr, f_sr, r_sr_s, r_sr_n, i_sr, l_sr, q_sr, n_sq, k_sq, f_sq, r_sq, i_sq, l_sq, q_sq_s, q_sq_n]
    simp only [Nat.zero_add]
    exact this
theorem inx1 {v : Int32} {n : Nat} (h0 : 0 < n) (hn : n < 2 ^ 31) (h : AH) : X12_in_V v.toInt64 0 (nI (n - 1)).toInt64 h = nI 0 ↔ ¬ ix v n := by
  have := inx (v := v) hn h
  rw [pk_sub h0] at this
  exact this
theorem m_rotateD {s n l c k : Nat} (K : sp h) (hs : s < 368) (D : mD h s n l A) (h40 : n ≤ 40) (hc : c < n) (hk : k < 4) (kk : ∀ h', fS s h h' → mD h' s n l (rot c k A) → Q (some (.int (nI 0))) h') : ex_S yX12_rotate mX12_rotate (d + 1) [.ref 168, .int (nI s), .int (nI c), .int (nI k)] h bc bs Q := by
  obtain ⟨d0, d1, d2, d3⟩ := D
  have ic : ix (nI c) n := (ix_nI (by omega)).mpr hc
  refine X12_rotate_e (X12_rotate_0 ?_)
  simp (disch := omega) only [o168 K, r168_2 K, s170 K, t170 K, d0, forall_eq, Option.some.injEq, exists_eq_left', Option.getD_some, n_sf, k_sf, f_sf_s, f_sf_n, r_sf, i_sf, l_sf, q_sf, ld0_sf, st0_sf, ld1_sf, ld2_sf, ld3_sf, ah_o_sf, in__sf, cp__sf, ah_x_sf, ah_ra_sf, n_si, k_si, f_si, r_si, i_si_s, i_si_n, l_si, q_si, ld0_si, st0_si, ld1_si, ld2_si, ld3_si, ah_o_si, in__si, cp__si, ah_x_si, ah_ra_si, n_sl, k_sl, f_sl, r_sl, i_sl, l_sl_s, l_sl_n, q_sl, ld0_sl, st0_sl, ld1_sl, ld2_sl, ld3_sl, ah_o_sl, in__sl, cp__sl, ah_x_sl, ah_ra_sl, n_wi, k_wi, f_wi, r_wi, i_wi_s, i_wi_n, l_wi, q_wi, ld0_wi, st0_wi, ld1_wi, ld2_wi, ld3_wi, ah_o_wi, in__wi, cp__wi, ah_x_wi, ah_ra_wi, n_wl, k_wl, f_wl, r_wl, i_wl, l_wl_s, l_wl_n, q_wl, ld0_wl, st0_wl, ld1_wl, ld2_wl, ld3_wl, ah_o_wl, in__wl, cp__wl, ah_x_wl, ah_ra_wl, n_sr, k_sr, f_sr, r_sr_s, r_sr_n, i_sr, l_sr, q_sr, n_sq, k_sq, f_sq, r_sq, i_sq, l_sq, q_sq_s, q_sq_n, not_true_eq_false, not_false_eq_true, false_implies, true_implies, forall_const, implies_true, and_true, true_and, Classical.not_not, il_0, il_1, il_2, il_3, il_4, il_5, il_6, il_7, il_8, il_9, il_10, il_11, il_12, il_13, il_14, il_15, il_16, il_17, il_18, il_19, il_20, il_24, il_30, il_31, il_38, il_39, il_40, il_41, il_48, il_50, il_59, il_60, il_63, il_64, il_70, il_80, il_99, il_100, il_120, il_130, il_140, il_144, il_159, il_160, il_162, il_200, il_210, il_240, il_264, il_280, il_281, il_300, il_364, il_368, il_599, il_600, il_601, il_999, il_1610, il_1620, il_1800, il_4000, il_5000, il_7000, il_14500, il_58240, il_1000000, m1_e, nI_1, nI_add, pk_mul, pk_div, pk_sub, nI_clamp, nI_leI, nI_ltI, nI_eq, m1_lt, m1_le, m1_gt, m1_ge, m1_ne, m1_en, ix_nI, im_nI, and1, and3, sh2_, shr2, corner_nI, turned_nI, inx1, ic]
  refine ⟨hs, ?_⟩
  refine lp 4 (fun j h' => fr [175] h h' ∧ ∀ i, i < j → ah_i h' 175 i = ah_i h 173 (160 * s + 4 * c + i)) (fun j h' => ex_G mX12_rotate (d + 1) 34 [.ref 168, .retAddr 0, .retAddr 0, .int (nI k), .int (nI (160 * s + 4 * c)), .int (nI j)] [] h' bc bs Q) ⟨fr_refl _ h, fun i hi => absurd hi (Nat.not_lt_zero i)⟩ ?_ ?_
  · rintro j h1 hj ⟨F, e0⟩ nx
    have K1 := sp_fr K F
    refine X12_rotate_34 ?_
    simp (disch := omega) only [o168 K1, r168_5 K1, s173 K1, t173 K1, r168_8 K1, s175 K1, t175 K1, forall_eq, Option.some.injEq, exists_eq_left', Option.getD_some, n_sf, k_sf, f_sf_s, f_sf_n, r_sf, i_sf, l_sf, q_sf, ld0_sf, st0_sf, ld1_sf, ld2_sf, ld3_sf, ah_o_sf, in__sf, cp__sf, ah_x_sf, ah_ra_sf, n_si, k_si, f_si, r_si, i_si_s, i_si_n, l_si, q_si, ld0_si, st0_si, ld1_si, ld2_si, ld3_si, ah_o_si, in__si, cp__si, ah_x_si, ah_ra_si, n_sl, k_sl, f_sl, r_sl, i_sl, l_sl_s, l_sl_n, q_sl, ld0_sl, st0_sl, ld1_sl, ld2_sl, ld3_sl, ah_o_sl, in__sl, cp__sl, ah_x_sl, ah_ra_sl, n_wi, k_wi, f_wi, r_wi, i_wi_s, i_wi_n, l_wi, q_wi, ld0_wi, st0_wi, ld1_wi, ld2_wi, ld3_wi, ah_o_wi, in__wi, cp__wi, ah_x_wi, ah_ra_wi, n_wl, k_wl, f_wl, r_wl, i_wl, l_wl_s, l_wl_n, q_wl, ld0_wl, st0_wl, ld1_wl, ld2_wl, ld3_wl, ah_o_wl, in__wl, cp__wl, ah_x_wl, ah_ra_wl, n_sr, k_sr, f_sr, r_sr_s, r_sr_n, i_sr, l_sr, q_sr, n_sq, k_sq, f_sq, r_sq, i_sq, l_sq, q_sq_s, q_sq_n, il_0, il_1, il_2, il_3, il_4, il_5, il_6, il_7, il_8, il_9, il_10, il_11, il_12, il_13, il_14, il_15, il_16, il_17, il_18, il_19, il_20, il_24, il_30, il_31, il_38, il_39, il_40, il_41, il_48, il_50, il_59, il_60, il_63, il_64, il_70, il_80, il_99, il_100, il_120, il_130, il_140, il_144, il_159, il_160, il_162, il_200, il_210, il_240, il_264, il_280, il_281, il_300, il_364, il_368, il_599, il_600, il_601, il_999, il_1610, il_1620, il_1800, il_4000, il_5000, il_7000, il_14500, il_58240, il_1000000, m1_e, nI_1, nI_add, pk_mul, pk_div, pk_sub, nI_clamp, nI_leI, nI_ltI, nI_eq, m1_lt, m1_le, m1_gt, m1_ge, m1_ne, m1_en, ix_nI, im_nI, and1, and3, sh2_, shr2, corner_nI, turned_nI]
    refine ⟨fun q => by omega, fun _ => ⟨trivial, by omega, by omega, nx _ ⟨fr_si F (by decide), fun i hi => ?_⟩⟩⟩
    rw [i_si_s, fr_i F 173 (by decide)]
    by_cases q : i = j
    · rw [q, u1_s]
    · rw [u1_n _ _ q]; exact e0 i (by omega)
  · rintro h1 ⟨F, e0⟩
    refine X12_rotate_34 ?_
    simp (disch := omega) only [forall_eq, Option.some.injEq, exists_eq_left', Option.getD_some, n_sf, k_sf, f_sf_s, f_sf_n, r_sf, i_sf, l_sf, q_sf, ld0_sf, st0_sf, ld1_sf, ld2_sf, ld3_sf, ah_o_sf, in__sf, cp__sf, ah_x_sf, ah_ra_sf, n_si, k_si, f_si, r_si, i_si_s, i_si_n, l_si, q_si, ld0_si, st0_si, ld1_si, ld2_si, ld3_si, ah_o_si, in__si, cp__si, ah_x_si, ah_ra_si, n_sl, k_sl, f_sl, r_sl, i_sl, l_sl_s, l_sl_n, q_sl, ld0_sl, st0_sl, ld1_sl, ld2_sl, ld3_sl, ah_o_sl, in__sl, cp__sl, ah_x_sl, ah_ra_sl, n_wi, k_wi, f_wi, r_wi, i_wi_s, i_wi_n, l_wi, q_wi, ld0_wi, st0_wi, ld1_wi, ld2_wi, ld3_wi, ah_o_wi, in__wi, cp__wi, ah_x_wi, ah_ra_wi, n_wl, k_wl, f_wl, r_wl, i_wl, l_wl_s, l_wl_n, q_wl, ld0_wl, st0_wl, ld1_wl, ld2_wl, ld3_wl, ah_o_wl, in__wl, cp__wl, ah_x_wl, ah_ra_wl, n_sr, k_sr, f_sr, r_sr_s, r_sr_n, i_sr, l_sr, q_sr, n_sq, k_sq, f_sq, r_sq, i_sq, l_sq, q_sq_s, q_sq_n, il_0, il_1, il_2, il_3, il_4, il_5, il_6, il_7, il_8, il_9, il_10, il_11, il_12, il_13, il_14, il_15, il_16, il_17, il_18, il_19, il_20, il_24, il_30, il_31, il_38, il_39, il_40, il_41, il_48, il_50, il_59, il_60, il_63, il_64, il_70, il_80, il_99, il_100, il_120, il_130, il_140, il_144, il_159, il_160, il_162, il_200, il_210, il_240, il_264, il_280, il_281, il_300, il_364, il_368, il_599, il_600, il_601, il_999, il_1610, il_1620, il_1800, il_4000, il_5000, il_7000, il_14500, il_58240, il_1000000, m1_e, nI_1, nI_add, pk_mul, pk_div, pk_sub, nI_clamp, nI_leI, nI_ltI, nI_eq, m1_lt, m1_le, m1_gt, m1_ge, m1_ne, m1_en, ix_nI, im_nI, and1, and3, sh2_, shr2, corner_nI, turned_nI]
    refine ⟨fun _ => ?_, fun q => (by first | omega | exact absurd trivial z | exact z.elim | exact absurd rfl z)⟩
    refine lp 4 (fun j h' => fr [173, 175] h h' ∧ ah_i h' 175 = ah_i h1 175 ∧ ∀ x, ah_i h' 173 x = if 160 * s + 4 * c ≤ x ∧ x < 160 * s + 4 * c + j then ah_i h 173 (160 * s + 4 * c + (x - (160 * s + 4 * c) + k) % 4) else ah_i h 173 x) (fun j h' => ex_G mX12_rotate (d + 1) 66 [.ref 168, .retAddr 0, .retAddr 0, .int (nI k), .int (nI (160 * s + 4 * c)), .int (nI j)] [] h' bc bs Q) ⟨fr_mono F (by decide), rfl, fun x => by rw [if_neg (by omega), fr_i F 173 (by decide)]⟩ ?_ ?_
    · rintro j h2 hj ⟨F2, g5, g3⟩ nx
      have K2 := sp_fr K F2
      have hm : (j + k) % 4 < 4 := by omega
      refine X12_rotate_66 ?_
      simp (disch := omega) only [o168 K2, r168_5 K2, s173 K2, t173 K2, r168_8 K2, s175 K2, t175 K2, forall_eq, Option.some.injEq, exists_eq_left', Option.getD_some, n_sf, k_sf, f_sf_s, f_sf_n, r_sf, i_sf, l_sf, q_sf, ld0_sf, st0_sf, ld1_sf, ld2_sf, ld3_sf, ah_o_sf, in__sf, cp__sf, ah_x_sf, ah_ra_sf, n_si, k_si, f_si, r_si, i_si_s, i_si_n, l_si, q_si, ld0_si, st0_si, ld1_si, ld2_si, ld3_si, ah_o_si, in__si, cp__si, ah_x_si, ah_ra_si, n_sl, k_sl, f_sl, r_sl, i_sl, l_sl_s, l_sl_n, q_sl, ld0_sl, st0_sl, ld1_sl, ld2_sl, ld3_sl, ah_o_sl, in__sl, cp__sl, ah_x_sl, ah_ra_sl, n_wi, k_wi, f_wi, r_wi, i_wi_s, i_wi_n, l_wi, q_wi, ld0_wi, st0_wi, ld1_wi, ld2_wi, ld3_wi, ah_o_wi, in__wi, cp__wi, ah_x_wi, ah_ra_wi, n_wl, k_wl, f_wl, r_wl, i_wl, l_wl_s, l_wl_n, q_wl, ld0_wl, st0_wl, ld1_wl, ld2_wl, ld3_wl, ah_o_wl, in__wl, cp__wl, ah_x_wl, ah_ra_wl, n_sr, k_sr, f_sr, r_sr_s, r_sr_n, i_sr, l_sr, q_sr, n_sq, k_sq, f_sq, r_sq, i_sq, l_sq, q_sq_s, q_sq_n, il_0, il_1, il_2, il_3, il_4, il_5, il_6, il_7, il_8, il_9, il_10, il_11, il_12, il_13, il_14, il_15, il_16, il_17, il_18, il_19, il_20, il_24, il_30, il_31, il_38, il_39, il_40, il_41, il_48, il_50, il_59, il_60, il_63, il_64, il_70, il_80, il_99, il_100, il_120, il_130, il_140, il_144, il_159, il_160, il_162, il_200, il_210, il_240, il_264, il_280, il_281, il_300, il_364, il_368, il_599, il_600, il_601, il_999, il_1610, il_1620, il_1800, il_4000, il_5000, il_7000, il_14500, il_58240, il_1000000, m1_e, nI_1, nI_add, pk_mul, pk_div, pk_sub, nI_clamp, nI_leI, nI_ltI, nI_eq, m1_lt, m1_le, m1_gt, m1_ge, m1_ne, m1_en, ix_nI, im_nI, and1, and3, sh2_, shr2, corner_nI, turned_nI]
      refine ⟨fun q => by omega, fun _ => ⟨trivial, by omega, by omega, nx _ ⟨fr_si F2 (by decide), ?_, fun x => ?_⟩⟩⟩
      · rw [i_si_n _ _ _ _ _ (by decide)]; exact g5
      · rw [i_si_s, g5, e0 _ hm]
        unfold u1
        by_cases q : x = 160 * s + 4 * c + j
        · rw [if_pos q, if_pos (by omega), show x - (160 * s + 4 * c) = j by omega]
        · rw [if_neg q, g3 x]
          by_cases w : 160 * s + 4 * c ≤ x ∧ x < 160 * s + 4 * c + j
          · rw [if_pos w, if_pos (by omega)]
          · rw [if_neg w, if_neg (by omega)]
    · rintro h2 ⟨F2, g5, g3⟩
      refine X12_rotate_66 ?_
      simp (disch := omega) only [forall_eq, Option.some.injEq, exists_eq_left', Option.getD_some, n_sf, k_sf, f_sf_s, f_sf_n, r_sf, i_sf, l_sf, q_sf, ld0_sf, st0_sf, ld1_sf, ld2_sf, ld3_sf, ah_o_sf, in__sf, cp__sf, ah_x_sf, ah_ra_sf, n_si, k_si, f_si, r_si, i_si_s, i_si_n, l_si, q_si, ld0_si, st0_si, ld1_si, ld2_si, ld3_si, ah_o_si, in__si, cp__si, ah_x_si, ah_ra_si, n_sl, k_sl, f_sl, r_sl, i_sl, l_sl_s, l_sl_n, q_sl, ld0_sl, st0_sl, ld1_sl, ld2_sl, ld3_sl, ah_o_sl, in__sl, cp__sl, ah_x_sl, ah_ra_sl, n_wi, k_wi, f_wi, r_wi, i_wi_s, i_wi_n, l_wi, q_wi, ld0_wi, st0_wi, ld1_wi, ld2_wi, ld3_wi, ah_o_wi, in__wi, cp__wi, ah_x_wi, ah_ra_wi, n_wl, k_wl, f_wl, r_wl, i_wl, l_wl_s, l_wl_n, q_wl, ld0_wl, st0_wl, ld1_wl, ld2_wl, ld3_wl, ah_o_wl, in__wl, cp__wl, ah_x_wl, ah_ra_wl, n_sr, k_sr, f_sr, r_sr_s, r_sr_n, i_sr, l_sr, q_sr, n_sq, k_sq, f_sq, r_sq, i_sq, l_sq, q_sq_s, q_sq_n, il_0, il_1, il_2, il_3, il_4, il_5, il_6, il_7, il_8, il_9, il_10, il_11, il_12, il_13, il_14, il_15, il_16, il_17, il_18, il_19, il_20, il_24, il_30, il_31, il_38, il_39, il_40, il_41, il_48, il_50, il_59, il_60, il_63, il_64, il_70, il_80, il_99, il_100, il_120, il_130, il_140, il_144, il_159, il_160, il_162, il_200, il_210, il_240, il_264, il_280, il_281, il_300, il_364, il_368, il_599, il_600, il_601, il_999, il_1610, il_1620, il_1800, il_4000, il_5000, il_7000, il_14500, il_58240, il_1000000, m1_e, nI_1, nI_add, pk_mul, pk_div, pk_sub, nI_clamp, nI_leI, nI_ltI, nI_eq, m1_lt, m1_le, m1_gt, m1_ge, m1_ne, m1_en, ix_nI, im_nI, and1, and3, sh2_, shr2, corner_nI, turned_nI]
      refine ⟨fun _ => kk h2 ⟨fr_mono F2 (by decide), fun t ht => ⟨by rw [fr_i F2 170 (by decide)], by rw [fr_i F2 171 (by decide)], fun _ _ => by rw [fr_i F2 172 (by decide)], fun x hx => by rw [g3, if_neg (by omega)]⟩⟩ ⟨?_, ?_, ?_, ?_⟩, fun q => (by first | omega | exact absurd trivial z | exact z.elim | exact absurd rfl z)⟩
      · rw [fr_i F2 170 (by decide)]; exact d0
      · rw [fr_i F2 171 (by decide)]; exact d1
      · rw [fr_i F2 172 (by decide)]; exact d2
      · intro x hx
        rw [g3]
        unfold rot
        by_cases q : x / 4 = c
        · rw [if_pos (by omega), if_pos q, show 160 * s + 4 * c + (160 * s + x - (160 * s + 4 * c) + k) % 4 = 160 * s + (4 * c + (x + k) % 4) by omega]
          exact d3 _ (by omega)
        · rw [if_neg (by omega), if_neg q]; exact d3 x hx
theorem m_rotate_no {s n : Nat} (K : sp h) (hs : s < 368) (hn : ah_i h 170 s = nI n) (h40 : n ≤ 40) {c : Int32} (hc : ¬ ix c n) (v : Int32) (kk : Q (some (.int (nI 5))) h) : ex_S yX12_rotate mX12_rotate (d + 1) [.ref 168, .int (nI s), .int c, .int v] h bc bs Q := by
  refine X12_rotate_e (X12_rotate_0 ?_)
  have hin := inx (v := c) (n := n) (by omega) h
  have h36 : s < 368 := hs
  simp (disch := omega) only [o168 K, r168_2 K, s170 K, t170 K, hn, forall_eq, Option.some.injEq, exists_eq_left', Option.getD_some, n_sf, k_sf, f_sf_s, f_sf_n, r_sf, i_sf, l_sf, q_sf, ld0_sf, st0_sf, ld1_sf, ld2_sf, ld3_sf, ah_o_sf, in__sf, cp__sf, ah_x_sf, ah_ra_sf, n_si, k_si, f_si, r_si, i_si_s, i_si_n, l_si, q_si, ld0_si, st0_si, ld1_si, ld2_si, ld3_si, ah_o_si, in__si, cp__si, ah_x_si, ah_ra_si, n_sl, k_sl, f_sl, r_sl, i_sl, l_sl_s, l_sl_n, q_sl, ld0_sl, st0_sl, ld1_sl, ld2_sl, ld3_sl, ah_o_sl, in__sl, cp__sl, ah_x_sl, ah_ra_sl, n_wi, k_wi, f_wi, r_wi, i_wi_s, i_wi_n, l_wi, q_wi, ld0_wi, st0_wi, ld1_wi, ld2_wi, ld3_wi, ah_o_wi, in__wi, cp__wi, ah_x_wi, ah_ra_wi, n_wl, k_wl, f_wl, r_wl, i_wl, l_wl_s, l_wl_n, q_wl, ld0_wl, st0_wl, ld1_wl, ld2_wl, ld3_wl, ah_o_wl, in__wl, cp__wl, ah_x_wl, ah_ra_wl, n_sr, k_sr, f_sr, r_sr_s, r_sr_n, i_sr, l_sr, q_sr, n_sq, k_sq, f_sq, r_sq, i_sq, l_sq, q_sq_s, q_sq_n, not_true_eq_false, not_false_eq_true, false_implies, true_implies, forall_const, implies_true, and_true, true_and, Classical.not_not, il_0, il_1, il_2, il_3, il_4, il_5, il_6, il_7, il_8, il_9, il_10, il_11, il_12, il_13, il_14, il_15, il_16, il_17, il_18, il_19, il_20, il_24, il_30, il_31, il_38, il_39, il_40, il_41, il_48, il_50, il_59, il_60, il_63, il_64, il_70, il_80, il_99, il_100, il_120, il_130, il_140, il_144, il_159, il_160, il_162, il_200, il_210, il_240, il_264, il_280, il_281, il_300, il_364, il_368, il_599, il_600, il_601, il_999, il_1610, il_1620, il_1800, il_4000, il_5000, il_7000, il_14500, il_58240, il_1000000, nI_clamp, ix_nI, hin, hc, h36]
  exact kk
/-! rows turned over -/
theorem tov_u {f : Nat → Int32} {at_ n c : Nat} (hf : ∀ x, x < 4 * n → f (at_ + x) = nI (A x)) (hc : c < n) {x : Nat} (hx : x < 4 * n) : u1 (u1 (u1 (u1 f (at_ + 4 * c) (f (at_ + 4 * c + 1))) (at_ + 4 * c + 1) (f (at_ + 4 * c))) (at_ + 4 * c + 2) (f (at_ + 4 * c + 3))) (at_ + 4 * c + 3) (f (at_ + 4 * c + 2)) (at_ + x) = nI (tov c A x) := by
  have q0 := hf (4 * c) (by omega)
  have q1 := hf (4 * c + 1) (by omega)
  have q2 := hf (4 * c + 2) (by omega)
  have q3 := hf (4 * c + 3) (by omega)
  simp only [← Nat.add_assoc] at q0 q1 q2 q3
  unfold tov
  by_cases q : x / 4 = c
  · rw [if_pos q]
    rcases (show x = 4 * c ∨ x = 4 * c + 1 ∨ x = 4 * c + 2 ∨ x = 4 * c + 3 by omega) with e | e | e | e
    · rw [e, if_pos (by omega), u1_n _ _ (by omega), u1_n _ _ (by omega), u1_n _ _ (by omega), u1_s, q1]
    · rw [e, if_neg (by omega), ← Nat.add_assoc, u1_n _ _ (by omega), u1_n _ _ (by omega), u1_s, q0]; rfl
    · rw [e, if_pos (by omega), ← Nat.add_assoc, u1_n _ _ (by omega), u1_s, q3]
    · rw [e, if_neg (by omega), ← Nat.add_assoc, u1_s, q2]; rfl
  · rw [if_neg q, u1_n _ _ (by omega), u1_n _ _ (by omega), u1_n _ _ (by omega), u1_n _ _ (by omega)]
    exact hf x hx
theorem c_flipC {b c : Nat} (P : pt h b) (hc : c < 40) : X7_flip_C b (nI c) h := by
  have bx := P.1
  unfold X7_flip_C X7_swap_C X7_swap_H
  simp (disch := omega) only [pt_o P, pt_r0 P, pt_r1 P, pt_s0 P, pt_s1 P, pt_t0 P, pt_t1 P, forall_eq, Option.some.injEq, exists_eq_left', Option.getD_some, n_sf, k_sf, f_sf_s, f_sf_n, r_sf, i_sf, l_sf, q_sf, ld0_sf, st0_sf, ld1_sf, ld2_sf, ld3_sf, ah_o_sf, in__sf, cp__sf, ah_x_sf, ah_ra_sf, n_si, k_si, f_si, r_si, i_si_s, i_si_n, l_si, q_si, ld0_si, st0_si, ld1_si, ld2_si, ld3_si, ah_o_si, in__si, cp__si, ah_x_si, ah_ra_si, n_sl, k_sl, f_sl, r_sl, i_sl, l_sl_s, l_sl_n, q_sl, ld0_sl, st0_sl, ld1_sl, ld2_sl, ld3_sl, ah_o_sl, in__sl, cp__sl, ah_x_sl, ah_ra_sl, n_wi, k_wi, f_wi, r_wi, i_wi_s, i_wi_n, l_wi, q_wi, ld0_wi, st0_wi, ld1_wi, ld2_wi, ld3_wi, ah_o_wi, in__wi, cp__wi, ah_x_wi, ah_ra_wi, n_wl, k_wl, f_wl, r_wl, i_wl, l_wl_s, l_wl_n, q_wl, ld0_wl, st0_wl, ld1_wl, ld2_wl, ld3_wl, ah_o_wl, in__wl, cp__wl, ah_x_wl, ah_ra_wl, n_sr, k_sr, f_sr, r_sr_s, r_sr_n, i_sr, l_sr, q_sr, n_sq, k_sq, f_sq, r_sq, i_sq, l_sq, q_sq_s, q_sq_n, il_0, il_1, il_2, il_3, il_4, il_5, il_6, il_7, il_8, il_9, il_10, il_11, il_12, il_13, il_14, il_15, il_16, il_17, il_18, il_19, il_20, il_24, il_30, il_31, il_38, il_39, il_40, il_41, il_48, il_50, il_59, il_60, il_63, il_64, il_70, il_80, il_99, il_100, il_120, il_130, il_140, il_144, il_159, il_160, il_162, il_200, il_210, il_240, il_264, il_280, il_281, il_300, il_364, il_368, il_599, il_600, il_601, il_999, il_1610, il_1620, il_1800, il_4000, il_5000, il_7000, il_14500, il_58240, il_1000000, pk_mul, nI_add, nI_1, ix_nI]
  refine ⟨trivial, ?_⟩
  simp only [and_true, true_and]
  omega
theorem c_flipH {b n l c : Nat} (P : pt h b) (D : cD h b n l A) (hc : c < n) (h40 : n ≤ 40) : fr [b, b + 1, b + 2] h (X7_flip_H b (nI c) h) ∧ cD (X7_flip_H b (nI c) h) b n l (tov c A) := by
  obtain ⟨d0, d1, d2, d3⟩ := D
  have bx := P.1
  have m2 : b + 2 ∈ [b, b + 1, b + 2] := (by simp only [List.mem_cons, List.not_mem_nil, or_false, true_or, or_true, not_true_eq_false] <;> omega)
  have key : X7_flip_H b (nI c) h = ah_si (ah_si (ah_si (ah_si h (b + 2) (4 * c) (ah_i h (b + 2) (4 * c + 1))) (b + 2) (4 * c + 1) (ah_i h (b + 2) (4 * c))) (b + 2) (4 * c + 2) (ah_i h (b + 2) (4 * c + 3))) (b + 2) (4 * c + 3) (ah_i h (b + 2) (4 * c + 2)) := by
    unfold X7_flip_H X7_swap_H
    simp (disch := omega) only [pt_r1 P, forall_eq, Option.some.injEq, exists_eq_left', Option.getD_some, n_sf, k_sf, f_sf_s, f_sf_n, r_sf, i_sf, l_sf, q_sf, ld0_sf, st0_sf, ld1_sf, ld2_sf, ld3_sf, ah_o_sf, in__sf, cp__sf, ah_x_sf, ah_ra_sf, n_si, k_si, f_si, r_si, i_si_s, i_si_n, l_si, q_si, ld0_si, st0_si, ld1_si, ld2_si, ld3_si, ah_o_si, in__si, cp__si, ah_x_si, ah_ra_si, n_sl, k_sl, f_sl, r_sl, i_sl, l_sl_s, l_sl_n, q_sl, ld0_sl, st0_sl, ld1_sl, ld2_sl, ld3_sl, ah_o_sl, in__sl, cp__sl, ah_x_sl, ah_ra_sl, n_wi, k_wi, f_wi, r_wi, i_wi_s, i_wi_n, l_wi, q_wi, ld0_wi, st0_wi, ld1_wi, ld2_wi, ld3_wi, ah_o_wi, in__wi, cp__wi, ah_x_wi, ah_ra_wi, n_wl, k_wl, f_wl, r_wl, i_wl, l_wl_s, l_wl_n, q_wl, ld0_wl, st0_wl, ld1_wl, ld2_wl, ld3_wl, ah_o_wl, in__wl, cp__wl, ah_x_wl, ah_ra_wl, n_sr, k_sr, f_sr, r_sr_s, r_sr_n, i_sr, l_sr, q_sr, n_sq, k_sq, f_sq, r_sq, i_sq, l_sq, q_sq_s, q_sq_n, il_0, il_1, il_2, il_3, il_4, il_5, il_6, il_7, il_8, il_9, il_10, il_11, il_12, il_13, il_14, il_15, il_16, il_17, il_18, il_19, il_20, il_24, il_30, il_31, il_38, il_39, il_40, il_41, il_48, il_50, il_59, il_60, il_63, il_64, il_70, il_80, il_99, il_100, il_120, il_130, il_140, il_144, il_159, il_160, il_162, il_200, il_210, il_240, il_264, il_280, il_281, il_300, il_364, il_368, il_599, il_600, il_601, il_999, il_1610, il_1620, il_1800, il_4000, il_5000, il_7000, il_14500, il_58240, il_1000000, pk_mul, nI_add, nI_1, nI_clamp, u1_n]
  rw [key]
  refine ⟨fr_si (fr_si (fr_si (fr_si (fr_refl _ h) m2) m2) m2) m2, ?_, ?_, ?_, ?_⟩
  · simp (disch := omega) only [n_sf, k_sf, f_sf_s, f_sf_n, r_sf, i_sf, l_sf, q_sf, ld0_sf, st0_sf, ld1_sf, ld2_sf, ld3_sf, ah_o_sf, in__sf, cp__sf, ah_x_sf, ah_ra_sf, n_si, k_si, f_si, r_si, i_si_s, i_si_n, l_si, q_si, ld0_si, st0_si, ld1_si, ld2_si, ld3_si, ah_o_si, in__si, cp__si, ah_x_si, ah_ra_si, n_sl, k_sl, f_sl, r_sl, i_sl, l_sl_s, l_sl_n, q_sl, ld0_sl, st0_sl, ld1_sl, ld2_sl, ld3_sl, ah_o_sl, in__sl, cp__sl, ah_x_sl, ah_ra_sl, n_wi, k_wi, f_wi, r_wi, i_wi_s, i_wi_n, l_wi, q_wi, ld0_wi, st0_wi, ld1_wi, ld2_wi, ld3_wi, ah_o_wi, in__wi, cp__wi, ah_x_wi, ah_ra_wi, n_wl, k_wl, f_wl, r_wl, i_wl, l_wl_s, l_wl_n, q_wl, ld0_wl, st0_wl, ld1_wl, ld2_wl, ld3_wl, ah_o_wl, in__wl, cp__wl, ah_x_wl, ah_ra_wl, n_sr, k_sr, f_sr, r_sr_s, r_sr_n, i_sr, l_sr, q_sr, n_sq, k_sq, f_sq, r_sq, i_sq, l_sq, q_sq_s, q_sq_n]; exact d0
  · simp (disch := omega) only [n_sf, k_sf, f_sf_s, f_sf_n, r_sf, i_sf, l_sf, q_sf, ld0_sf, st0_sf, ld1_sf, ld2_sf, ld3_sf, ah_o_sf, in__sf, cp__sf, ah_x_sf, ah_ra_sf, n_si, k_si, f_si, r_si, i_si_s, i_si_n, l_si, q_si, ld0_si, st0_si, ld1_si, ld2_si, ld3_si, ah_o_si, in__si, cp__si, ah_x_si, ah_ra_si, n_sl, k_sl, f_sl, r_sl, i_sl, l_sl_s, l_sl_n, q_sl, ld0_sl, st0_sl, ld1_sl, ld2_sl, ld3_sl, ah_o_sl, in__sl, cp__sl, ah_x_sl, ah_ra_sl, n_wi, k_wi, f_wi, r_wi, i_wi_s, i_wi_n, l_wi, q_wi, ld0_wi, st0_wi, ld1_wi, ld2_wi, ld3_wi, ah_o_wi, in__wi, cp__wi, ah_x_wi, ah_ra_wi, n_wl, k_wl, f_wl, r_wl, i_wl, l_wl_s, l_wl_n, q_wl, ld0_wl, st0_wl, ld1_wl, ld2_wl, ld3_wl, ah_o_wl, in__wl, cp__wl, ah_x_wl, ah_ra_wl, n_sr, k_sr, f_sr, r_sr_s, r_sr_n, i_sr, l_sr, q_sr, n_sq, k_sq, f_sq, r_sq, i_sq, l_sq, q_sq_s, q_sq_n]; exact d1
  · simp (disch := omega) only [n_sf, k_sf, f_sf_s, f_sf_n, r_sf, i_sf, l_sf, q_sf, ld0_sf, st0_sf, ld1_sf, ld2_sf, ld3_sf, ah_o_sf, in__sf, cp__sf, ah_x_sf, ah_ra_sf, n_si, k_si, f_si, r_si, i_si_s, i_si_n, l_si, q_si, ld0_si, st0_si, ld1_si, ld2_si, ld3_si, ah_o_si, in__si, cp__si, ah_x_si, ah_ra_si, n_sl, k_sl, f_sl, r_sl, i_sl, l_sl_s, l_sl_n, q_sl, ld0_sl, st0_sl, ld1_sl, ld2_sl, ld3_sl, ah_o_sl, in__sl, cp__sl, ah_x_sl, ah_ra_sl, n_wi, k_wi, f_wi, r_wi, i_wi_s, i_wi_n, l_wi, q_wi, ld0_wi, st0_wi, ld1_wi, ld2_wi, ld3_wi, ah_o_wi, in__wi, cp__wi, ah_x_wi, ah_ra_wi, n_wl, k_wl, f_wl, r_wl, i_wl, l_wl_s, l_wl_n, q_wl, ld0_wl, st0_wl, ld1_wl, ld2_wl, ld3_wl, ah_o_wl, in__wl, cp__wl, ah_x_wl, ah_ra_wl, n_sr, k_sr, f_sr, r_sr_s, r_sr_n, i_sr, l_sr, q_sr, n_sq, k_sq, f_sq, r_sq, i_sq, l_sq, q_sq_s, q_sq_n]; exact d2
  · intro x hx
    have := tov_u (f := ah_i h (b + 2)) (at_ := 0) (c := c) (n := n) (A := A) (fun x hx => by rw [Nat.zero_add]; exact d3 x hx) hc hx
    simp only [Nat.zero_add] at this
    simp (disch := omega) only [n_sf, k_sf, f_sf_s, f_sf_n, r_sf, i_sf, l_sf, q_sf, ld0_sf, st0_sf, ld1_sf, ld2_sf, ld3_sf, ah_o_sf, in__sf, cp__sf, ah_x_sf, ah_ra_sf, n_si, k_si, f_si, r_si, i_si_s, i_si_n, l_si, q_si, ld0_si, st0_si, ld1_si, ld2_si, ld3_si, ah_o_si, in__si, cp__si, ah_x_si, ah_ra_si, n_sl, k_sl, f_sl, r_sl, i_sl, l_sl_s, l_sl_n, q_sl, ld0_sl, st0_sl, ld1_sl, ld2_sl, ld3_sl, ah_o_sl, in__sl, cp__sl, ah_x_sl, ah_ra_sl, n_wi, k_wi, f_wi, r_wi, i_wi_s, i_wi_n, l_wi, q_wi, ld0_wi, st0_wi, ld1_wi, ld2_wi, ld3_wi, ah_o_wi, in__wi, cp__wi, ah_x_wi, ah_ra_wi, n_wl, k_wl, f_wl, r_wl, i_wl, l_wl_s, l_wl_n, q_wl, ld0_wl, st0_wl, ld1_wl, ld2_wl, ld3_wl, ah_o_wl, in__wl, cp__wl, ah_x_wl, ah_ra_wl, n_sr, k_sr, f_sr, r_sr_s, r_sr_n, i_sr, l_sr, q_sr, n_sq, k_sq, f_sq, r_sq, i_sq, l_sq, q_sq_s, q_sq_n]
    exact this
theorem m_turnOverD {s n l c : Nat} (K : sp h) (hs : s < 368) (D : mD h s n l A) (h40 : n ≤ 40) (hc : c < n) (k : ∀ h', fS s h h' → mD h' s n l (tov c A) → Q none h') : ex_S yX12_turnOver mX12_turnOver d [.ref 168, .int (nI s), .int (nI c)] h bc bs Q := by
  obtain ⟨d0, d1, d2, d3⟩ := D
  refine X12_turnOver_e (X12_turnOver_0 ?_)
  simp (disch := omega) only [o168 K, r168_5 K, s173 K, t173 K, forall_eq, Option.some.injEq, exists_eq_left', Option.getD_some, n_sf, k_sf, f_sf_s, f_sf_n, r_sf, i_sf, l_sf, q_sf, ld0_sf, st0_sf, ld1_sf, ld2_sf, ld3_sf, ah_o_sf, in__sf, cp__sf, ah_x_sf, ah_ra_sf, n_si, k_si, f_si, r_si, i_si_s, i_si_n, l_si, q_si, ld0_si, st0_si, ld1_si, ld2_si, ld3_si, ah_o_si, in__si, cp__si, ah_x_si, ah_ra_si, n_sl, k_sl, f_sl, r_sl, i_sl, l_sl_s, l_sl_n, q_sl, ld0_sl, st0_sl, ld1_sl, ld2_sl, ld3_sl, ah_o_sl, in__sl, cp__sl, ah_x_sl, ah_ra_sl, n_wi, k_wi, f_wi, r_wi, i_wi_s, i_wi_n, l_wi, q_wi, ld0_wi, st0_wi, ld1_wi, ld2_wi, ld3_wi, ah_o_wi, in__wi, cp__wi, ah_x_wi, ah_ra_wi, n_wl, k_wl, f_wl, r_wl, i_wl, l_wl_s, l_wl_n, q_wl, ld0_wl, st0_wl, ld1_wl, ld2_wl, ld3_wl, ah_o_wl, in__wl, cp__wl, ah_x_wl, ah_ra_wl, n_sr, k_sr, f_sr, r_sr_s, r_sr_n, i_sr, l_sr, q_sr, n_sq, k_sq, f_sq, r_sq, i_sq, l_sq, q_sq_s, q_sq_n, il_0, il_1, il_2, il_3, il_4, il_5, il_6, il_7, il_8, il_9, il_10, il_11, il_12, il_13, il_14, il_15, il_16, il_17, il_18, il_19, il_20, il_24, il_30, il_31, il_38, il_39, il_40, il_41, il_48, il_50, il_59, il_60, il_63, il_64, il_70, il_80, il_99, il_100, il_120, il_130, il_140, il_144, il_159, il_160, il_162, il_200, il_210, il_240, il_264, il_280, il_281, il_300, il_364, il_368, il_599, il_600, il_601, il_999, il_1610, il_1620, il_1800, il_4000, il_5000, il_7000, il_14500, il_58240, il_1000000, m1_e, nI_1, nI_add, pk_mul, pk_div, pk_sub, nI_clamp, nI_leI, nI_ltI, nI_eq, m1_lt, m1_le, m1_gt, m1_ge, m1_ne, m1_en, ix_nI, im_nI, and1, and3, sh2_, shr2, corner_nI, turned_nI, u1_n]
  refine ⟨trivial, by omega, by omega, by omega, by omega, by omega, by omega, by omega, by omega, ?_⟩
  refine k _ ⟨fr_si (fr_si (fr_si (fr_si (fr_refl _ h) (by decide)) (by decide)) (by decide)) (by decide), fun t ht => sl_trans (sl_trans (sl_trans (sl_173 ht (by omega) (by omega)) (sl_173 ht (by omega) (by omega))) (sl_173 ht (by omega) (by omega))) (sl_173 ht (by omega) (by omega))⟩ ⟨?_, ?_, ?_, ?_⟩
  · simp (disch := omega) only [n_sf, k_sf, f_sf_s, f_sf_n, r_sf, i_sf, l_sf, q_sf, ld0_sf, st0_sf, ld1_sf, ld2_sf, ld3_sf, ah_o_sf, in__sf, cp__sf, ah_x_sf, ah_ra_sf, n_si, k_si, f_si, r_si, i_si_s, i_si_n, l_si, q_si, ld0_si, st0_si, ld1_si, ld2_si, ld3_si, ah_o_si, in__si, cp__si, ah_x_si, ah_ra_si, n_sl, k_sl, f_sl, r_sl, i_sl, l_sl_s, l_sl_n, q_sl, ld0_sl, st0_sl, ld1_sl, ld2_sl, ld3_sl, ah_o_sl, in__sl, cp__sl, ah_x_sl, ah_ra_sl, n_wi, k_wi, f_wi, r_wi, i_wi_s, i_wi_n, l_wi, q_wi, ld0_wi, st0_wi, ld1_wi, ld2_wi, ld3_wi, ah_o_wi, in__wi, cp__wi, ah_x_wi, ah_ra_wi, n_wl, k_wl, f_wl, r_wl, i_wl, l_wl_s, l_wl_n, q_wl, ld0_wl, st0_wl, ld1_wl, ld2_wl, ld3_wl, ah_o_wl, in__wl, cp__wl, ah_x_wl, ah_ra_wl, n_sr, k_sr, f_sr, r_sr_s, r_sr_n, i_sr, l_sr, q_sr, n_sq, k_sq, f_sq, r_sq, i_sq, l_sq, q_sq_s, q_sq_n]; exact d0
  · simp (disch := omega) only [n_sf, k_sf, f_sf_s, f_sf_n, r_sf, i_sf, l_sf, q_sf, ld0_sf, st0_sf, ld1_sf, ld2_sf, ld3_sf, ah_o_sf, in__sf, cp__sf, ah_x_sf, ah_ra_sf, n_si, k_si, f_si, r_si, i_si_s, i_si_n, l_si, q_si, ld0_si, st0_si, ld1_si, ld2_si, ld3_si, ah_o_si, in__si, cp__si, ah_x_si, ah_ra_si, n_sl, k_sl, f_sl, r_sl, i_sl, l_sl_s, l_sl_n, q_sl, ld0_sl, st0_sl, ld1_sl, ld2_sl, ld3_sl, ah_o_sl, in__sl, cp__sl, ah_x_sl, ah_ra_sl, n_wi, k_wi, f_wi, r_wi, i_wi_s, i_wi_n, l_wi, q_wi, ld0_wi, st0_wi, ld1_wi, ld2_wi, ld3_wi, ah_o_wi, in__wi, cp__wi, ah_x_wi, ah_ra_wi, n_wl, k_wl, f_wl, r_wl, i_wl, l_wl_s, l_wl_n, q_wl, ld0_wl, st0_wl, ld1_wl, ld2_wl, ld3_wl, ah_o_wl, in__wl, cp__wl, ah_x_wl, ah_ra_wl, n_sr, k_sr, f_sr, r_sr_s, r_sr_n, i_sr, l_sr, q_sr, n_sq, k_sq, f_sq, r_sq, i_sq, l_sq, q_sq_s, q_sq_n]; exact d1
  · simp (disch := omega) only [n_sf, k_sf, f_sf_s, f_sf_n, r_sf, i_sf, l_sf, q_sf, ld0_sf, st0_sf, ld1_sf, ld2_sf, ld3_sf, ah_o_sf, in__sf, cp__sf, ah_x_sf, ah_ra_sf, n_si, k_si, f_si, r_si, i_si_s, i_si_n, l_si, q_si, ld0_si, st0_si, ld1_si, ld2_si, ld3_si, ah_o_si, in__si, cp__si, ah_x_si, ah_ra_si, n_sl, k_sl, f_sl, r_sl, i_sl, l_sl_s, l_sl_n, q_sl, ld0_sl, st0_sl, ld1_sl, ld2_sl, ld3_sl, ah_o_sl, in__sl, cp__sl, ah_x_sl, ah_ra_sl, n_wi, k_wi, f_wi, r_wi, i_wi_s, i_wi_n, l_wi, q_wi, ld0_wi, st0_wi, ld1_wi, ld2_wi, ld3_wi, ah_o_wi, in__wi, cp__wi, ah_x_wi, ah_ra_wi, n_wl, k_wl, f_wl, r_wl, i_wl, l_wl_s, l_wl_n, q_wl, ld0_wl, st0_wl, ld1_wl, ld2_wl, ld3_wl, ah_o_wl, in__wl, cp__wl, ah_x_wl, ah_ra_wl, n_sr, k_sr, f_sr, r_sr_s, r_sr_n, i_sr, l_sr, q_sr, n_sq, k_sq, f_sq, r_sq, i_sq, l_sq, q_sq_s, q_sq_n]; exact d2
  · intro x hx
    simp (disch := omega) only [n_sf, k_sf, f_sf_s, f_sf_n, r_sf, i_sf, l_sf, q_sf, ld0_sf, st0_sf, ld1_sf, ld2_sf, ld3_sf, ah_o_sf, in__sf, cp__sf, ah_x_sf, ah_ra_sf, n_si, k_si, f_si, r_si, i_si_s, i_si_n, l_si, q_si, ld0_si, st0_si, ld1_si, ld2_si, ld3_si, ah_o_si, in__si, cp__si, ah_x_si, ah_ra_si, n_sl, k_sl, f_sl, r_sl, i_sl, l_sl_s, l_sl_n, q_sl, ld0_sl, st0_sl, ld1_sl, ld2_sl, ld3_sl, ah_o_sl, in__sl, cp__sl, ah_x_sl, ah_ra_sl, n_wi, k_wi, f_wi, r_wi, i_wi_s, i_wi_n, l_wi, q_wi, ld0_wi, st0_wi, ld1_wi, ld2_wi, ld3_wi, ah_o_wi, in__wi, cp__wi, ah_x_wi, ah_ra_wi, n_wl, k_wl, f_wl, r_wl, i_wl, l_wl_s, l_wl_n, q_wl, ld0_wl, st0_wl, ld1_wl, ld2_wl, ld3_wl, ah_o_wl, in__wl, cp__wl, ah_x_wl, ah_ra_wl, n_sr, k_sr, f_sr, r_sr_s, r_sr_n, i_sr, l_sr, q_sr, n_sq, k_sq, f_sq, r_sq, i_sq, l_sq, q_sq_s, q_sq_n]
    exact tov_u d3 hc hx
end ROT
/-! the least free arc -/
def fa (u : Nat → Prop) (lo a : Nat) : Prop := lo ≤ a ∧ a < 100 ∧ ¬ u a ∧ ∀ x, lo ≤ x → x < a → u x
theorem fa_u {u : Nat → Prop} {lo a b : Nat} (x : fa u lo a) (y : fa u lo b) : a = b := by
  rcases Nat.lt_trichotomy a b with q | q | q
  · exact absurd (y.2.2.2 a x.1 q) x.2.2.1
  · exact q
  · exact absurd (x.2.2.2 b y.1 q) y.2.2.1
def b64 (v : Int64) (x : Nat) : Bool := v.toBitVec.getLsbD x
theorem b64_0 (x : Nat) : b64 0 x = false := by
  show (0#64).getLsbD x = false
  exact BitVec.getLsbD_zero
theorem b64_or (v w : Int64) (x : Nat) : b64 (v ||| w) x = (b64 v x || b64 w x) := by
  unfold b64
  rw [Int64.toBitVec_or, BitVec.getLsbD_or]
theorem b64_one : ∀ y, y < 64 → ∀ x, x < 64 → b64 (1 <<< ((nI y).toInt64 &&& 63)) x = decide (x = y) := by decide +kernel
theorem b64_sh : ∀ x, x < 64 → (((nI x).toInt64 &&& 63).toBitVec.smod 64).toNat = x := by decide +kernel
theorem b64_t (v : Int64) {x : Nat} (hx : x < 64) : lg_cmp ((v >>> ((nI x).toInt64 &&& 63)) &&& 1) 0 = 0 ↔ b64 v x = false := by
  rw [lg_cmp_eq]
  have e : (v >>> ((nI x).toInt64 &&& 63)).toBitVec.getLsbD 0 = b64 v x := by
    show (v.toBitVec.sshiftRight (((nI x).toInt64 &&& 63).toBitVec.smod 64).toNat).getLsbD 0 = v.toBitVec.getLsbD x
    rw [b64_sh x hx, BitVec.getLsbD_sshiftRight]
    simp [hx]
  rw [← e]
  generalize (v >>> ((nI x).toInt64 &&& 63)) = w
  constructor
  · intro z
    have := congrArg (fun y : Int64 => y.toBitVec.getLsbD 0) z
    have w1 : (w &&& 1).toBitVec.getLsbD 0 = (w.toBitVec.getLsbD 0 && true) := by
      rw [Int64.toBitVec_and, BitVec.getLsbD_and]
      rfl
    have w2 : (0 : Int64).toBitVec.getLsbD 0 = false := rfl
    rw [Bool.and_true] at w1
    rw [← w1]
    exact this.trans w2
  · intro z
    apply Int64.toBitVec_inj.mp
    rw [Int64.toBitVec_and]
    show w.toBitVec &&& 1#64 = 0#64
    rw [BitVec.and_one_eq_setWidth_ofBool_getLsbD, z]
    rfl
section FREE
variable {h : AH} {d bc bs : Nat} {Q : Option Value → AH → Prop} {u : Nat → Prop}
theorem c_freeArc {b n lo a : Nat} {v : Int32} (P : pt h b) (hn : ah_f h b 2 = nI n) (h40 : n ≤ 40) (hf : ∀ e, e < 4 * n → ah_i h (b + 2) e = m1 ∨ ∃ x, x < 100 ∧ ah_i h (b + 2) e = nI x) (hu : ∀ x, x < 100 → ((∃ e, e < 4 * n ∧ ah_i h (b + 2) e = nI x) ↔ u x)) (fx : fa u lo a) (hv : v + 1 = nI lo) (k : Q (some (.int (nI a))) h) : ex_S yX7_freeArc mX7_freeArc d [.ref b, .int v] h bc bs Q := by
  have bx := P.1
  obtain ⟨f1, f2, f3, f4⟩ := fx
  refine X7_freeArc_e (X7_freeArc_0 ?_)
  refine lp (σ := Int64 × Int64) (s := (0, 0)) (4 * n) (fun j s => (∀ x, x < 64 → (b64 s.1 x = true ↔ ∃ e, e < j ∧ ah_i h (b + 2) e = nI x)) ∧ ∀ x, 64 ≤ x → x < 100 → (b64 s.2 (x - 64) = true ↔ ∃ e, e < j ∧ ah_i h (b + 2) e = nI x)) (fun j s => ex_G mX7_freeArc d 8 [.ref b, .int v, .long s.1, .retAddr 0, .long s.2, .retAddr 0, .int (nI j), .retAddr 0, .retAddr 0] [] h bc bs Q) ?_ ?_ ?_
  · constructor
    · intro x _
      rw [b64_0]
      exact ⟨fun z => absurd z (by decide), fun ⟨e, he, _⟩ => absurd he (Nat.not_lt_zero e)⟩
    · intro x _ _
      rw [b64_0]
      exact ⟨fun z => absurd z (by decide), fun ⟨e, he, _⟩ => absurd he (Nat.not_lt_zero e)⟩
  · rintro j ⟨lw, hg⟩ hj ⟨i1, i2⟩ nx
    have grow : ∀ (x : Nat), ah_i h (b + 2) j ≠ nI x → ((∃ e, e < j ∧ ah_i h (b + 2) e = nI x) ↔ ∃ e, e < j + 1 ∧ ah_i h (b + 2) e = nI x) := fun x q => ⟨fun ⟨e, a1, a2⟩ => ⟨e, by omega, a2⟩, fun ⟨e, a1, a2⟩ => ⟨e, by
      by_cases w : e = j
      · rw [w] at a2; exact absurd a2 q
      · omega, a2⟩⟩
    refine X7_freeArc_8 ?_
    rcases hf j hj with q | ⟨y, hy, q⟩
    · simp (disch := omega) only [pt_o P, pt_r0 P, pt_r1 P, pt_s0 P, pt_s1 P, pt_t0 P, pt_t1 P, hn, q, forall_eq, Option.some.injEq, exists_eq_left', Option.getD_some, n_sf, k_sf, f_sf_s, f_sf_n, r_sf, i_sf, l_sf, q_sf, ld0_sf, st0_sf, ld1_sf, ld2_sf, ld3_sf, ah_o_sf, in__sf, cp__sf, ah_x_sf, ah_ra_sf, n_si, k_si, f_si, r_si, i_si_s, i_si_n, l_si, q_si, ld0_si, st0_si, ld1_si, ld2_si, ld3_si, ah_o_si, in__si, cp__si, ah_x_si, ah_ra_si, n_sl, k_sl, f_sl, r_sl, i_sl, l_sl_s, l_sl_n, q_sl, ld0_sl, st0_sl, ld1_sl, ld2_sl, ld3_sl, ah_o_sl, in__sl, cp__sl, ah_x_sl, ah_ra_sl, n_wi, k_wi, f_wi, r_wi, i_wi_s, i_wi_n, l_wi, q_wi, ld0_wi, st0_wi, ld1_wi, ld2_wi, ld3_wi, ah_o_wi, in__wi, cp__wi, ah_x_wi, ah_ra_wi, n_wl, k_wl, f_wl, r_wl, i_wl, l_wl_s, l_wl_n, q_wl, ld0_wl, st0_wl, ld1_wl, ld2_wl, ld3_wl, ah_o_wl, in__wl, cp__wl, ah_x_wl, ah_ra_wl, n_sr, k_sr, f_sr, r_sr_s, r_sr_n, i_sr, l_sr, q_sr, n_sq, k_sq, f_sq, r_sq, i_sq, l_sq, q_sq_s, q_sq_n, il_0, il_1, il_2, il_3, il_4, il_5, il_6, il_7, il_8, il_9, il_10, il_11, il_12, il_13, il_14, il_15, il_16, il_17, il_18, il_19, il_20, il_24, il_30, il_31, il_38, il_39, il_40, il_41, il_48, il_50, il_59, il_60, il_63, il_64, il_70, il_80, il_99, il_100, il_120, il_130, il_140, il_144, il_159, il_160, il_162, il_200, il_210, il_240, il_264, il_280, il_281, il_300, il_364, il_368, il_599, il_600, il_601, il_999, il_1610, il_1620, il_1800, il_4000, il_5000, il_7000, il_14500, il_58240, il_1000000, m1_e, nI_1, nI_add, pk_mul, pk_div, pk_sub, nI_clamp, nI_leI, nI_ltI, nI_eq, m1_lt, m1_le, m1_gt, m1_ge, m1_ne, m1_en, ix_nI, im_nI, and1, and3, sh2_, shr2, corner_nI, turned_nI]
      refine ⟨trivial, fun z => by omega, fun _ => ⟨by omega, fun _ => ⟨fun _ => nx (lw, hg) ⟨fun x hx => ?_, fun x h1 h2 => ?_⟩, fun z => (by first | omega | exact absurd trivial z | exact z.elim | exact absurd rfl z)⟩, fun z => (by first | omega | exact absurd trivial z | exact z.elim | exact absurd rfl z)⟩⟩
      · rw [i1 x hx]; exact grow x (by rw [q]; exact m1_en (by omega))
      · rw [i2 x h1 h2]; exact grow x (by rw [q]; exact m1_en (by omega))
    · simp (disch := omega) only [pt_o P, pt_r0 P, pt_r1 P, pt_s0 P, pt_s1 P, pt_t0 P, pt_t1 P, hn, q, forall_eq, Option.some.injEq, exists_eq_left', Option.getD_some, n_sf, k_sf, f_sf_s, f_sf_n, r_sf, i_sf, l_sf, q_sf, ld0_sf, st0_sf, ld1_sf, ld2_sf, ld3_sf, ah_o_sf, in__sf, cp__sf, ah_x_sf, ah_ra_sf, n_si, k_si, f_si, r_si, i_si_s, i_si_n, l_si, q_si, ld0_si, st0_si, ld1_si, ld2_si, ld3_si, ah_o_si, in__si, cp__si, ah_x_si, ah_ra_si, n_sl, k_sl, f_sl, r_sl, i_sl, l_sl_s, l_sl_n, q_sl, ld0_sl, st0_sl, ld1_sl, ld2_sl, ld3_sl, ah_o_sl, in__sl, cp__sl, ah_x_sl, ah_ra_sl, n_wi, k_wi, f_wi, r_wi, i_wi_s, i_wi_n, l_wi, q_wi, ld0_wi, st0_wi, ld1_wi, ld2_wi, ld3_wi, ah_o_wi, in__wi, cp__wi, ah_x_wi, ah_ra_wi, n_wl, k_wl, f_wl, r_wl, i_wl, l_wl_s, l_wl_n, q_wl, ld0_wl, st0_wl, ld1_wl, ld2_wl, ld3_wl, ah_o_wl, in__wl, cp__wl, ah_x_wl, ah_ra_wl, n_sr, k_sr, f_sr, r_sr_s, r_sr_n, i_sr, l_sr, q_sr, n_sq, k_sq, f_sq, r_sq, i_sq, l_sq, q_sq_s, q_sq_n, il_0, il_1, il_2, il_3, il_4, il_5, il_6, il_7, il_8, il_9, il_10, il_11, il_12, il_13, il_14, il_15, il_16, il_17, il_18, il_19, il_20, il_24, il_30, il_31, il_38, il_39, il_40, il_41, il_48, il_50, il_59, il_60, il_63, il_64, il_70, il_80, il_99, il_100, il_120, il_130, il_140, il_144, il_159, il_160, il_162, il_200, il_210, il_240, il_264, il_280, il_281, il_300, il_364, il_368, il_599, il_600, il_601, il_999, il_1610, il_1620, il_1800, il_4000, il_5000, il_7000, il_14500, il_58240, il_1000000, m1_e, nI_1, nI_add, pk_mul, pk_div, pk_sub, nI_clamp, nI_leI, nI_ltI, nI_eq, m1_lt, m1_le, m1_gt, m1_ge, m1_ne, m1_en, ix_nI, im_nI, and1, and3, sh2_, shr2, corner_nI, turned_nI]
      refine ⟨trivial, fun z => by omega, fun _ => ⟨by omega, fun y64 => ⟨fun z => (by first | omega | exact absurd trivial z | exact z.elim | exact absurd rfl z), fun _ => nx (_, hg) ⟨fun x hx => ?_, fun x h1 h2 => ?_⟩⟩, fun y64 => ?_⟩⟩
      · show b64 (lw ||| 1 <<< (Int32.toInt64 (nI y) &&& 63)) x = true ↔ _
        rw [b64_or, b64_one y (by omega) x hx]
        by_cases w : x = y
        · subst w
          simp only [decide_true, Bool.or_true, true_iff]
          exact ⟨j, by omega, q⟩
        · rw [decide_eq_false w, Bool.or_false, i1 x hx]
          exact grow x (by rw [q]; exact fun z => w ((nI_eq (by omega) (by omega)).mp z).symm)
      · rw [i2 x h1 h2]; exact grow x (by rw [q]; exact fun z => by rw [nI_eq (by omega) (by omega)] at z; omega)
      · rw [pk_sub (by omega)]
        refine nx (lw, _) ⟨fun x hx => ?_, fun x h1 h2 => ?_⟩
        · rw [i1 x hx]; exact grow x (by rw [q]; exact fun z => by rw [nI_eq (by omega) (by omega)] at z; omega)
        · show b64 (hg ||| 1 <<< (Int32.toInt64 (nI (y - 64)) &&& 63)) (x - 64) = true ↔ _
          rw [b64_or, b64_one (y - 64) (by omega) (x - 64) (by omega)]
          by_cases w : x = y
          · subst w
            simp only [decide_true, Bool.or_true, true_iff]
            exact ⟨j, by omega, q⟩
          · rw [decide_eq_false (by omega), Bool.or_false, i2 x h1 h2]
            exact grow x (by rw [q]; exact fun z => w ((nI_eq (by omega) (by omega)).mp z).symm)
  · rintro ⟨lw, hg⟩ ⟨i1, i2⟩
    refine X7_freeArc_8 ?_
    simp (disch := omega) only [pt_o P, pt_r0 P, pt_r1 P, pt_s0 P, pt_s1 P, pt_t0 P, pt_t1 P, hn, forall_eq, Option.some.injEq, exists_eq_left', Option.getD_some, n_sf, k_sf, f_sf_s, f_sf_n, r_sf, i_sf, l_sf, q_sf, ld0_sf, st0_sf, ld1_sf, ld2_sf, ld3_sf, ah_o_sf, in__sf, cp__sf, ah_x_sf, ah_ra_sf, n_si, k_si, f_si, r_si, i_si_s, i_si_n, l_si, q_si, ld0_si, st0_si, ld1_si, ld2_si, ld3_si, ah_o_si, in__si, cp__si, ah_x_si, ah_ra_si, n_sl, k_sl, f_sl, r_sl, i_sl, l_sl_s, l_sl_n, q_sl, ld0_sl, st0_sl, ld1_sl, ld2_sl, ld3_sl, ah_o_sl, in__sl, cp__sl, ah_x_sl, ah_ra_sl, n_wi, k_wi, f_wi, r_wi, i_wi_s, i_wi_n, l_wi, q_wi, ld0_wi, st0_wi, ld1_wi, ld2_wi, ld3_wi, ah_o_wi, in__wi, cp__wi, ah_x_wi, ah_ra_wi, n_wl, k_wl, f_wl, r_wl, i_wl, l_wl_s, l_wl_n, q_wl, ld0_wl, st0_wl, ld1_wl, ld2_wl, ld3_wl, ah_o_wl, in__wl, cp__wl, ah_x_wl, ah_ra_wl, n_sr, k_sr, f_sr, r_sr_s, r_sr_n, i_sr, l_sr, q_sr, n_sq, k_sq, f_sq, r_sq, i_sq, l_sq, q_sq_s, q_sq_n, il_0, il_1, il_2, il_3, il_4, il_5, il_6, il_7, il_8, il_9, il_10, il_11, il_12, il_13, il_14, il_15, il_16, il_17, il_18, il_19, il_20, il_24, il_30, il_31, il_38, il_39, il_40, il_41, il_48, il_50, il_59, il_60, il_63, il_64, il_70, il_80, il_99, il_100, il_120, il_130, il_140, il_144, il_159, il_160, il_162, il_200, il_210, il_240, il_264, il_280, il_281, il_300, il_364, il_368, il_599, il_600, il_601, il_999, il_1610, il_1620, il_1800, il_4000, il_5000, il_7000, il_14500, il_58240, il_1000000, m1_e, nI_1, nI_add, pk_mul, pk_div, pk_sub, nI_clamp, nI_leI, nI_ltI, nI_eq, m1_lt, m1_le, m1_gt, m1_ge, m1_ne, m1_en, ix_nI, im_nI, and1, and3, sh2_, shr2, corner_nI, turned_nI]
    refine ⟨trivial, fun _ => ?_, fun z => (by first | omega | exact absurd trivial z | exact z.elim | exact absurd rfl z)⟩
    have hv' : v + nI 1 = nI lo := hv
    rw [hv']
    refine lpf (σ := Unit) (s := ()) lo a (fun _ _ => True) (fun j _ => ex_G mX7_freeArc d 73 [.retAddr 0, .retAddr 0, .long lw, .retAddr 0, .long hg, .retAddr 0, .int (nI j), .retAddr 0, .retAddr 0] [] h bc bs Q) f1 trivial ?_ ?_
    · intro j _ j1 j2 _ nx
      have uj := (hu j (by omega)).mpr (f4 j j1 j2)
      refine X7_freeArc_73 ?_
      simp (disch := omega) only [forall_eq, Option.some.injEq, exists_eq_left', Option.getD_some, il_0, il_1, il_2, il_3, il_4, il_5, il_6, il_7, il_8, il_9, il_10, il_11, il_12, il_13, il_14, il_15, il_16, il_17, il_18, il_19, il_20, il_24, il_30, il_31, il_38, il_39, il_40, il_41, il_48, il_50, il_59, il_60, il_63, il_64, il_70, il_80, il_99, il_100, il_120, il_130, il_140, il_144, il_159, il_160, il_162, il_200, il_210, il_240, il_264, il_280, il_281, il_300, il_364, il_368, il_599, il_600, il_601, il_999, il_1610, il_1620, il_1800, il_4000, il_5000, il_7000, il_14500, il_58240, il_1000000, m1_e, nI_1, nI_add, pk_mul, pk_div, pk_sub, nI_clamp, nI_leI, nI_ltI, nI_eq, m1_lt, m1_le, m1_gt, m1_ge, m1_ne, m1_en, ix_nI, im_nI, and1, and3, sh2_, shr2, corner_nI, turned_nI]
      refine ⟨fun z => by omega, fun _ => ⟨fun w => ?_, fun w => ?_⟩⟩
      · refine X7_freeArc_102 ⟨fun _ => ?_, fun z => ?_⟩
        · intro x2 e2
          rw [e2, nI_1]
          exact nx () trivial
        · rw [pk_sub (by omega), b64_t hg (by omega)] at z
          have := (i2 j w (by omega)).mpr uj
          rw [z] at this
          exact absurd this (by decide)
      · refine X7_freeArc_102 ⟨fun _ => ?_, fun z => ?_⟩
        · intro x2 e2
          rw [e2, nI_1]
          exact nx () trivial
        · rw [b64_t lw (by omega)] at z
          have := (i1 j (by omega)).mpr uj
          rw [z] at this
          exact absurd this (by decide)
    · intro _ _
      have ua := fun w => f3 ((hu a f2).mp w)
      refine X7_freeArc_73 ?_
      simp (disch := omega) only [forall_eq, Option.some.injEq, exists_eq_left', Option.getD_some, il_0, il_1, il_2, il_3, il_4, il_5, il_6, il_7, il_8, il_9, il_10, il_11, il_12, il_13, il_14, il_15, il_16, il_17, il_18, il_19, il_20, il_24, il_30, il_31, il_38, il_39, il_40, il_41, il_48, il_50, il_59, il_60, il_63, il_64, il_70, il_80, il_99, il_100, il_120, il_130, il_140, il_144, il_159, il_160, il_162, il_200, il_210, il_240, il_264, il_280, il_281, il_300, il_364, il_368, il_599, il_600, il_601, il_999, il_1610, il_1620, il_1800, il_4000, il_5000, il_7000, il_14500, il_58240, il_1000000, m1_e, nI_1, nI_add, pk_mul, pk_div, pk_sub, nI_clamp, nI_leI, nI_ltI, nI_eq, m1_lt, m1_le, m1_gt, m1_ge, m1_ne, m1_en, ix_nI, im_nI, and1, and3, sh2_, shr2, corner_nI, turned_nI]
      refine ⟨fun z => by omega, fun _ => ⟨fun w => ?_, fun w => ?_⟩⟩
      · refine X7_freeArc_102 ⟨fun z => absurd ?_ z, fun _ => k⟩
        rw [pk_sub (by omega), b64_t hg (by omega)]
        exact Bool.eq_false_iff.mpr (fun q => ua ((i2 a w f2).mp q))
      · refine X7_freeArc_102 ⟨fun z => absurd ?_ z, fun _ => k⟩
        rw [b64_t lw (by omega)]
        exact Bool.eq_false_iff.mpr (fun q => ua ((i1 a (by omega)).mp q))
theorem m_free {s n lo a : Nat} {v : Int32} (K : sp h) (hs : s < 368) (hn : ah_i h 170 s = nI n) (h40 : n ≤ 40) (hf : ∀ e, e < 4 * n → ∃ x, x < 100 ∧ ah_i h 173 (160 * s + e) = nI x) (hu : ∀ x, x < 100 → ((∃ e, e < 4 * n ∧ ah_i h 173 (160 * s + e) = nI x) ↔ u x)) (fx : fa u lo a) (hv : v + 1 = nI lo) (k : ∀ h', fr [195] h h' → Q (some (.int (nI a))) h') : ex_S yX12_free mX12_free d [.ref 168, .int (nI s), .int v] h bc bs Q := by
  obtain ⟨f1, f2, f3, f4⟩ := fx
  refine X12_free_e (X12_free_0 ?_)
  refine lp 100 (fun j h' => fr [195] h h' ∧ ∀ x, x < j → ah_i h' 195 x = nI 0) (fun j h' => ex_G mX12_free d 2 [.ref 168, .int (nI s), .int v, .int (nI j)] [] h' bc bs Q) ⟨fr_refl _ h, fun x hx => absurd hx (Nat.not_lt_zero x)⟩ ?_ ?_
  · rintro j h1 hj ⟨F, e0⟩ nx
    have K1 := sp_fr K F
    refine X12_free_2 ?_
    simp (disch := omega) only [o168 K1, r168_33 K1, s195 K1, forall_eq, Option.some.injEq, exists_eq_left', Option.getD_some, n_sf, k_sf, f_sf_s, f_sf_n, r_sf, i_sf, l_sf, q_sf, ld0_sf, st0_sf, ld1_sf, ld2_sf, ld3_sf, ah_o_sf, in__sf, cp__sf, ah_x_sf, ah_ra_sf, n_si, k_si, f_si, r_si, i_si_s, i_si_n, l_si, q_si, ld0_si, st0_si, ld1_si, ld2_si, ld3_si, ah_o_si, in__si, cp__si, ah_x_si, ah_ra_si, n_sl, k_sl, f_sl, r_sl, i_sl, l_sl_s, l_sl_n, q_sl, ld0_sl, st0_sl, ld1_sl, ld2_sl, ld3_sl, ah_o_sl, in__sl, cp__sl, ah_x_sl, ah_ra_sl, n_wi, k_wi, f_wi, r_wi, i_wi_s, i_wi_n, l_wi, q_wi, ld0_wi, st0_wi, ld1_wi, ld2_wi, ld3_wi, ah_o_wi, in__wi, cp__wi, ah_x_wi, ah_ra_wi, n_wl, k_wl, f_wl, r_wl, i_wl, l_wl_s, l_wl_n, q_wl, ld0_wl, st0_wl, ld1_wl, ld2_wl, ld3_wl, ah_o_wl, in__wl, cp__wl, ah_x_wl, ah_ra_wl, n_sr, k_sr, f_sr, r_sr_s, r_sr_n, i_sr, l_sr, q_sr, n_sq, k_sq, f_sq, r_sq, i_sq, l_sq, q_sq_s, q_sq_n, il_0, il_1, il_2, il_3, il_4, il_5, il_6, il_7, il_8, il_9, il_10, il_11, il_12, il_13, il_14, il_15, il_16, il_17, il_18, il_19, il_20, il_24, il_30, il_31, il_38, il_39, il_40, il_41, il_48, il_50, il_59, il_60, il_63, il_64, il_70, il_80, il_99, il_100, il_120, il_130, il_140, il_144, il_159, il_160, il_162, il_200, il_210, il_240, il_264, il_280, il_281, il_300, il_364, il_368, il_599, il_600, il_601, il_999, il_1610, il_1620, il_1800, il_4000, il_5000, il_7000, il_14500, il_58240, il_1000000, m1_e, nI_1, nI_add, pk_mul, pk_div, pk_sub, nI_clamp, nI_leI, nI_ltI, nI_eq, m1_lt, m1_le, m1_gt, m1_ge, m1_ne, m1_en, ix_nI, im_nI, and1, and3, sh2_, shr2, corner_nI, turned_nI]
    refine ⟨fun q => by omega, fun _ => ⟨trivial, hj, nx _ ⟨fr_si F (by decide), fun x hx => ?_⟩⟩⟩
    rw [i_si_s]
    by_cases q : x = j
    · rw [q, u1_s]
    · rw [u1_n _ _ q]; exact e0 x (by omega)
  · rintro h1 ⟨F, e0⟩
    refine X12_free_2 ?_
    simp (disch := omega) only [forall_eq, Option.some.injEq, exists_eq_left', Option.getD_some, n_sf, k_sf, f_sf_s, f_sf_n, r_sf, i_sf, l_sf, q_sf, ld0_sf, st0_sf, ld1_sf, ld2_sf, ld3_sf, ah_o_sf, in__sf, cp__sf, ah_x_sf, ah_ra_sf, n_si, k_si, f_si, r_si, i_si_s, i_si_n, l_si, q_si, ld0_si, st0_si, ld1_si, ld2_si, ld3_si, ah_o_si, in__si, cp__si, ah_x_si, ah_ra_si, n_sl, k_sl, f_sl, r_sl, i_sl, l_sl_s, l_sl_n, q_sl, ld0_sl, st0_sl, ld1_sl, ld2_sl, ld3_sl, ah_o_sl, in__sl, cp__sl, ah_x_sl, ah_ra_sl, n_wi, k_wi, f_wi, r_wi, i_wi_s, i_wi_n, l_wi, q_wi, ld0_wi, st0_wi, ld1_wi, ld2_wi, ld3_wi, ah_o_wi, in__wi, cp__wi, ah_x_wi, ah_ra_wi, n_wl, k_wl, f_wl, r_wl, i_wl, l_wl_s, l_wl_n, q_wl, ld0_wl, st0_wl, ld1_wl, ld2_wl, ld3_wl, ah_o_wl, in__wl, cp__wl, ah_x_wl, ah_ra_wl, n_sr, k_sr, f_sr, r_sr_s, r_sr_n, i_sr, l_sr, q_sr, n_sq, k_sq, f_sq, r_sq, i_sq, l_sq, q_sq_s, q_sq_n, il_0, il_1, il_2, il_3, il_4, il_5, il_6, il_7, il_8, il_9, il_10, il_11, il_12, il_13, il_14, il_15, il_16, il_17, il_18, il_19, il_20, il_24, il_30, il_31, il_38, il_39, il_40, il_41, il_48, il_50, il_59, il_60, il_63, il_64, il_70, il_80, il_99, il_100, il_120, il_130, il_140, il_144, il_159, il_160, il_162, il_200, il_210, il_240, il_264, il_280, il_281, il_300, il_364, il_368, il_599, il_600, il_601, il_999, il_1610, il_1620, il_1800, il_4000, il_5000, il_7000, il_14500, il_58240, il_1000000, m1_e, nI_1, nI_add, pk_mul, pk_div, pk_sub, nI_clamp, nI_leI, nI_ltI, nI_eq, m1_lt, m1_le, m1_gt, m1_ge, m1_ne, m1_en, ix_nI, im_nI, and1, and3, sh2_, shr2, corner_nI, turned_nI]
    refine ⟨fun _ => ?_, fun q => (by first | omega | exact absurd trivial z | exact z.elim | exact absurd rfl z)⟩
    refine lp (4 * n) (fun j h' => fr [195] h h' ∧ ∀ x, x < 100 → ((∃ e, e < j ∧ ah_i h 173 (160 * s + e) = nI x) → ah_i h' 195 x = nI 1) ∧ ((¬ ∃ e, e < j ∧ ah_i h 173 (160 * s + e) = nI x) → ah_i h' 195 x = nI 0)) (fun j h' => ex_G mX12_free d 23 [.ref 168, .int (nI s), .int v, .int (nI j)] [] h' bc bs Q) ⟨F, fun x hx => ⟨fun ⟨e, he, _⟩ => absurd he (Nat.not_lt_zero e), fun _ => e0 x hx⟩⟩ ?_ ?_
    · rintro j h2 hj ⟨F2, g⟩ nx
      have K2 := sp_fr K F2
      have hn2 : ah_i h2 170 s = nI n := by rw [fr_i F2 170 (by decide)]; exact hn
      obtain ⟨y, hy, ey⟩ := hf j hj
      have ey2 : ah_i h2 173 (160 * s + j) = nI y := by rw [fr_i F2 173 (by decide)]; exact ey
      refine X12_free_23 ?_
      simp (disch := omega) only [o168 K2, r168_2 K2, s170 K2, t170 K2, r168_5 K2, s173 K2, t173 K2, r168_33 K2, s195 K2, hn2, ey2, forall_eq, Option.some.injEq, exists_eq_left', Option.getD_some, n_sf, k_sf, f_sf_s, f_sf_n, r_sf, i_sf, l_sf, q_sf, ld0_sf, st0_sf, ld1_sf, ld2_sf, ld3_sf, ah_o_sf, in__sf, cp__sf, ah_x_sf, ah_ra_sf, n_si, k_si, f_si, r_si, i_si_s, i_si_n, l_si, q_si, ld0_si, st0_si, ld1_si, ld2_si, ld3_si, ah_o_si, in__si, cp__si, ah_x_si, ah_ra_si, n_sl, k_sl, f_sl, r_sl, i_sl, l_sl_s, l_sl_n, q_sl, ld0_sl, st0_sl, ld1_sl, ld2_sl, ld3_sl, ah_o_sl, in__sl, cp__sl, ah_x_sl, ah_ra_sl, n_wi, k_wi, f_wi, r_wi, i_wi_s, i_wi_n, l_wi, q_wi, ld0_wi, st0_wi, ld1_wi, ld2_wi, ld3_wi, ah_o_wi, in__wi, cp__wi, ah_x_wi, ah_ra_wi, n_wl, k_wl, f_wl, r_wl, i_wl, l_wl_s, l_wl_n, q_wl, ld0_wl, st0_wl, ld1_wl, ld2_wl, ld3_wl, ah_o_wl, in__wl, cp__wl, ah_x_wl, ah_ra_wl, n_sr, k_sr, f_sr, r_sr_s, r_sr_n, i_sr, l_sr, q_sr, n_sq, k_sq, f_sq, r_sq, i_sq, l_sq, q_sq_s, q_sq_n, il_0, il_1, il_2, il_3, il_4, il_5, il_6, il_7, il_8, il_9, il_10, il_11, il_12, il_13, il_14, il_15, il_16, il_17, il_18, il_19, il_20, il_24, il_30, il_31, il_38, il_39, il_40, il_41, il_48, il_50, il_59, il_60, il_63, il_64, il_70, il_80, il_99, il_100, il_120, il_130, il_140, il_144, il_159, il_160, il_162, il_200, il_210, il_240, il_264, il_280, il_281, il_300, il_364, il_368, il_599, il_600, il_601, il_999, il_1610, il_1620, il_1800, il_4000, il_5000, il_7000, il_14500, il_58240, il_1000000, m1_e, nI_1, nI_add, pk_mul, pk_div, pk_sub, nI_clamp, nI_leI, nI_ltI, nI_eq, m1_lt, m1_le, m1_gt, m1_ge, m1_ne, m1_en, ix_nI, im_nI, and1, and3, sh2_, shr2, corner_nI, turned_nI]
      refine ⟨trivial, hs, fun q => by omega, fun _ => ⟨by omega, hy, nx _ ⟨fr_si F2 (by decide), fun x hx => ?_⟩⟩⟩
      rw [i_si_s]
      by_cases q : x = y
      · rw [q, u1_s]
        exact ⟨fun _ => rfl, fun w => absurd ⟨j, by omega, ey⟩ w⟩
      · rw [u1_n _ _ q]
        have w : (∃ e, e < j ∧ ah_i h 173 (160 * s + e) = nI x) ↔ ∃ e, e < j + 1 ∧ ah_i h 173 (160 * s + e) = nI x := ⟨fun ⟨e, a1, a2⟩ => ⟨e, by omega, a2⟩, fun ⟨e, a1, a2⟩ => ⟨e, by
          by_cases w : e = j
          · rw [w, ey, nI_eq (by omega) (by omega)] at a2; omega
          · omega, a2⟩⟩
        rw [← w]
        exact g x hx
    · rintro h2 ⟨F2, g⟩
      have K2 := sp_fr K F2
      have hn2 : ah_i h2 170 s = nI n := by rw [fr_i F2 170 (by decide)]; exact hn
      refine X12_free_23 ?_
      simp (disch := omega) only [o168 K2, r168_2 K2, s170 K2, t170 K2, r168_5 K2, s173 K2, t173 K2, r168_33 K2, s195 K2, hn2, forall_eq, Option.some.injEq, exists_eq_left', Option.getD_some, n_sf, k_sf, f_sf_s, f_sf_n, r_sf, i_sf, l_sf, q_sf, ld0_sf, st0_sf, ld1_sf, ld2_sf, ld3_sf, ah_o_sf, in__sf, cp__sf, ah_x_sf, ah_ra_sf, n_si, k_si, f_si, r_si, i_si_s, i_si_n, l_si, q_si, ld0_si, st0_si, ld1_si, ld2_si, ld3_si, ah_o_si, in__si, cp__si, ah_x_si, ah_ra_si, n_sl, k_sl, f_sl, r_sl, i_sl, l_sl_s, l_sl_n, q_sl, ld0_sl, st0_sl, ld1_sl, ld2_sl, ld3_sl, ah_o_sl, in__sl, cp__sl, ah_x_sl, ah_ra_sl, n_wi, k_wi, f_wi, r_wi, i_wi_s, i_wi_n, l_wi, q_wi, ld0_wi, st0_wi, ld1_wi, ld2_wi, ld3_wi, ah_o_wi, in__wi, cp__wi, ah_x_wi, ah_ra_wi, n_wl, k_wl, f_wl, r_wl, i_wl, l_wl_s, l_wl_n, q_wl, ld0_wl, st0_wl, ld1_wl, ld2_wl, ld3_wl, ah_o_wl, in__wl, cp__wl, ah_x_wl, ah_ra_wl, n_sr, k_sr, f_sr, r_sr_s, r_sr_n, i_sr, l_sr, q_sr, n_sq, k_sq, f_sq, r_sq, i_sq, l_sq, q_sq_s, q_sq_n, il_0, il_1, il_2, il_3, il_4, il_5, il_6, il_7, il_8, il_9, il_10, il_11, il_12, il_13, il_14, il_15, il_16, il_17, il_18, il_19, il_20, il_24, il_30, il_31, il_38, il_39, il_40, il_41, il_48, il_50, il_59, il_60, il_63, il_64, il_70, il_80, il_99, il_100, il_120, il_130, il_140, il_144, il_159, il_160, il_162, il_200, il_210, il_240, il_264, il_280, il_281, il_300, il_364, il_368, il_599, il_600, il_601, il_999, il_1610, il_1620, il_1800, il_4000, il_5000, il_7000, il_14500, il_58240, il_1000000, m1_e, nI_1, nI_add, pk_mul, pk_div, pk_sub, nI_clamp, nI_leI, nI_ltI, nI_eq, m1_lt, m1_le, m1_gt, m1_ge, m1_ne, m1_en, ix_nI, im_nI, and1, and3, sh2_, shr2, corner_nI, turned_nI]
      refine ⟨trivial, hs, fun _ => ?_, fun q => (by first | omega | exact absurd trivial z | exact z.elim | exact absurd rfl z)⟩
      have hv' : v + nI 1 = nI lo := hv
      rw [hv']
      refine lpf (σ := Unit) (s := ()) lo a (fun _ _ => True) (fun j _ => ex_G mX12_free d 63 [.ref 168, .retAddr 0, .retAddr 0, .int (nI j)] [] h2 bc bs Q) f1 trivial ?_ ?_
      · intro j _ j1 j2 _ nx
        have uj := (g j (by omega)).1 ((hu j (by omega)).mpr (f4 j j1 j2))
        refine X12_free_63 ?_
        simp (disch := omega) only [o168 K2, r168_33 K2, s195 K2, uj, forall_eq, Option.some.injEq, exists_eq_left', Option.getD_some, n_sf, k_sf, f_sf_s, f_sf_n, r_sf, i_sf, l_sf, q_sf, ld0_sf, st0_sf, ld1_sf, ld2_sf, ld3_sf, ah_o_sf, in__sf, cp__sf, ah_x_sf, ah_ra_sf, n_si, k_si, f_si, r_si, i_si_s, i_si_n, l_si, q_si, ld0_si, st0_si, ld1_si, ld2_si, ld3_si, ah_o_si, in__si, cp__si, ah_x_si, ah_ra_si, n_sl, k_sl, f_sl, r_sl, i_sl, l_sl_s, l_sl_n, q_sl, ld0_sl, st0_sl, ld1_sl, ld2_sl, ld3_sl, ah_o_sl, in__sl, cp__sl, ah_x_sl, ah_ra_sl, n_wi, k_wi, f_wi, r_wi, i_wi_s, i_wi_n, l_wi, q_wi, ld0_wi, st0_wi, ld1_wi, ld2_wi, ld3_wi, ah_o_wi, in__wi, cp__wi, ah_x_wi, ah_ra_wi, n_wl, k_wl, f_wl, r_wl, i_wl, l_wl_s, l_wl_n, q_wl, ld0_wl, st0_wl, ld1_wl, ld2_wl, ld3_wl, ah_o_wl, in__wl, cp__wl, ah_x_wl, ah_ra_wl, n_sr, k_sr, f_sr, r_sr_s, r_sr_n, i_sr, l_sr, q_sr, n_sq, k_sq, f_sq, r_sq, i_sq, l_sq, q_sq_s, q_sq_n, il_0, il_1, il_2, il_3, il_4, il_5, il_6, il_7, il_8, il_9, il_10, il_11, il_12, il_13, il_14, il_15, il_16, il_17, il_18, il_19, il_20, il_24, il_30, il_31, il_38, il_39, il_40, il_41, il_48, il_50, il_59, il_60, il_63, il_64, il_70, il_80, il_99, il_100, il_120, il_130, il_140, il_144, il_159, il_160, il_162, il_200, il_210, il_240, il_264, il_280, il_281, il_300, il_364, il_368, il_599, il_600, il_601, il_999, il_1610, il_1620, il_1800, il_4000, il_5000, il_7000, il_14500, il_58240, il_1000000, m1_e, nI_1, nI_add, pk_mul, pk_div, pk_sub, nI_clamp, nI_leI, nI_ltI, nI_eq, m1_lt, m1_le, m1_gt, m1_ge, m1_ne, m1_en, ix_nI, im_nI, and1, and3, sh2_, shr2, corner_nI, turned_nI]
        exact ⟨trivial, by omega, fun z => (by first | omega | exact absurd trivial z | exact z.elim | exact absurd rfl z), fun _ => nx () trivial⟩
      · intro _ _
        have ua := (g a f2).2 (fun w => f3 ((hu a f2).mp w))
        refine X12_free_63 ?_
        simp (disch := omega) only [o168 K2, r168_33 K2, s195 K2, ua, forall_eq, Option.some.injEq, exists_eq_left', Option.getD_some, n_sf, k_sf, f_sf_s, f_sf_n, r_sf, i_sf, l_sf, q_sf, ld0_sf, st0_sf, ld1_sf, ld2_sf, ld3_sf, ah_o_sf, in__sf, cp__sf, ah_x_sf, ah_ra_sf, n_si, k_si, f_si, r_si, i_si_s, i_si_n, l_si, q_si, ld0_si, st0_si, ld1_si, ld2_si, ld3_si, ah_o_si, in__si, cp__si, ah_x_si, ah_ra_si, n_sl, k_sl, f_sl, r_sl, i_sl, l_sl_s, l_sl_n, q_sl, ld0_sl, st0_sl, ld1_sl, ld2_sl, ld3_sl, ah_o_sl, in__sl, cp__sl, ah_x_sl, ah_ra_sl, n_wi, k_wi, f_wi, r_wi, i_wi_s, i_wi_n, l_wi, q_wi, ld0_wi, st0_wi, ld1_wi, ld2_wi, ld3_wi, ah_o_wi, in__wi, cp__wi, ah_x_wi, ah_ra_wi, n_wl, k_wl, f_wl, r_wl, i_wl, l_wl_s, l_wl_n, q_wl, ld0_wl, st0_wl, ld1_wl, ld2_wl, ld3_wl, ah_o_wl, in__wl, cp__wl, ah_x_wl, ah_ra_wl, n_sr, k_sr, f_sr, r_sr_s, r_sr_n, i_sr, l_sr, q_sr, n_sq, k_sq, f_sq, r_sq, i_sq, l_sq, q_sq_s, q_sq_n, il_0, il_1, il_2, il_3, il_4, il_5, il_6, il_7, il_8, il_9, il_10, il_11, il_12, il_13, il_14, il_15, il_16, il_17, il_18, il_19, il_20, il_24, il_30, il_31, il_38, il_39, il_40, il_41, il_48, il_50, il_59, il_60, il_63, il_64, il_70, il_80, il_99, il_100, il_120, il_130, il_140, il_144, il_159, il_160, il_162, il_200, il_210, il_240, il_264, il_280, il_281, il_300, il_364, il_368, il_599, il_600, il_601, il_999, il_1610, il_1620, il_1800, il_4000, il_5000, il_7000, il_14500, il_58240, il_1000000, m1_e, nI_1, nI_add, pk_mul, pk_div, pk_sub, nI_clamp, nI_leI, nI_ltI, nI_eq, m1_lt, m1_le, m1_gt, m1_ge, m1_ne, m1_en, ix_nI, im_nI, and1, and3, sh2_, shr2, corner_nI, turned_nI]
        exact ⟨trivial, by omega, fun _ => k h2 F2, fun z => (by first | omega | exact absurd trivial z | exact z.elim | exact absurd rfl z)⟩
end FREE
