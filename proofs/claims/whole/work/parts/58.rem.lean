/-! A picture's memory: remember, where its row is there already. -/
section REM
variable {h : AH} {d bc bs : Nat} {Q : Option Value → AH → Prop}
theorem min10 {n : Nat} (hn : n ≤ 11) (g : AH) : J9_min_7cf53_V (nI n) (nI 10) g = nI (min n 10) := by
  unfold J9_min_7cf53_V
  by_cases q : n ≤ 10
  · rw [show min n 10 = n by omega]
    first
      | rw [if_pos (nI_le q (by omega))]
      | (by_cases e : n = 10
         · subst e; split <;> rfl
         · rw [if_neg (by rw [nI_ltI (by omega) (by omega)]; omega)])
  · rw [show n = 11 by omega]
    rfl
/-- from pc 16 on -/
theorem c_rem16 {b T hc nx n0 l0 : Nat} (P : pt h b) (r : ah_r h b 4 = some T) (t : ah_x h T 0 1620) (hT : T ≠ b ∧ T ≠ b + 1 ∧ T ≠ b + 2) (tb : T < 10000000) (h10 : hc ≤ 10) (hnx : nx < 10) (f5 : ah_f h b 5 = nI hc) (f6 : ah_f h b 6 = nI nx) (f2 : ah_f h b 2 = nI n0) (f3 : ah_f h b 3 = nI l0)
    (k : ∀ h', fr [b, T] h h' → ah_f h' b = u1 (u1 (ah_f h b) 6 (nI ((nx + 1) % 10))) 5 (nI (min (hc + 1) 10)) → ah_i h' T = va_cpy (ah_i h (b + 2)) (u1 (u1 (ah_i h T) (162 * nx) (nI n0)) (162 * nx + 1) (nI l0)) 0 (162 * nx + 2) 160 → Q none h') : ex_G mX7_remember (d + 1) 16 [.ref b, .retAddr 0] [] h bc bs Q := by
  have cp := cp_nI (h := h) (sp_ := 0) (dp := 162 * nx + 2) (n := 160) P.2.2.2.2.2 t (by omega) (by omega) (by omega) (by omega)
  have tx : ∀ i, st0 h T i ↔ ix i 1620 := fun i => st0_x t i
  have hcm : ∀ q : Nat, q * 162 = 162 * q := fun q => Nat.mul_comm q 162
  have mn_ : ∀ g : AH, J9_min_7cf53_V (nI (hc + 1)) (nI 10) g = nI (min (hc + 1) 10) := fun g => min10 (by omega) g
  obtain ⟨e0, e1, e2⟩ := hT
  have e2' : b + 2 ≠ T := fun z => e2 z.symm
  refine X7_remember_16 ?_
  simp (disch := omega) only [pt_o P, pt_r0 P, pt_r1 P, pt_s0 P, pt_s1 P, pt_t0 P, pt_t1 P, f5, f6, f2, f3, r, tx, hcm, cp, mn_, u1_s, u1_n, il_162, forall_eq, Option.some.injEq, exists_eq_left', Option.getD_some, n_sf, k_sf, f_sf_s, f_sf_n, r_sf, i_sf, l_sf, q_sf, ld0_sf, st0_sf, ld1_sf, ld2_sf, ld3_sf, ah_o_sf, in__sf, cp__sf, ah_x_sf, ah_ra_sf, n_si, k_si, f_si, r_si, i_si_s, i_si_n, l_si, q_si, ld0_si, st0_si, ld1_si, ld2_si, ld3_si, ah_o_si, in__si, cp__si, ah_x_si, ah_ra_si, n_sl, k_sl, f_sl, r_sl, i_sl, l_sl_s, l_sl_n, q_sl, ld0_sl, st0_sl, ld1_sl, ld2_sl, ld3_sl, ah_o_sl, in__sl, cp__sl, ah_x_sl, ah_ra_sl, n_wi, k_wi, f_wi, r_wi, i_wi_s, i_wi_n, l_wi, q_wi, ld0_wi, st0_wi, ld1_wi, ld2_wi, ld3_wi, ah_o_wi, in__wi, cp__wi, ah_x_wi, ah_ra_wi, n_wl, k_wl, f_wl, r_wl, i_wl, l_wl_s, l_wl_n, q_wl, ld0_wl, st0_wl, ld1_wl, ld2_wl, ld3_wl, ah_o_wl, in__wl, cp__wl, ah_x_wl, ah_ra_wl, n_sr, k_sr, f_sr, r_sr_s, r_sr_n, i_sr, l_sr, q_sr, n_sq, k_sq, f_sq, r_sq, i_sq, l_sq, q_sq_s, q_sq_n, il_0, il_1, il_2, il_3, il_4, il_5, il_6, il_7, il_8, il_9, il_10, il_11, il_12, il_13, il_14, il_15, il_16, il_17, il_18, il_19, il_20, il_24, il_30, il_31, il_38, il_39, il_40, il_41, il_48, il_50, il_59, il_60, il_63, il_64, il_70, il_80, il_99, il_100, il_120, il_130, il_140, il_144, il_159, il_160, il_162, il_200, il_210, il_240, il_264, il_280, il_281, il_300, il_364, il_368, il_599, il_600, il_601, il_999, il_1610, il_1620, il_1800, il_4000, il_5000, il_7000, il_14500, il_58240, il_1000000, m1_e, nI_1, nI_add, pk_mul, pk_div, pk_sub, nI_clamp, nI_leI, nI_ltI, nI_eq, m1_lt, m1_le, m1_gt, m1_ge, m1_ne, m1_en, ix_nI, im_nI, and1, and3, sh2_, shr2, corner_nI, turned_nI]
  refine ⟨trivial, by omega, by omega, trivial, ?_⟩
  have m0 : b ∈ [b, T] := List.mem_cons_self
  have m1_ : T ∈ [b, T] := List.mem_cons_of_mem _ List.mem_cons_self
  refine k _ (fr_sf (fr_sf (fr_wi (fr_si (fr_si (fr_refl _ h) m1_) m1_) m1_) m0) m0) ?_ ?_
  · simp (disch := omega) only [n_sf, k_sf, f_sf_s, f_sf_n, r_sf, i_sf, l_sf, q_sf, ld0_sf, st0_sf, ld1_sf, ld2_sf, ld3_sf, ah_o_sf, in__sf, cp__sf, ah_x_sf, ah_ra_sf, n_si, k_si, f_si, r_si, i_si_s, i_si_n, l_si, q_si, ld0_si, st0_si, ld1_si, ld2_si, ld3_si, ah_o_si, in__si, cp__si, ah_x_si, ah_ra_si, n_sl, k_sl, f_sl, r_sl, i_sl, l_sl_s, l_sl_n, q_sl, ld0_sl, st0_sl, ld1_sl, ld2_sl, ld3_sl, ah_o_sl, in__sl, cp__sl, ah_x_sl, ah_ra_sl, n_wi, k_wi, f_wi, r_wi, i_wi_s, i_wi_n, l_wi, q_wi, ld0_wi, st0_wi, ld1_wi, ld2_wi, ld3_wi, ah_o_wi, in__wi, cp__wi, ah_x_wi, ah_ra_wi, n_wl, k_wl, f_wl, r_wl, i_wl, l_wl_s, l_wl_n, q_wl, ld0_wl, st0_wl, ld1_wl, ld2_wl, ld3_wl, ah_o_wl, in__wl, cp__wl, ah_x_wl, ah_ra_wl, n_sr, k_sr, f_sr, r_sr_s, r_sr_n, i_sr, l_sr, q_sr, n_sq, k_sq, f_sq, r_sq, i_sq, l_sq, q_sq_s, q_sq_n, u1_s, u1_n]
  · simp (disch := omega) only [n_sf, k_sf, f_sf_s, f_sf_n, r_sf, i_sf, l_sf, q_sf, ld0_sf, st0_sf, ld1_sf, ld2_sf, ld3_sf, ah_o_sf, in__sf, cp__sf, ah_x_sf, ah_ra_sf, n_si, k_si, f_si, r_si, i_si_s, i_si_n, l_si, q_si, ld0_si, st0_si, ld1_si, ld2_si, ld3_si, ah_o_si, in__si, cp__si, ah_x_si, ah_ra_si, n_sl, k_sl, f_sl, r_sl, i_sl, l_sl_s, l_sl_n, q_sl, ld0_sl, st0_sl, ld1_sl, ld2_sl, ld3_sl, ah_o_sl, in__sl, cp__sl, ah_x_sl, ah_ra_sl, n_wi, k_wi, f_wi, r_wi, i_wi_s, i_wi_n, l_wi, q_wi, ld0_wi, st0_wi, ld1_wi, ld2_wi, ld3_wi, ah_o_wi, in__wi, cp__wi, ah_x_wi, ah_ra_wi, n_wl, k_wl, f_wl, r_wl, i_wl, l_wl_s, l_wl_n, q_wl, ld0_wl, st0_wl, ld1_wl, ld2_wl, ld3_wl, ah_o_wl, in__wl, cp__wl, ah_x_wl, ah_ra_wl, n_sr, k_sr, f_sr, r_sr_s, r_sr_n, i_sr, l_sr, q_sr, n_sq, k_sq, f_sq, r_sq, i_sq, l_sq, q_sq_s, q_sq_n]
end REM
