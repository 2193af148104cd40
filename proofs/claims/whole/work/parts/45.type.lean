/-! type, as. -/
section TYPE
variable {h h' : AH} {d bc bs : Nat} {Q : Option Value → AH → Prop} {W : Nat → Nat} {N : Nat} {B : Nat → Nat} {S : Nat → Int32} {len : Nat}
theorem c_numadd {b n cap : Nat} (o : ah_o h b 6) (r : ah_r h b 0 = some (b + 1)) (ax : ah_x h (b + 1) 0 cap) (hc : cap < 2 ^ 31) (hn : ah_f h b 1 = nI n) (hl : n < cap) (v : Int32) (k : ∀ h', fr [b, b + 1] h h' → ah_f h' b 1 = nI (n + 1) → ah_i h' (b + 1) = u1 (ah_i h (b + 1)) n v → Q (some (.int (nI 1))) h') : ex_S yX6_add mX6_add d [.ref b, .int v] h bc bs Q := by
  refine X6_add_e (X6_add_0 ⟨o, b + 1, r, cap, Or.inl (Or.inl ax), ?_⟩)
  have e : Int32.ofNat cap = nI cap := rfl
  rw [e]
  simp (disch := omega) only [forall_eq, Option.some.injEq, exists_eq_left', Option.getD_some, Value.int.injEq, Value.long.injEq, n_sf, k_sf, f_sf_s, f_sf_n, r_sf, i_sf, l_sf, q_sf, ld0_sf, st0_sf, ld1_sf, ld2_sf, ld3_sf, ah_o_sf, in__sf, cp__sf, ah_x_sf, ah_ra_sf, n_si, k_si, f_si, r_si, i_si_s, i_si_n, l_si, q_si, ld0_si, st0_si, ld1_si, ld2_si, ld3_si, ah_o_si, in__si, cp__si, ah_x_si, ah_ra_si, n_sl, k_sl, f_sl, r_sl, i_sl, l_sl_s, l_sl_n, q_sl, ld0_sl, st0_sl, ld1_sl, ld2_sl, ld3_sl, ah_o_sl, in__sl, cp__sl, ah_x_sl, ah_ra_sl, n_wi, k_wi, f_wi, r_wi, i_wi_s, i_wi_n, l_wi, q_wi, ld0_wi, st0_wi, ld1_wi, ld2_wi, ld3_wi, ah_o_wi, in__wi, cp__wi, ah_x_wi, ah_ra_wi, n_wl, k_wl, f_wl, r_wl, i_wl, l_wl_s, l_wl_n, q_wl, ld0_wl, st0_wl, ld1_wl, ld2_wl, ld3_wl, ah_o_wl, in__wl, cp__wl, ah_x_wl, ah_ra_wl, n_sr, k_sr, f_sr, r_sr_s, r_sr_n, i_sr, l_sr, q_sr, n_sq, k_sq, f_sq, r_sq, i_sq, l_sq, q_sq_s, q_sq_n, il_0, il_1, il_2, il_3, il_4, il_5, il_6, il_7, il_8, il_9, il_10, il_11, il_12, il_13, il_14, il_15, il_16, il_17, il_18, il_19, il_20, il_24, il_30, il_31, il_38, il_39, il_40, il_41, il_48, il_50, il_59, il_60, il_63, il_64, il_70, il_80, il_99, il_100, il_120, il_130, il_140, il_144, il_159, il_160, il_162, il_200, il_210, il_240, il_264, il_280, il_281, il_300, il_364, il_368, il_599, il_600, il_601, il_999, il_1610, il_1620, il_1800, il_4000, il_5000, il_7000, il_14500, il_58240, il_1000000, m1_e, nI_1, nI_add, pk_mul, pk_div, pk_sub, nI_clamp, nI_leI, nI_ltI, nI_eq, m1_lt, m1_le, m1_gt, m1_ge, m1_ne, m1_en, ix_nI, im_nI, and1, and3, sh2_, shr2, corner_nI, turned_nI, hn, st0_x ax]
  refine ⟨fun _ => ⟨hl, k _ (fr_sf (fr_si (fr_refl _ h) (by simp only [List.mem_cons, List.not_mem_nil, or_false, true_or, or_true, not_true_eq_false] <;> omega)) (by simp only [List.mem_cons, List.not_mem_nil, or_false, true_or, or_true, not_true_eq_false] <;> omega)) ?_ ?_⟩, fun z => absurd hl z⟩
  · rw [f_sf_s, u1_s]
  · rw [i_sf, i_si_s]
theorem c_numfull {b n cap : Nat} (o : ah_o h b 6) (r : ah_r h b 0 = some (b + 1)) (ax : ah_x h (b + 1) 0 cap) (hc : cap < 2 ^ 31) (hn : ah_f h b 1 = nI n) (hl : n = cap) (v : Int32) (k : Q (some (.int (nI 0))) h) : ex_S yX6_add mX6_add d [.ref b, .int v] h bc bs Q := by
  refine X6_add_e (X6_add_0 ⟨o, b + 1, r, cap, Or.inl (Or.inl ax), ?_⟩)
  have e : Int32.ofNat cap = nI cap := rfl
  rw [e, hn, nI_ltI (by omega) (by omega)]
  exact ⟨fun z => absurd z (by omega), fun _ => k⟩
theorem st_type (x : R0 h W N B S len) (v : Int32) : ST yX11_type mX11_type yX12_type mX12_type (d + 1) (d + 1) [.int v] h bc bs W S len := by
  have K := x.2.1
  obtain ⟨n, n1, n2, n3, n4⟩ := x.2.2.2.2.2.2.1.1
  have T2 := x.2.2.2.2.2.2.1.2.1
  refine X11_type_e (X11_type_0 ⟨o0 K, 3, r0_2 K, o3 K, ?_⟩)
  have n10 : ¬ (nI 1 : Int32) = 0 := by decide
  by_cases hl : n < 130
  · refine c_numadd (o3 K) (r3_0 K) (sp_x K 4 (by decide) rfl) (by decide) n2 hl v (fun ha F g1 g2 => ⟨_, rfl, fun z => absurd z n10, fun _ => ?_⟩)
    have Ka := sp_fr K F
    refine ⟨o0 Ka, 3, r0_2 Ka, o3 Ka, ⟨o0 Ka, trivial⟩, ?_⟩
    rw [grV, grH, g1]
    intro h14 e14
    subst e14
    refine ⟨_, rfl, ?_⟩
    have F1 : fr [0, 3, 4] h (cNo ha (nI 0)) := fr_sf (fr_mono F (by decide)) (by decide)
    have c3 : ah_f (cNo ha (nI 0)) 3 1 = nI (n + 1) := by unfold cNo; rw [f_sf_n _ _ _ _ _ (by decide)]; exact g1
    have c4 : ah_i (cNo ha (nI 0)) 4 = u1 (ah_i h 4) n v := by rw [i_cNo]; exact g2
    have g0 : ∀ k, k ≠ 19 → ah_f (cNo ha (nI 0)) 0 k = ah_f h 0 k := fun k hk => by
      unfold cNo
      rw [f_sf_s, u1_n _ _ hk, fr_f F 0 (by decide)]
    have g9 : ah_f (cNo ha (nI 0)) 0 19 = nI 0 := by
      unfold cNo
      rw [f_sf_s, u1_s]
    generalize cNo ha (nI 0) = hb at F1 c3 c4 g0 g9 ⊢
    have K1 := sp_fr K F1
    have t3 : ah_f hb 168 29 = nI n := by rw [fr_f F1 168 (by decide)]; exact n3
    have n130 : ¬ n = 130 := by omega
    refine X12_type_e (X12_type_0 ?_)
    simp (disch := omega) only [o168 K1, t3, n130, r168_28 K1, t191 K1, weV, weH, n_sf, k_sf, f_sf_s, f_sf_n, r_sf, i_sf, l_sf, q_sf, ld0_sf, st0_sf, ld1_sf, ld2_sf, ld3_sf, ah_o_sf, in__sf, cp__sf, ah_x_sf, ah_ra_sf, n_si, k_si, f_si, r_si, i_si_s, i_si_n, l_si, q_si, ld0_si, st0_si, ld1_si, ld2_si, ld3_si, ah_o_si, in__si, cp__si, ah_x_si, ah_ra_si, n_sl, k_sl, f_sl, r_sl, i_sl, l_sl_s, l_sl_n, q_sl, ld0_sl, st0_sl, ld1_sl, ld2_sl, ld3_sl, ah_o_sl, in__sl, cp__sl, ah_x_sl, ah_ra_sl, n_wi, k_wi, f_wi, r_wi, i_wi_s, i_wi_n, l_wi, q_wi, ld0_wi, st0_wi, ld1_wi, ld2_wi, ld3_wi, ah_o_wi, in__wi, cp__wi, ah_x_wi, ah_ra_wi, n_wl, k_wl, f_wl, r_wl, i_wl, l_wl_s, l_wl_n, q_wl, ld0_wl, st0_wl, ld1_wl, ld2_wl, ld3_wl, ah_o_wl, in__wl, cp__wl, ah_x_wl, ah_ra_wl, n_sr, k_sr, f_sr, r_sr_s, r_sr_n, i_sr, l_sr, q_sr, n_sq, k_sq, f_sq, r_sq, i_sq, l_sq, q_sq_s, q_sq_n, u1_s, forall_eq, Option.some.injEq, exists_eq_left', Option.getD_some, Value.int.injEq, Value.long.injEq, not_true_eq_false, not_false_eq_true, false_implies, true_implies, forall_const, implies_true, and_true, true_and, Classical.not_not, il_0, il_1, il_2, il_3, il_4, il_5, il_6, il_7, il_8, il_9, il_10, il_11, il_12, il_13, il_14, il_15, il_16, il_17, il_18, il_19, il_20, il_24, il_30, il_31, il_38, il_39, il_40, il_41, il_48, il_50, il_59, il_60, il_63, il_64, il_70, il_80, il_99, il_100, il_120, il_130, il_140, il_144, il_159, il_160, il_162, il_200, il_210, il_240, il_264, il_280, il_281, il_300, il_364, il_368, il_599, il_600, il_601, il_999, il_1610, il_1620, il_1800, il_4000, il_5000, il_7000, il_14500, il_58240, il_1000000, m1_e, nI_1, nI_add, pk_mul, pk_div, pk_sub, nI_clamp, nI_leI, nI_ltI, nI_eq, m1_lt, m1_le, m1_gt, m1_ge, m1_ne, m1_en, ix_nI, im_nI, and1, and3, sh2_, shr2, corner_nI, turned_nI]
    refine ⟨by omega, ⟨o168 K1, trivial⟩, ?_⟩
    have F2 : fr [168, 191] hb (mNo (ah_sf (ah_si hb 191 n v) 168 29 (nI (n + 1))) (nI 0)) := fr_sf (fr_sf (fr_si (fr_refl _ hb) (by decide)) (by decide)) (by decide)
    have m9 : ah_f (mNo (ah_sf (ah_si hb 191 n v) 168 29 (nI (n + 1))) (nI 0)) 168 29 = nI (n + 1) := by
      unfold mNo
      rw [f_sf_s, u1_n _ _ (by decide), f_sf_s, u1_s]
    have m0 : ah_f (mNo (ah_sf (ah_si hb 191 n v) 168 29 (nI (n + 1))) (nI 0)) 168 0 = nI 0 := by
      unfold mNo
      rw [f_sf_s, u1_s]
    have mk : ∀ k, k ≠ 0 → k ≠ 29 → ah_f (mNo (ah_sf (ah_si hb 191 n v) 168 29 (nI (n + 1))) (nI 0)) 168 k = ah_f hb 168 k := fun k k1 k2 => by
      unfold mNo
      rw [f_sf_s, u1_n _ _ k1, f_sf_s, u1_n _ _ k2, f_si]
    have mi : ah_i (mNo (ah_sf (ah_si hb 191 n v) 168 29 (nI (n + 1))) (nI 0)) 191 = u1 (ah_i hb 191) n v := by
      rw [i_mNo, i_sf, i_si_s]
    generalize mNo (ah_sf (ah_si hb 191 n v) 168 29 (nI (n + 1))) (nI 0) = hz at F2 m9 m0 mk mi ⊢
    refine D_nums x (fun a hq => eqc_trans (eqc_fr F1 (fun q => hq ((by decide : ∀ a, a ∈ [0, 3, 4] → a ∈ Tscr) a q))) (eqc_fr F2 (fun q => hq ((by decide : ∀ a, a ∈ [168, 191] → a ∈ Tscr) a q)))) (F2.1.2.2.1.trans F1.1.2.2.1) (F2.1.2.2.2.trans F1.1.2.2.2) (F2.1.2.1.trans F1.1.2.1) (F2.1.1.trans F1.1.1) (fun k hk => ?_) (fun k k1 k2 k3 => ?_) ?_ ⟨n + 1, by omega, ?_, m9, fun k hk => ?_⟩ (NU_eq T2 ?_ ?_ ?_ ?_)
    · rw [fr_f F2 0 (by decide)]
      exact g0 k hk
    · rw [mk k k1 k2, fr_f F1 168 (by decide)]
    · rw [fr_f F2 0 (by decide), g9, m0]
    · rw [fr_f F2 3 (by decide)]
      exact c3
    · rw [mi, fr_i F2 4 (by decide), c4, fr_i F1 191 (by decide)]
      by_cases e : k = n
      · rw [e, u1_s, u1_s]
      · rw [u1_n _ _ e, u1_n _ _ e]
        exact n4 k (by omega)
    · rw [fr_f F2 5 (by decide), fr_f F1 5 (by decide)]
    · rw [mk 38 (by decide) (by decide), fr_f F1 168 (by decide)]
    · rw [fr_i F2 6 (by decide), fr_i F1 6 (by decide)]
    · rw [fr_i F2 198 (by decide), fr_i F1 198 (by decide)]
  · refine c_numfull (o3 K) (r3_0 K) (sp_x K 4 (by decide) rfl) (by decide) n2 (by omega) v ⟨_, rfl, fun _ => ⟨o0 K, c_no K 3 (by decide) ⟨_, rfl, _, rfl, ?_⟩⟩, fun z => absurd rfl z⟩
    have Kf : sp (cNo h (-nI 3)) := K
    have t3 : ah_f (cNo h (-nI 3)) 168 29 = nI n := by unfold cNo; rw [f_sf_n _ _ _ _ _ (by decide)]; exact n3
    have n130 : n = 130 := by omega
    subst n130
    refine X12_type_e (X12_type_0 ?_)
    simp +decide (disch := omega) only [o168 Kf, t3, noC Kf, noV, noH, forall_eq, Option.some.injEq, exists_eq_left', Option.getD_some, Value.int.injEq, Value.long.injEq, not_true_eq_false, not_false_eq_true, false_implies, true_implies, forall_const, implies_true, and_true, true_and, Classical.not_not, il_0, il_1, il_2, il_3, il_4, il_5, il_6, il_7, il_8, il_9, il_10, il_11, il_12, il_13, il_14, il_15, il_16, il_17, il_18, il_19, il_20, il_24, il_30, il_31, il_38, il_39, il_40, il_41, il_48, il_50, il_59, il_60, il_63, il_64, il_70, il_80, il_99, il_100, il_120, il_130, il_140, il_144, il_159, il_160, il_162, il_200, il_210, il_240, il_264, il_280, il_281, il_300, il_364, il_368, il_599, il_600, il_601, il_999, il_1610, il_1620, il_1800, il_4000, il_5000, il_7000, il_14500, il_58240, il_1000000, m1_e, nI_1, nI_add, pk_mul, pk_div, pk_sub, nI_clamp, nI_leI, nI_ltI, nI_eq, m1_lt, m1_le, m1_gt, m1_ge, m1_ne, m1_en, ix_nI, im_nI, and1, and3, sh2_, shr2, corner_nI, turned_nI]
    exact D_no x (fcs_refl h) _ (fms_refl _)
end TYPE
