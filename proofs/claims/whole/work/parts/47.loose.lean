/-! loose. -/
section LOOSE
variable {h h' : AH} {d bc bs : Nat} {Q : Option Value → AH → Prop} {W : Nat → Nat} {N : Nat} {B : Nat → Nat} {S : Nat → Int32} {len : Nat}
theorem in09 {v : Int32} (h : AH) : X12_in_V v.toInt64 0 9 h = nI 0 ↔ ¬ ix v 10 := by
  refine (in_rg (v := v) 0 9 (by decide) (by decide) h).trans ?_
  unfold ix
  constructor <;> intro q p <;> exact q ⟨by omega, by omega⟩
theorem le9 {v : Int32} (a : ¬ v < nI 0) (b : v ≤ nI 9) : ix v 10 := by
  rw [Int32.lt_iff_toInt_lt, nI_toInt (by decide)] at a
  rw [Int32.le_iff_toInt_le, nI_toInt (by decide)] at b
  exact ⟨by omega, by omega⟩
theorem st_loose (x : R0 h W N B S len) (p v : Int32) : ST yX11_loose mX11_loose yX12_loose mX12_loose (d + 1) (d + 2) [.int p, .int v] h bc bs W S len := by
  have K := x.2.1
  obtain ⟨h24, hN, hN2, hP⟩ := x.2.2.2.2.1
  refine X11_loose_e (X11_loose_0 ?_)
  by_cases hall : ix p N ∧ ix v 10
  · obtain ⟨hp, hv⟩ := hall
    obtain ⟨p0, hp0, rfl⟩ := ix_of hp (by omega)
    obtain ⟨w, hw, rfl⟩ := ix_of hv (by decide)
    obtain ⟨x1, x2, pt1, ⟨w0, w1, w2⟩, ⟨n, l, y1, y2, y3, y4, y5, y6, y7, y8, y9⟩, hh⟩ := (hP p0 hp0).2
    have hq := (hP p0 hp0).1
    have hp24 : p0 < 24 := by omega
    have hp36 : p0 < 368 := by omega
    have bx := pt1.1
    have fgc : X7_forget_C (B p0) h := ⟨pt_o pt1, trivial⟩
    have w9 : w ≤ 9 := by omega
    simp (disch := omega) only [o0 K, hasPC K, hasP hN h24, hp, r0_0 K, s1 K, hq, hp24, pt_o pt1, y4, fgc, w9, Nat.not_lt_zero, forall_eq, Option.some.injEq, exists_eq_left', Option.getD_some, Value.int.injEq, Value.long.injEq, not_true_eq_false, not_false_eq_true, false_implies, true_implies, forall_const, implies_true, and_true, true_and, Classical.not_not, il_0, il_1, il_2, il_3, il_4, il_5, il_6, il_7, il_8, il_9, il_10, il_11, il_12, il_13, il_14, il_15, il_16, il_17, il_18, il_19, il_20, il_24, il_30, il_31, il_38, il_39, il_40, il_41, il_48, il_50, il_59, il_60, il_63, il_64, il_70, il_80, il_99, il_100, il_120, il_130, il_140, il_144, il_159, il_160, il_162, il_200, il_210, il_240, il_264, il_280, il_281, il_300, il_364, il_368, il_599, il_600, il_601, il_999, il_1610, il_1620, il_1800, il_4000, il_5000, il_7000, il_14500, il_58240, il_1000000, m1_e, nI_1, nI_add, pk_mul, pk_div, pk_sub, nI_clamp, nI_leI, nI_ltI, nI_eq, m1_lt, m1_le, m1_gt, m1_ge, m1_ne, m1_en, ix_nI, im_nI, and1, and3, sh2_, shr2, corner_nI, turned_nI]
    have F0 : fr [B p0, B p0 + 1, B p0 + 2] h (X7_forget_H (B p0) h) := fr_sf (fr_refl _ h) (by simp only [List.mem_cons, List.not_mem_nil, or_false, true_or, or_true, not_true_eq_false] <;> omega)
    have g0 : ah_f (X7_forget_H (B p0) h) (B p0) = u1 (ah_f h (B p0)) 5 (nI 0) := f_sf_s _ _ _ _
    have p0t : pt (X7_forget_H (B p0) h) (B p0) := pt_fr pt1 F0
    have gi0 : ah_i (X7_forget_H (B p0) h) = ah_i h := i_sf _ _ _ _
    generalize X7_forget_H (B p0) h = ha at F0 g0 p0t gi0 ⊢
    have F1 : fr [B p0, B p0 + 1, B p0 + 2] h (ah_sf ha (B p0) 3 (nI w)) := fr_sf F0 (by simp only [List.mem_cons, List.not_mem_nil, or_false, true_or, or_true, not_true_eq_false] <;> omega)
    have g1 : ah_f (ah_sf ha (B p0) 3 (nI w)) (B p0) = u1 (u1 (ah_f h (B p0)) 5 (nI 0)) 3 (nI w) := by rw [f_sf_s, g0]
    refine ⟨pt_o p0t, ?_⟩
    have Kb : sp (ah_sf ha (B p0) 3 (nI w)) := sp_fr K F1
    refine ⟨o0 Kb, ⟨o0 Kb, trivial⟩, ?_⟩
    rw [grV, grH]
    have gb : ah_i (ah_sf ha (B p0) 3 (nI w)) = ah_i h := by rw [i_sf, gi0]
    generalize ah_sf ha (B p0) 3 (nI w) = hb at F1 g1 Kb gb ⊢
    have fb : fp p0 W h (cNo hb (nI 0)) := fp_trans (fp_fr F1 (fun a ha => by
      simp only [List.mem_cons, List.not_mem_nil, or_false] at ha
      rcases ha with e | e | e
      · rw [e]; exact ⟨x1, by omega, w0⟩
      · rw [e]; exact ⟨by omega, by omega, w1⟩
      · rw [e]; exact ⟨by omega, by omega, w2⟩)) (fp_f0 (by omega))
    have K1 := fb.2.2.2.2.1 K
    have q6 := (fb.2.2.2.1 6 (by decide) (by decide) (by decide) (by decide)).trans hN2
    have m171 : ah_i (cNo hb (nI 0)) 171 p0 = nI l := by rw [i_cNo, gb]; exact y5
    have hv2 : X12_in_V (Int32.toInt64 (nI w)) 0 9 (cNo hb (nI 0)) = nI 0 ↔ ¬ ix (nI w) 10 := in09 _
    refine X12_loose_e (X12_loose_0 ?_)
    simp (disch := omega) only [o168 K1, isPC K1, isP_ q6 h24, hp, hv2, hv, r168_3 K1, s171 K1, t171 K1, m171, r168_7 K1, t174 K1, weV, weH, hp24, hp36, n_sf, k_sf, f_sf_s, f_sf_n, r_sf, i_sf, l_sf, q_sf, ld0_sf, st0_sf, ld1_sf, ld2_sf, ld3_sf, ah_o_sf, in__sf, cp__sf, ah_x_sf, ah_ra_sf, n_si, k_si, f_si, r_si, i_si_s, i_si_n, l_si, q_si, ld0_si, st0_si, ld1_si, ld2_si, ld3_si, ah_o_si, in__si, cp__si, ah_x_si, ah_ra_si, n_sl, k_sl, f_sl, r_sl, i_sl, l_sl_s, l_sl_n, q_sl, ld0_sl, st0_sl, ld1_sl, ld2_sl, ld3_sl, ah_o_sl, in__sl, cp__sl, ah_x_sl, ah_ra_sl, n_wi, k_wi, f_wi, r_wi, i_wi_s, i_wi_n, l_wi, q_wi, ld0_wi, st0_wi, ld1_wi, ld2_wi, ld3_wi, ah_o_wi, in__wi, cp__wi, ah_x_wi, ah_ra_wi, n_wl, k_wl, f_wl, r_wl, i_wl, l_wl_s, l_wl_n, q_wl, ld0_wl, st0_wl, ld1_wl, ld2_wl, ld3_wl, ah_o_wl, in__wl, cp__wl, ah_x_wl, ah_ra_wl, n_sr, k_sr, f_sr, r_sr_s, r_sr_n, i_sr, l_sr, q_sr, n_sq, k_sq, f_sq, r_sq, i_sq, l_sq, q_sq_s, q_sq_n, forall_eq, Option.some.injEq, exists_eq_left', Option.getD_some, Value.int.injEq, Value.long.injEq, not_true_eq_false, not_false_eq_true, false_implies, true_implies, forall_const, implies_true, and_true, true_and, Classical.not_not, il_0, il_1, il_2, il_3, il_4, il_5, il_6, il_7, il_8, il_9, il_10, il_11, il_12, il_13, il_14, il_15, il_16, il_17, il_18, il_19, il_20, il_24, il_30, il_31, il_38, il_39, il_40, il_41, il_48, il_50, il_59, il_60, il_63, il_64, il_70, il_80, il_99, il_100, il_120, il_130, il_140, il_144, il_159, il_160, il_162, il_200, il_210, il_240, il_264, il_280, il_281, il_300, il_364, il_368, il_599, il_600, il_601, il_999, il_1610, il_1620, il_1800, il_4000, il_5000, il_7000, il_14500, il_58240, il_1000000, m1_e, nI_1, nI_add, pk_mul, pk_div, pk_sub, nI_clamp, nI_leI, nI_ltI, nI_eq, m1_lt, m1_le, m1_gt, m1_ge, m1_ne, m1_en, ix_nI, im_nI, and1, and3, sh2_, shr2, corner_nI, turned_nI]
    refine ⟨⟨o168 K1, trivial⟩, ?_⟩
    have fc : fp p0 W (cNo hb (nI 0)) (mNo (ah_si (ah_si (cNo hb (nI 0)) 171 p0 (nI w)) 174 p0 (nI 0)) (nI 0)) := fp_trans (fp_trans fp_171 fp_174) (fp_f168 (by omega))
    have jb : ∀ a, a ≠ 171 → a ≠ 174 → ah_i (mNo (ah_si (ah_si (cNo hb (nI 0)) 171 p0 (nI w)) 174 p0 (nI 0)) (nI 0)) a = ah_i h a := fun a a1 a2 => by rw [i_mNo, i_si_n _ _ _ _ _ a2, i_si_n _ _ _ _ _ a1, i_cNo, gb]
    have jf : ah_f (mNo (ah_si (ah_si (cNo hb (nI 0)) 171 p0 (nI w)) 174 p0 (nI 0)) (nI 0)) (B p0) = u1 (u1 (ah_f h (B p0)) 5 (nI 0)) 3 (nI w) := by
      unfold mNo
      rw [f_sf_n _ _ _ _ _ (by omega), f_si, f_si]
      unfold cNo
      rw [f_sf_n _ _ _ _ _ (by omega), g1]
    have j1 : ah_i (mNo (ah_si (ah_si (cNo hb (nI 0)) 171 p0 (nI w)) 174 p0 (nI 0)) (nI 0)) 171 p0 = nI w := by rw [i_mNo, i_si_n _ _ _ _ _ (by decide), i_si_s, u1_s]
    refine D_edit x hp0 (fp_trans fb fc) ?_ ?_ ?_ ?_ ?_ (jb 167 (by decide) (by decide)) (jb 169 (by decide) (by decide)) ?_ ?_ ?_ ?_
    · rw [n_mNo, n_si, n_si, n_cNo]; exact F1.1.1
    · rw [k_mNo, k_si, k_si, k_cNo]; exact F1.1.2.1
    · rw [r_mNo, r_si, r_si, r_cNo]; exact F1.1.2.2.1
    · intro k
      unfold mNo
      rw [f_sf_n _ _ _ _ _ (by decide), f_si, f_si]
      unfold cNo
      rw [f_sf_s, fr_f F1 0 (by simp only [List.mem_cons, List.not_mem_nil, or_false, true_or, or_true, not_true_eq_false] <;> omega)]
    · intro k
      unfold mNo
      rw [f_sf_s, f_si, f_si]
      unfold cNo
      rw [f_sf_n _ _ _ _ _ (by decide), fr_f F1 168 (by simp only [List.mem_cons, List.not_mem_nil, or_false, true_or, or_true, not_true_eq_false] <;> omega)]
    · rw [jf, u1_n _ _ (by decide), u1_s]
    · rw [jf, u1_n _ _ (by decide), u1_n _ _ (by decide)]
    · rw [i_mNo, i_si_s, u1_s]
    · refine ⟨n, w, ?_, ?_, w9, ?_, j1, ?_, ?_, ?_, ?_⟩
      · rw [jf, u1_n _ _ (by decide), u1_n _ _ (by decide)]; exact y1
      · rw [jb 170 (by decide) (by decide)]; exact y2
      · rw [jf, u1_s]
      · rw [jb (B p0 + 1) (by omega) (by omega), jb (B p0 + 2) (by omega) (by omega)]; exact y6
      · rw [jb (B p0 + 1) (by omega) (by omega), jb 172 (by decide) (by decide)]; exact y7
      · rw [jb (B p0 + 2) (by omega) (by omega), jb 173 (by decide) (by decide)]; exact y8
      · rw [jb (B p0 + 1) (by omega) (by omega), jb (B p0 + 2) (by omega) (by omega)]; exact y9
  · have Kc : sp (cNo h (-nI 2)) := K
    have q6 : ah_f (cNo h (-nI 2)) 168 6 = nI N := by unfold cNo; rw [f_sf_n _ _ _ _ _ (by decide)]; exact hN2
    have fin := D_no x (fcs_refl h) (-nI 2) (fms_refl _)
    have hv : X12_in_V (Int32.toInt64 v) 0 9 (cNo h (-nI 2)) = nI 0 ↔ ¬ ix v 10 := in09 _
    have mm : ex_S yX12_loose mX12_loose (d + 2) [.ref 168, .int p, .int v] (cNo h (-nI 2)) 0 0 (fun r' h2 => r' = some (.int (-nI 2)) ∧ DONE h h2 W S len) := by
      refine X12_loose_e (X12_loose_0 ?_)
      simp only [o168 Kc, isPC Kc, isP_ q6 h24, hv, noC Kc, noV, noH, forall_eq, Option.some.injEq, exists_eq_left', Option.getD_some, Value.int.injEq, Value.long.injEq, not_true_eq_false, not_false_eq_true, false_implies, true_implies, forall_const, implies_true, and_true, true_and, Classical.not_not, il_0, il_1, il_2, il_3, il_4, il_5, il_6, il_7, il_8, il_9, il_10, il_11, il_12, il_13, il_14, il_15, il_16, il_17, il_18, il_19, il_20, il_24, il_30, il_31, il_38, il_39, il_40, il_41, il_48, il_50, il_59, il_60, il_63, il_64, il_70, il_80, il_99, il_100, il_120, il_130, il_140, il_144, il_159, il_160, il_162, il_200, il_210, il_240, il_264, il_280, il_281, il_300, il_364, il_368, il_599, il_600, il_601, il_999, il_1610, il_1620, il_1800, il_4000, il_5000, il_7000, il_14500, il_58240, il_1000000]
      exact ⟨fun _ => fin, fun b1 => ⟨fun b2 => absurd ⟨b1, b2⟩ hall, fun _ => fin⟩⟩
    have cc_ : ex_S yX11_refuse mX11_refuse d [.ref 0, .int (-nI 2)] h 0 0 (fun r h4 => ∃ x5, r = some (.int x5) ∧ ex_S yX12_loose mX12_loose (d + 2) [.ref 168, .int p, .int v] h4 0 0 (fun r' h2 => r' = some (.int x5) ∧ DONE h h2 W S len)) := c_no K 2 (by decide) ⟨_, rfl, mm⟩
    simp only [o0 K, hasPC K, hasP hN h24, forall_eq, Option.some.injEq, exists_eq_left', Option.getD_some, Value.int.injEq, Value.long.injEq, not_true_eq_false, not_false_eq_true, false_implies, true_implies, forall_const, implies_true, and_true, true_and, Classical.not_not, il_0, il_1, il_2, il_3, il_4, il_5, il_6, il_7, il_8, il_9, il_10, il_11, il_12, il_13, il_14, il_15, il_16, il_17, il_18, il_19, il_20, il_24, il_30, il_31, il_38, il_39, il_40, il_41, il_48, il_50, il_59, il_60, il_63, il_64, il_70, il_80, il_99, il_100, il_120, il_130, il_140, il_144, il_159, il_160, il_162, il_200, il_210, il_240, il_264, il_280, il_281, il_300, il_364, il_368, il_599, il_600, il_601, il_999, il_1610, il_1620, il_1800, il_4000, il_5000, il_7000, il_14500, il_58240, il_1000000]
    exact ⟨fun _ => cc_, fun b1 => ⟨fun _ => cc_, fun b2 => ⟨fun b3 => absurd ⟨b1, le9 b2 b3⟩ hall, fun _ => cc_⟩⟩⟩
end LOOSE
