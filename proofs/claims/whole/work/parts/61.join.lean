/-! The reference: joinArcs. -/
section JOINA
variable {h : AH} {d bc bs : Nat} {Q : Option Value → AH → Prop}
theorem m_joinloop {s n : Nat} (K : sp h) (hs : s < 368) (hn : ah_i h 170 s = nI n) (h40 : n ≤ 40) {y z : Int32} (k : ∀ h', fr [173] h h' → ah_i h' 173 = sub_ (ah_i h 173) (160 * s) (4 * n) y z → Q none h') : ex_G mX12_joinArcs d 18 [.ref 168, .int (nI s), .int y, .int z, .int (nI 0)] [] h bc bs Q := by
  refine lp (4 * n) (fun j h' => fr [173] h h' ∧ ah_i h' 173 = sub_ (ah_i h 173) (160 * s) j y z) (fun j h' => ex_G mX12_joinArcs d 18 [.ref 168, .int (nI s), .int y, .int z, .int (nI j)] [] h' bc bs Q) ⟨fr_refl _ _, (sub_0 _ _ _ _).symm⟩ ?_ ?_
  · rintro j h1 hj ⟨F, e0⟩ nx
    have K1 := sp_fr K F
    have hn1 : ah_i h1 170 s = nI n := by rw [fr_i F 170 (by decide)]; exact hn
    have ej : ah_i h1 173 (160 * s + j) = ah_i h 173 (160 * s + j) := by rw [e0]; exact sub_at
    refine X12_joinArcs_18 ?_
    simp (disch := omega) only [o168 K1, r168_2 K1, s170 K1, t170 K1, r168_5 K1, s173 K1, t173 K1, hn1, ej, forall_eq, Option.some.injEq, exists_eq_left', Option.getD_some, n_sf, k_sf, f_sf_s, f_sf_n, r_sf, i_sf, l_sf, q_sf, ld0_sf, st0_sf, ld1_sf, ld2_sf, ld3_sf, ah_o_sf, in__sf, cp__sf, ah_x_sf, ah_ra_sf, n_si, k_si, f_si, r_si, i_si_s, i_si_n, l_si, q_si, ld0_si, st0_si, ld1_si, ld2_si, ld3_si, ah_o_si, in__si, cp__si, ah_x_si, ah_ra_si, n_sl, k_sl, f_sl, r_sl, i_sl, l_sl_s, l_sl_n, q_sl, ld0_sl, st0_sl, ld1_sl, ld2_sl, ld3_sl, ah_o_sl, in__sl, cp__sl, ah_x_sl, ah_ra_sl, n_wi, k_wi, f_wi, r_wi, i_wi_s, i_wi_n, l_wi, q_wi, ld0_wi, st0_wi, ld1_wi, ld2_wi, ld3_wi, ah_o_wi, in__wi, cp__wi, ah_x_wi, ah_ra_wi, n_wl, k_wl, f_wl, r_wl, i_wl, l_wl_s, l_wl_n, q_wl, ld0_wl, st0_wl, ld1_wl, ld2_wl, ld3_wl, ah_o_wl, in__wl, cp__wl, ah_x_wl, ah_ra_wl, n_sr, k_sr, f_sr, r_sr_s, r_sr_n, i_sr, l_sr, q_sr, n_sq, k_sq, f_sq, r_sq, i_sq, l_sq, q_sq_s, q_sq_n, il_0, il_1, il_2, il_3, il_4, il_5, il_6, il_7, il_8, il_9, il_10, il_11, il_12, il_13, il_14, il_15, il_16, il_17, il_18, il_19, il_20, il_24, il_30, il_31, il_38, il_39, il_40, il_41, il_48, il_50, il_59, il_60, il_63, il_64, il_70, il_80, il_99, il_100, il_120, il_130, il_140, il_144, il_159, il_160, il_162, il_200, il_210, il_240, il_264, il_280, il_281, il_300, il_364, il_368, il_599, il_600, il_601, il_999, il_1610, il_1620, il_1800, il_4000, il_5000, il_7000, il_14500, il_58240, il_1000000, m1_e, nI_1, nI_add, pk_mul, pk_div, pk_sub, nI_clamp, nI_leI, nI_ltI, nI_eq, m1_lt, m1_le, m1_gt, m1_ge, m1_ne, m1_en, ix_nI, im_nI, and1, and3, sh2_, shr2, corner_nI, turned_nI]
    refine ⟨trivial, by omega, fun w => by omega, fun _ => ⟨by omega, fun w => ⟨by omega, nx _ ⟨fr_si F (by decide), ?_⟩⟩, fun w => ⟨by omega, nx _ ⟨fr_si F (by decide), ?_⟩⟩⟩⟩
    · rw [i_si_s, e0, ← sub_n w]
      have := u1_e (sub_ (ah_i h 173) (160 * s) j y z) (160 * s + j)
      rw [sub_at] at this
      exact this
    · rw [i_si_s, e0]
      exact sub_y w
  · rintro h1 ⟨F, e0⟩
    have K1 := sp_fr K F
    have hn1 : ah_i h1 170 s = nI n := by rw [fr_i F 170 (by decide)]; exact hn
    refine X12_joinArcs_18 ?_
    simp (disch := omega) only [o168 K1, r168_2 K1, s170 K1, t170 K1, r168_5 K1, s173 K1, t173 K1, hn1, forall_eq, Option.some.injEq, exists_eq_left', Option.getD_some, n_sf, k_sf, f_sf_s, f_sf_n, r_sf, i_sf, l_sf, q_sf, ld0_sf, st0_sf, ld1_sf, ld2_sf, ld3_sf, ah_o_sf, in__sf, cp__sf, ah_x_sf, ah_ra_sf, n_si, k_si, f_si, r_si, i_si_s, i_si_n, l_si, q_si, ld0_si, st0_si, ld1_si, ld2_si, ld3_si, ah_o_si, in__si, cp__si, ah_x_si, ah_ra_si, n_sl, k_sl, f_sl, r_sl, i_sl, l_sl_s, l_sl_n, q_sl, ld0_sl, st0_sl, ld1_sl, ld2_sl, ld3_sl, ah_o_sl, in__sl, cp__sl, ah_x_sl, ah_ra_sl, n_wi, k_wi, f_wi, r_wi, i_wi_s, i_wi_n, l_wi, q_wi, ld0_wi, st0_wi, ld1_wi, ld2_wi, ld3_wi, ah_o_wi, in__wi, cp__wi, ah_x_wi, ah_ra_wi, n_wl, k_wl, f_wl, r_wl, i_wl, l_wl_s, l_wl_n, q_wl, ld0_wl, st0_wl, ld1_wl, ld2_wl, ld3_wl, ah_o_wl, in__wl, cp__wl, ah_x_wl, ah_ra_wl, n_sr, k_sr, f_sr, r_sr_s, r_sr_n, i_sr, l_sr, q_sr, n_sq, k_sq, f_sq, r_sq, i_sq, l_sq, q_sq_s, q_sq_n, il_0, il_1, il_2, il_3, il_4, il_5, il_6, il_7, il_8, il_9, il_10, il_11, il_12, il_13, il_14, il_15, il_16, il_17, il_18, il_19, il_20, il_24, il_30, il_31, il_38, il_39, il_40, il_41, il_48, il_50, il_59, il_60, il_63, il_64, il_70, il_80, il_99, il_100, il_120, il_130, il_140, il_144, il_159, il_160, il_162, il_200, il_210, il_240, il_264, il_280, il_281, il_300, il_364, il_368, il_599, il_600, il_601, il_999, il_1610, il_1620, il_1800, il_4000, il_5000, il_7000, il_14500, il_58240, il_1000000, m1_e, nI_1, nI_add, pk_mul, pk_div, pk_sub, nI_clamp, nI_leI, nI_ltI, nI_eq, m1_lt, m1_le, m1_gt, m1_ge, m1_ne, m1_en, ix_nI, im_nI, and1, and3, sh2_, shr2, corner_nI, turned_nI]
    exact ⟨trivial, by omega, fun _ => k h1 F e0, fun z => (by first | omega | exact absurd trivial z | exact z.elim | exact absurd rfl z)⟩
theorem m_joinArcs {s n : Nat} (K : sp h) (hs : s < 368) (hn : ah_i h 170 s = nI n) (h40 : n ≤ 40) {y z : Int32} (ne : ¬ y = z) (k : ∀ h', fr [173] h h' → ah_i h' 173 = sub_ (ah_i h 173) (160 * s) (4 * n) y z → Q none h') : ex_S yX12_joinArcs mX12_joinArcs d [.ref 168, .int (nI s), .int y, .int z] h bc bs Q :=
  X12_joinArcs_e (X12_joinArcs_0 ⟨fun _ => m_joinloop K hs hn h40 k, fun w => absurd w ne⟩)
theorem sub_same (f : Nat → Int32) (at_ n : Nat) (y : Int32) : sub_ f at_ n y y = f := by
  funext e
  unfold sub_
  split
  · next w => exact w.2.2.symm
  · rfl
theorem m_joinArcs1 {s n l : Nat} (K : sp h) (hs : s < 368) (hn : ah_i h 170 s = nI n) (h40 : n ≤ 40) (hl : ah_i h 171 s = nI l) (y : Int32) (k : ∀ h', fr [171, 173] h h' → ah_i h' 171 = u1 (ah_i h 171) s (nI (l + 1)) → ah_i h' 173 = ah_i h 173 → Q none h') : ex_S yX12_joinArcs mX12_joinArcs d [.ref 168, .int (nI s), .int y, .int y] h bc bs Q := by
  refine X12_joinArcs_e (X12_joinArcs_0 ⟨fun w => absurd rfl w, fun _ => ?_⟩)
  simp (disch := omega) only [o168 K, r168_3 K, s171 K, t171 K, hl, forall_eq, Option.some.injEq, exists_eq_left', Option.getD_some, n_sf, k_sf, f_sf_s, f_sf_n, r_sf, i_sf, l_sf, q_sf, ld0_sf, st0_sf, ld1_sf, ld2_sf, ld3_sf, ah_o_sf, in__sf, cp__sf, ah_x_sf, ah_ra_sf, n_si, k_si, f_si, r_si, i_si_s, i_si_n, l_si, q_si, ld0_si, st0_si, ld1_si, ld2_si, ld3_si, ah_o_si, in__si, cp__si, ah_x_si, ah_ra_si, n_sl, k_sl, f_sl, r_sl, i_sl, l_sl_s, l_sl_n, q_sl, ld0_sl, st0_sl, ld1_sl, ld2_sl, ld3_sl, ah_o_sl, in__sl, cp__sl, ah_x_sl, ah_ra_sl, n_wi, k_wi, f_wi, r_wi, i_wi_s, i_wi_n, l_wi, q_wi, ld0_wi, st0_wi, ld1_wi, ld2_wi, ld3_wi, ah_o_wi, in__wi, cp__wi, ah_x_wi, ah_ra_wi, n_wl, k_wl, f_wl, r_wl, i_wl, l_wl_s, l_wl_n, q_wl, ld0_wl, st0_wl, ld1_wl, ld2_wl, ld3_wl, ah_o_wl, in__wl, cp__wl, ah_x_wl, ah_ra_wl, n_sr, k_sr, f_sr, r_sr_s, r_sr_n, i_sr, l_sr, q_sr, n_sq, k_sq, f_sq, r_sq, i_sq, l_sq, q_sq_s, q_sq_n, il_0, il_1, il_2, il_3, il_4, il_5, il_6, il_7, il_8, il_9, il_10, il_11, il_12, il_13, il_14, il_15, il_16, il_17, il_18, il_19, il_20, il_24, il_30, il_31, il_38, il_39, il_40, il_41, il_48, il_50, il_59, il_60, il_63, il_64, il_70, il_80, il_99, il_100, il_120, il_130, il_140, il_144, il_159, il_160, il_162, il_200, il_210, il_240, il_264, il_280, il_281, il_300, il_364, il_368, il_599, il_600, il_601, il_999, il_1610, il_1620, il_1800, il_4000, il_5000, il_7000, il_14500, il_58240, il_1000000, m1_e, nI_1, nI_add, pk_mul, pk_div, pk_sub, nI_clamp, nI_leI, nI_ltI, nI_eq, m1_lt, m1_le, m1_gt, m1_ge, m1_ne, m1_en, ix_nI, im_nI, and1, and3, sh2_, shr2, corner_nI, turned_nI]
  refine ⟨trivial, hs, hs, ?_⟩
  have F : fr [171, 173] h (ah_si h 171 s (nI (l + 1))) := fr_si (fr_refl _ h) (by decide)
  have e1 : ah_i (ah_si h 171 s (nI (l + 1))) 171 = u1 (ah_i h 171) s (nI (l + 1)) := i_si_s _ _ _ _
  have e3 : ah_i (ah_si h 171 s (nI (l + 1))) 173 = ah_i h 173 := i_si_n _ _ _ _ _ (by decide)
  generalize ah_si h 171 s (nI (l + 1)) = ha at F e1 e3 ⊢
  refine m_joinloop (sp_fr K F) hs (by rw [fr_i F 170 (by decide)]; exact hn) h40 (fun h' F2 g => ?_)
  rw [sub_same] at g
  exact k h' (fr_trans F (fr_mono F2 (by decide))) (by rw [fr_i F2 171 (by decide)]; exact e1) (by rw [g]; exact e3)
end JOINA
